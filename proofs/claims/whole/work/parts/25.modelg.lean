theorem dX12_acts_0 : decode cX12_acts 0 = .ok (.aload_n 0, 1) := by decide +kernel
theorem dX12_acts_1 : decode cX12_acts 1 = .ok (.getfield 156, 3) := by decide +kernel
theorem dX12_acts_4 : decode cX12_acts 4 = .ok (.iload_n 1, 1) := by decide +kernel
theorem dX12_acts_5 : decode cX12_acts 5 = .ok (.iaload, 1) := by decide +kernel
theorem dX12_acts_6 : decode cX12_acts 6 = .ok (.ifCond .le 16, 3) := by decide +kernel
theorem dX12_acts_9 : decode cX12_acts 9 = .ok (.aload_n 0, 1) := by decide +kernel
theorem dX12_acts_10 : decode cX12_acts 10 = .ok (.getfield 156, 3) := by decide +kernel
theorem dX12_acts_13 : decode cX12_acts 13 = .ok (.iload_n 1, 1) := by decide +kernel
theorem dX12_acts_14 : decode cX12_acts 14 = .ok (.dup2, 1) := by decide +kernel
theorem dX12_acts_15 : decode cX12_acts 15 = .ok (.iaload, 1) := by decide +kernel
theorem dX12_acts_16 : decode cX12_acts 16 = .ok (.iconst 1, 1) := by decide +kernel
theorem dX12_acts_17 : decode cX12_acts 17 = .ok (.isub, 1) := by decide +kernel
theorem dX12_acts_18 : decode cX12_acts 18 = .ok (.iastore, 1) := by decide +kernel
theorem dX12_acts_19 : decode cX12_acts 19 = .ok (.goto 49, 3) := by decide +kernel
theorem dX12_acts_22 : decode cX12_acts 22 = .ok (.aload_n 0, 1) := by decide +kernel
theorem dX12_acts_23 : decode cX12_acts 23 = .ok (.getfield 138, 3) := by decide +kernel
theorem dX12_acts_26 : decode cX12_acts 26 = .ok (.ifCond .lt 20, 3) := by decide +kernel
theorem dX12_acts_29 : decode cX12_acts 29 = .ok (.iload_n 2, 1) := by decide +kernel
theorem dX12_acts_30 : decode cX12_acts 30 = .ok (.aload_n 0, 1) := by decide +kernel
theorem dX12_acts_31 : decode cX12_acts 31 = .ok (.getfield 138, 3) := by decide +kernel
theorem dX12_acts_34 : decode cX12_acts 34 = .ok (.if_icmp .lt 12, 3) := by decide +kernel
theorem dX12_acts_37 : decode cX12_acts 37 = .ok (.aload_n 0, 1) := by decide +kernel
theorem dX12_acts_38 : decode cX12_acts 38 = .ok (.iload_n 1, 1) := by decide +kernel
theorem dX12_acts_39 : decode cX12_acts 39 = .ok (.iload_n 2, 1) := by decide +kernel
theorem dX12_acts_40 : decode cX12_acts 40 = .ok (.invokevirtual 455, 3) := by decide +kernel
theorem dX12_acts_43 : decode cX12_acts 43 = .ok (.goto 25, 3) := by decide +kernel
theorem dX12_acts_46 : decode cX12_acts 46 = .ok (.aload_n 0, 1) := by decide +kernel
theorem dX12_acts_47 : decode cX12_acts 47 = .ok (.iload_n 1, 1) := by decide +kernel
theorem dX12_acts_48 : decode cX12_acts 48 = .ok (.invokevirtual 458, 3) := by decide +kernel
theorem dX12_acts_51 : decode cX12_acts 51 = .ok (.ifCond .eq 12, 3) := by decide +kernel
theorem dX12_acts_54 : decode cX12_acts 54 = .ok (.aload_n 0, 1) := by decide +kernel
theorem dX12_acts_55 : decode cX12_acts 55 = .ok (.iload_n 1, 1) := by decide +kernel
theorem dX12_acts_56 : decode cX12_acts 56 = .ok (.iload_n 2, 1) := by decide +kernel
theorem dX12_acts_57 : decode cX12_acts 57 = .ok (.invokevirtual 461, 3) := by decide +kernel
theorem dX12_acts_60 : decode cX12_acts 60 = .ok (.goto 8, 3) := by decide +kernel
theorem dX12_acts_63 : decode cX12_acts 63 = .ok (.aload_n 0, 1) := by decide +kernel
theorem dX12_acts_64 : decode cX12_acts 64 = .ok (.iload_n 1, 1) := by decide +kernel
theorem dX12_acts_65 : decode cX12_acts 65 = .ok (.invokevirtual 464, 3) := by decide +kernel
theorem dX12_acts_68 : decode cX12_acts 68 = .ok (.return_, 1) := by decide +kernel
def F_X12_acts_b46 (N : Nat) (x1 : Int32) (x2 : Int32) (h : PH) : Option PH :=
  bI (F_X12_mayStop N x1 h) fun r1 h2 =>
  if r1 = 0 then
    bV (F_X12_goes N x1 h2) fun h5 =>
    some h5
  else
    bV (F_X12_stopsAt N x1 x2 h2) fun h7 =>
    some h7
set_option maxRecDepth 20000 in
set_option maxHeartbeats 4000000 in
theorem T_X12_acts_b46 {X : CT} (C : CX X 154 cX12_acts 3 RX12 none 4 94) {h0 : PH} {N : Nat} : ∀ (x1 : Int32) (x2 : Int32) (h : PH), F_X12_acts_b46 N x1 x2 h = some h0 → V X (QV X h0) h 46 [some (.ref 103), some (.int x1), some (.int x2)] [] := by
  intro x1 x2 h hyp
  unfold F_X12_acts_b46 at hyp
  refine V_aload_n (pc := 46) C dX12_acts_46 rfl ?_
  refine V_iload_n (pc := 47) C dX12_acts_47 rfl ?_
  obtain ⟨r1, h2, eh2, hyp⟩ := bI_n hyp
  refine V_callI (pc := 48) C dX12_acts_48 lm_X12_458 mk_X12_mayStop ok_103 rfl (M_X12_mayStop _ eh2) rfl pd_X12_mayStop (by decide) (by decide) (by decide) (As := [.int x1]) (rest := []) rfl (Nat.le_of_ble_eq_true rfl) ?_
  refine V_if_eq (pc := 51) C dX12_acts_51 (tgt := 63) (by decide) (fun q3 => ?_) (fun q3 => ?_)
  · replace hyp := (if_pos q3).symm.trans hyp
    refine V_aload_n (pc := 63) C dX12_acts_63 rfl ?_
    refine V_iload_n (pc := 64) C dX12_acts_64 rfl ?_
    obtain ⟨h5, eh5, hyp⟩ := bV_n hyp
    refine V_callV (pc := 65) C dX12_acts_65 lm_X12_464 mk_X12_goes ok_103 rfl (M_X12_goes _ eh5) rfl pd_X12_goes (by decide) (by decide) (by decide) (As := [.int x1]) (rest := []) rfl (Nat.le_of_ble_eq_true rfl) ?_
    cases hyp
    exact V_vret C dX12_acts_68
  · replace hyp := (if_neg q3).symm.trans hyp
    refine V_aload_n (pc := 54) C dX12_acts_54 rfl ?_
    refine V_iload_n (pc := 55) C dX12_acts_55 rfl ?_
    refine V_iload_n (pc := 56) C dX12_acts_56 rfl ?_
    obtain ⟨h7, eh7, hyp⟩ := bV_n hyp
    refine V_callV (pc := 57) C dX12_acts_57 lm_X12_461 mk_X12_stopsAt ok_103 rfl (M_X12_stopsAt _ eh7) rfl pd_X12_stopsAt (by decide) (by decide) (by decide) (As := [.int x1, .int x2]) (rest := []) rfl (Nat.le_of_ble_eq_true rfl) ?_
    refine V_goto (pc := 60) C dX12_acts_60 (tgt := 68) (by decide) ?_
    cases hyp
    exact V_vret C dX12_acts_68
def F_X12_acts (N : Nat) (a1 : Int32) (a2 : Int32) (h : PH) : Option PH :=
  if inb a1 2 = true then
  if (h.1 147 a1.toNatClampNeg) ≤ 0 then
    if (h.1 103 65) < 0 then
      F_X12_acts_b46 N a1 a2 h
    else
      if a2 < (h.1 103 65) then
        F_X12_acts_b46 N a1 a2 h
      else
        bV (F_X12_flees N a1 a2 h) fun h6 =>
        some h6
  else
    if inb a1 2 = true then
    hb (hs h 147 a1.toNatClampNeg ((h.1 147 a1.toNatClampNeg) - (1 : Int32))) fun h8 =>
    some h8
    else none
  else none
set_option maxRecDepth 20000 in
set_option maxHeartbeats 4000000 in
theorem M_X12_acts (E : EV) {N : Nat} {a1 : Int32} {a2 : Int32} {h h2 : PH} (hyp : F_X12_acts N a1 a2 h = some h2) : MV E 154 yX12_acts cX12_acts 3 none 4 94 [.ref 103, .int a1, .int a2] h h2 := by
  refine MV.of 0 (by decide) rfl (fun X e1 C => ?_)
  subst e1
  replace C : CX X 154 cX12_acts 3 RX12 none 4 94 := C
  show V X _ h 0 [some (.ref 103), some (.int a1), some (.int a2)] []
  unfold F_X12_acts at hyp
  refine V_aload_n (pc := 0) C dX12_acts_0 rfl ?_
  refine V_getR (pc := 1) C dX12_acts_1 lf_X12_156 fk_103_71 ?_
  refine V_iload_n (pc := 4) C dX12_acts_4 rfl ?_
  obtain ⟨g1, hyp⟩ := gd_n hyp
  refine V_iald (pc := 5) C dX12_acts_5 ak_147 g1 ?_
  refine V_if_le (pc := 6) C dX12_acts_6 (tgt := 22) (by decide) (fun q2 => ?_) (fun q2 => ?_)
  · replace hyp := (if_pos q2).symm.trans hyp
    refine V_aload_n (pc := 22) C dX12_acts_22 rfl ?_
    refine V_getI (pc := 23) C dX12_acts_23 lf_X12_138 fk_103_65 ?_
    refine V_if_lt (pc := 26) C dX12_acts_26 (tgt := 46) (by decide) (fun q3 => ?_) (fun q3 => ?_)
    · replace hyp := (if_pos q3).symm.trans hyp
      refine V_weak (lv' := [some (.ref 103), some (.int a1), some (.int a2)]) (lvle_s (lvle_s (lvle_s lvle_0))) ?_
      exact (T_X12_acts_b46 C) a1 a2 h hyp
    · replace hyp := (if_neg q3).symm.trans hyp
      refine V_iload_n (pc := 29) C dX12_acts_29 rfl ?_
      refine V_aload_n (pc := 30) C dX12_acts_30 rfl ?_
      refine V_getI (pc := 31) C dX12_acts_31 lf_X12_138 fk_103_65 ?_
      refine V_icmp_lt (pc := 34) C dX12_acts_34 (tgt := 46) (by decide) (fun q4 => ?_) (fun q4 => ?_)
      · replace hyp := (if_pos q4).symm.trans hyp
        refine V_weak (lv' := [some (.ref 103), some (.int a1), some (.int a2)]) (lvle_s (lvle_s (lvle_s lvle_0))) ?_
        exact (T_X12_acts_b46 C) a1 a2 h hyp
      · replace hyp := (if_neg q4).symm.trans hyp
        refine V_aload_n (pc := 37) C dX12_acts_37 rfl ?_
        refine V_iload_n (pc := 38) C dX12_acts_38 rfl ?_
        refine V_iload_n (pc := 39) C dX12_acts_39 rfl ?_
        obtain ⟨h6, eh6, hyp⟩ := bV_n hyp
        refine V_callV (pc := 40) C dX12_acts_40 lm_X12_455 mk_X12_flees ok_103 rfl (M_X12_flees _ eh6) rfl pd_X12_flees (by decide) (by decide) (by decide) (As := [.int a1, .int a2]) (rest := []) rfl (Nat.le_of_ble_eq_true rfl) ?_
        refine V_goto (pc := 43) C dX12_acts_43 (tgt := 68) (by decide) ?_
        cases hyp
        exact V_vret C dX12_acts_68
  · replace hyp := (if_neg q2).symm.trans hyp
    refine V_aload_n (pc := 9) C dX12_acts_9 rfl ?_
    refine V_getR (pc := 10) C dX12_acts_10 lf_X12_156 fk_103_71 ?_
    refine V_iload_n (pc := 13) C dX12_acts_13 rfl ?_
    refine V_dup2 (pc := 14) C dX12_acts_14 rfl rfl ?_
    obtain ⟨g7, hyp⟩ := gd_n hyp
    refine V_iald (pc := 15) C dX12_acts_15 ak_147 g7 ?_
    refine V_iconst (pc := 16) C dX12_acts_16 (v := 1) (by decide) ?_
    refine V_isub (pc := 17) C dX12_acts_17 ?_
    obtain ⟨h8, eh8, hyp⟩ := hb_n hyp
    refine V_iast (pc := 18) C dX12_acts_18 ak_147 g7 eh8 ?_
    refine V_goto (pc := 19) C dX12_acts_19 (tgt := 68) (by decide) ?_
    cases hyp
    exact V_vret C dX12_acts_68
theorem dX12_isOver_0 : decode cX12_isOver 0 = .ok (.iconst 1, 1) := by decide +kernel
theorem dX12_isOver_1 : decode cX12_isOver 1 = .ok (.istore_n 2, 1) := by decide +kernel
theorem dX12_isOver_2 : decode cX12_isOver 2 = .ok (.iconst 0, 1) := by decide +kernel
theorem dX12_isOver_3 : decode cX12_isOver 3 = .ok (.istore_n 3, 1) := by decide +kernel
theorem dX12_isOver_4 : decode cX12_isOver 4 = .ok (.iload_n 3, 1) := by decide +kernel
theorem dX12_isOver_5 : decode cX12_isOver 5 = .ok (.aload_n 0, 1) := by decide +kernel
theorem dX12_isOver_6 : decode cX12_isOver 6 = .ok (.getfield 424, 3) := by decide +kernel
theorem dX12_isOver_9 : decode cX12_isOver 9 = .ok (.if_icmp .ge 28, 3) := by decide +kernel
theorem dX12_isOver_12 : decode cX12_isOver 12 = .ok (.iload_n 2, 1) := by decide +kernel
theorem dX12_isOver_13 : decode cX12_isOver 13 = .ok (.ifCond .eq 16, 3) := by decide +kernel
theorem dX12_isOver_16 : decode cX12_isOver 16 = .ok (.aload_n 0, 1) := by decide +kernel
theorem dX12_isOver_17 : decode cX12_isOver 17 = .ok (.getfield 147, 3) := by decide +kernel
theorem dX12_isOver_20 : decode cX12_isOver 20 = .ok (.iload_n 3, 1) := by decide +kernel
theorem dX12_isOver_21 : decode cX12_isOver 21 = .ok (.iaload, 1) := by decide +kernel
theorem dX12_isOver_22 : decode cX12_isOver 22 = .ok (.ifCond .lt 7, 3) := by decide +kernel
theorem dX12_isOver_25 : decode cX12_isOver 25 = .ok (.iconst 1, 1) := by decide +kernel
theorem dX12_isOver_26 : decode cX12_isOver 26 = .ok (.goto 4, 3) := by decide +kernel
theorem dX12_isOver_29 : decode cX12_isOver 29 = .ok (.iconst 0, 1) := by decide +kernel
theorem dX12_isOver_30 : decode cX12_isOver 30 = .ok (.istore_n 2, 1) := by decide +kernel
theorem dX12_isOver_31 : decode cX12_isOver 31 = .ok (.iinc 3 1, 3) := by decide +kernel
theorem dX12_isOver_34 : decode cX12_isOver 34 = .ok (.goto (-30), 3) := by decide +kernel
theorem dX12_isOver_37 : decode cX12_isOver 37 = .ok (.iload_n 2, 1) := by decide +kernel
theorem dX12_isOver_38 : decode cX12_isOver 38 = .ok (.ifCond .eq 5, 3) := by decide +kernel
theorem dX12_isOver_41 : decode cX12_isOver 41 = .ok (.iconst 1, 1) := by decide +kernel
theorem dX12_isOver_42 : decode cX12_isOver 42 = .ok (.ireturn, 1) := by decide +kernel
theorem dX12_isOver_43 : decode cX12_isOver 43 = .ok (.aload_n 0, 1) := by decide +kernel
theorem dX12_isOver_44 : decode cX12_isOver 44 = .ok (.getfield 138, 3) := by decide +kernel
theorem dX12_isOver_47 : decode cX12_isOver 47 = .ok (.ifCond .lt 11, 3) := by decide +kernel
theorem dX12_isOver_50 : decode cX12_isOver 50 = .ok (.iload_n 1, 1) := by decide +kernel
theorem dX12_isOver_51 : decode cX12_isOver 51 = .ok (.aload_n 0, 1) := by decide +kernel
theorem dX12_isOver_52 : decode cX12_isOver 52 = .ok (.getfield 138, 3) := by decide +kernel
theorem dX12_isOver_55 : decode cX12_isOver 55 = .ok (.if_icmp .ge 5, 3) := by decide +kernel
theorem dX12_isOver_58 : decode cX12_isOver 58 = .ok (.iconst 0, 1) := by decide +kernel
theorem dX12_isOver_59 : decode cX12_isOver 59 = .ok (.ireturn, 1) := by decide +kernel
theorem dX12_isOver_60 : decode cX12_isOver 60 = .ok (.iconst 1, 1) := by decide +kernel
theorem dX12_isOver_61 : decode cX12_isOver 61 = .ok (.istore_n 3, 1) := by decide +kernel
theorem dX12_isOver_62 : decode cX12_isOver 62 = .ok (.iconst 0, 1) := by decide +kernel
theorem dX12_isOver_63 : decode cX12_isOver 63 = .ok (.istore 4, 2) := by decide +kernel
theorem dX12_isOver_65 : decode cX12_isOver 65 = .ok (.iload 4, 2) := by decide +kernel
theorem dX12_isOver_67 : decode cX12_isOver 67 = .ok (.aload_n 0, 1) := by decide +kernel
theorem dX12_isOver_68 : decode cX12_isOver 68 = .ok (.getfield 111, 3) := by decide +kernel
theorem dX12_isOver_71 : decode cX12_isOver 71 = .ok (.if_icmp .ge 38, 3) := by decide +kernel
theorem dX12_isOver_74 : decode cX12_isOver 74 = .ok (.iload_n 3, 1) := by decide +kernel
theorem dX12_isOver_75 : decode cX12_isOver 75 = .ok (.ifCond .eq 26, 3) := by decide +kernel
theorem dX12_isOver_78 : decode cX12_isOver 78 = .ok (.aload_n 0, 1) := by decide +kernel
theorem dX12_isOver_79 : decode cX12_isOver 79 = .ok (.getfield 150, 3) := by decide +kernel
theorem dX12_isOver_82 : decode cX12_isOver 82 = .ok (.iload 4, 2) := by decide +kernel
theorem dX12_isOver_84 : decode cX12_isOver 84 = .ok (.iaload, 1) := by decide +kernel
theorem dX12_isOver_85 : decode cX12_isOver 85 = .ok (.ifCond .ne 16, 3) := by decide +kernel
theorem dX12_isOver_88 : decode cX12_isOver 88 = .ok (.aload_n 0, 1) := by decide +kernel
theorem dX12_isOver_89 : decode cX12_isOver 89 = .ok (.iload 4, 2) := by decide +kernel
theorem dX12_isOver_91 : decode cX12_isOver 91 = .ok (.invokevirtual 433, 3) := by decide +kernel
theorem dX12_isOver_94 : decode cX12_isOver 94 = .ok (.ifCond .ne 7, 3) := by decide +kernel
theorem dX12_isOver_97 : decode cX12_isOver 97 = .ok (.iconst 1, 1) := by decide +kernel
theorem dX12_isOver_98 : decode cX12_isOver 98 = .ok (.goto 4, 3) := by decide +kernel
theorem dX12_isOver_101 : decode cX12_isOver 101 = .ok (.iconst 0, 1) := by decide +kernel
theorem dX12_isOver_102 : decode cX12_isOver 102 = .ok (.istore_n 3, 1) := by decide +kernel
theorem dX12_isOver_103 : decode cX12_isOver 103 = .ok (.iinc 4 1, 3) := by decide +kernel
theorem dX12_isOver_106 : decode cX12_isOver 106 = .ok (.goto (-41), 3) := by decide +kernel
theorem dX12_isOver_109 : decode cX12_isOver 109 = .ok (.iload_n 3, 1) := by decide +kernel
theorem dX12_isOver_110 : decode cX12_isOver 110 = .ok (.ireturn, 1) := by decide +kernel
def F_X12_isOver_b30 (N : Nat) (rc4 : Int32 → Int32 → Int32 → PH → Option (Int32 × PH)) (x1 : Int32) (x3 : Int32) (s0 : Int32) (h : PH) : Option (Int32 × PH) :=
  ib (x3 + (1 : Int32)) fun v1 =>
  rc4 x1 s0 v1 h
set_option maxRecDepth 20000 in
set_option maxHeartbeats 4000000 in
theorem T_X12_isOver_b30 {X : CT} (C : CX X 154 cX12_isOver 5 RX12 (some .boolean) 2 45) {r0 : Int32} {h0 : PH} {N : Nat} {rc4 : Int32 → Int32 → Int32 → PH → Option (Int32 × PH)} (hr4 : ∀ (x1 : Int32) (x2 : Int32) (x3 : Int32) (h : PH), rc4 x1 x2 x3 h = some (r0, h0) → V X (QI X r0 h0) h 4 [some (.ref 103), some (.int x1), some (.int x2), some (.int x3), none] []) : ∀ (x1 : Int32) (x3 : Int32) (s0 : Int32) (h : PH), F_X12_isOver_b30 N rc4 x1 x3 s0 h = some (r0, h0) → V X (QI X r0 h0) h 30 [some (.ref 103), some (.int x1), none, some (.int x3), none] [.int s0] := by
  intro x1 x3 s0 h hyp
  unfold F_X12_isOver_b30 at hyp
  refine V_istore_n (pc := 30) C dX12_isOver_30 (by decide) rfl ?_
  obtain ⟨v1, ev1, hyp⟩ := ib_n hyp
  refine V_iinc (pc := 31) C dX12_isOver_31 (v := v1) rfl (by rw [ev1]; rfl) (by decide) rfl ?_
  refine V_goto (pc := 34) C dX12_isOver_34 (tgt := 4) (by decide) ?_
  refine V_weak (lv' := [some (.ref 103), some (.int x1), some (.int s0), some (.int v1), none]) (lvle_s (lvle_s (lvle_s (lvle_s (lvle_n lvle_0))))) ?_
  exact hr4 x1 s0 v1 h hyp
def F_X12_isOver_b29 (N : Nat) (rc4 : Int32 → Int32 → Int32 → PH → Option (Int32 × PH)) (x1 : Int32) (x3 : Int32) (h : PH) : Option (Int32 × PH) :=
  F_X12_isOver_b30 N rc4 x1 x3 (0 : Int32) h
set_option maxRecDepth 20000 in
set_option maxHeartbeats 4000000 in
theorem T_X12_isOver_b29 {X : CT} (C : CX X 154 cX12_isOver 5 RX12 (some .boolean) 2 45) {r0 : Int32} {h0 : PH} {N : Nat} {rc4 : Int32 → Int32 → Int32 → PH → Option (Int32 × PH)} (hr4 : ∀ (x1 : Int32) (x2 : Int32) (x3 : Int32) (h : PH), rc4 x1 x2 x3 h = some (r0, h0) → V X (QI X r0 h0) h 4 [some (.ref 103), some (.int x1), some (.int x2), some (.int x3), none] []) : ∀ (x1 : Int32) (x3 : Int32) (h : PH), F_X12_isOver_b29 N rc4 x1 x3 h = some (r0, h0) → V X (QI X r0 h0) h 29 [some (.ref 103), some (.int x1), none, some (.int x3), none] [] := by
  intro x1 x3 h hyp
  unfold F_X12_isOver_b29 at hyp
  refine V_iconst (pc := 29) C dX12_isOver_29 (v := 0) (by decide) ?_
  refine V_weak (lv' := [some (.ref 103), some (.int x1), none, some (.int x3), none]) (lvle_s (lvle_s (lvle_n (lvle_s (lvle_n lvle_0))))) ?_
  exact (T_X12_isOver_b30 C hr4) x1 x3 (0 : Int32) h hyp
def F_X12_isOver_b102 (N : Nat) (rc65 : Int32 → Int32 → PH → Option (Int32 × PH)) (x4 : Int32) (s0 : Int32) (h : PH) : Option (Int32 × PH) :=
  ib (x4 + (1 : Int32)) fun v1 =>
  rc65 s0 v1 h
set_option maxRecDepth 20000 in
set_option maxHeartbeats 4000000 in
theorem T_X12_isOver_b102 {X : CT} (C : CX X 154 cX12_isOver 5 RX12 (some .boolean) 2 45) {r0 : Int32} {h0 : PH} {N : Nat} {rc65 : Int32 → Int32 → PH → Option (Int32 × PH)} (hr65 : ∀ (x3 : Int32) (x4 : Int32) (h : PH), rc65 x3 x4 h = some (r0, h0) → V X (QI X r0 h0) h 65 [some (.ref 103), none, none, some (.int x3), some (.int x4)] []) : ∀ (x4 : Int32) (s0 : Int32) (h : PH), F_X12_isOver_b102 N rc65 x4 s0 h = some (r0, h0) → V X (QI X r0 h0) h 102 [some (.ref 103), none, none, none, some (.int x4)] [.int s0] := by
  intro x4 s0 h hyp
  unfold F_X12_isOver_b102 at hyp
  refine V_istore_n (pc := 102) C dX12_isOver_102 (by decide) rfl ?_
  obtain ⟨v1, ev1, hyp⟩ := ib_n hyp
  refine V_iinc (pc := 103) C dX12_isOver_103 (v := v1) rfl (by rw [ev1]; rfl) (by decide) rfl ?_
  refine V_goto (pc := 106) C dX12_isOver_106 (tgt := 65) (by decide) ?_
  refine V_weak (lv' := [some (.ref 103), none, none, some (.int s0), some (.int v1)]) (lvle_s (lvle_n (lvle_n (lvle_s (lvle_s lvle_0))))) ?_
  exact hr65 s0 v1 h hyp
def F_X12_isOver_b101 (N : Nat) (rc65 : Int32 → Int32 → PH → Option (Int32 × PH)) (x4 : Int32) (h : PH) : Option (Int32 × PH) :=
  F_X12_isOver_b102 N rc65 x4 (0 : Int32) h
set_option maxRecDepth 20000 in
set_option maxHeartbeats 4000000 in
theorem T_X12_isOver_b101 {X : CT} (C : CX X 154 cX12_isOver 5 RX12 (some .boolean) 2 45) {r0 : Int32} {h0 : PH} {N : Nat} {rc65 : Int32 → Int32 → PH → Option (Int32 × PH)} (hr65 : ∀ (x3 : Int32) (x4 : Int32) (h : PH), rc65 x3 x4 h = some (r0, h0) → V X (QI X r0 h0) h 65 [some (.ref 103), none, none, some (.int x3), some (.int x4)] []) : ∀ (x4 : Int32) (h : PH), F_X12_isOver_b101 N rc65 x4 h = some (r0, h0) → V X (QI X r0 h0) h 101 [some (.ref 103), none, none, none, some (.int x4)] [] := by
  intro x4 h hyp
  unfold F_X12_isOver_b101 at hyp
  refine V_iconst (pc := 101) C dX12_isOver_101 (v := 0) (by decide) ?_
  refine V_weak (lv' := [some (.ref 103), none, none, none, some (.int x4)]) (lvle_s (lvle_n (lvle_n (lvle_n (lvle_s lvle_0))))) ?_
  exact (T_X12_isOver_b102 C hr65) x4 (0 : Int32) h hyp
def F_X12_isOver_b65 (N : Nat) : Nat → Int32 → Int32 → PH → Option (Int32 × PH)
  | 0, _, _, _ => none
  | n + 1, x3, x4, h =>
    if (h.1 103 53) ≤ x4 then
      if zb x3 = true then
      some (x3, h)
      else none
    else
      if x3 = 0 then
        F_X12_isOver_b101 N (F_X12_isOver_b65 N n) x4 h
      else
        if inb x4 2 = true then
        if (h.1 145 x4.toNatClampNeg) = 0 then
          bI (F_X12_loadOf N x4 h) fun r6 h7 =>
          if r6 = 0 then
            F_X12_isOver_b102 N (F_X12_isOver_b65 N n) x4 (1 : Int32) h7
          else
            F_X12_isOver_b101 N (F_X12_isOver_b65 N n) x4 h7
        else
          F_X12_isOver_b101 N (F_X12_isOver_b65 N n) x4 h
        else none
set_option maxRecDepth 20000 in
set_option maxHeartbeats 4000000 in
theorem T_X12_isOver_b65 {X : CT} (C : CX X 154 cX12_isOver 5 RX12 (some .boolean) 2 45) {r0 : Int32} {h0 : PH} {N : Nat} : ∀ (n : Nat) (x3 : Int32) (x4 : Int32) (h : PH), F_X12_isOver_b65 N n x3 x4 h = some (r0, h0) → V X (QI X r0 h0) h 65 [some (.ref 103), none, none, some (.int x3), some (.int x4)] [] := by
  intro n
  induction n with
  | zero =>
    intro x3 x4 h hyp
    cases hyp
  | succ n ih =>
    intro x3 x4 h hyp
    unfold F_X12_isOver_b65 at hyp
    refine V_iload (pc := 65) C dX12_isOver_65 rfl ?_
    refine V_aload_n (pc := 67) C dX12_isOver_67 rfl ?_
    refine V_getI (pc := 68) C dX12_isOver_68 lf_X12_111 fk_103_53 ?_
    refine V_icmp_ge (pc := 71) C dX12_isOver_71 (tgt := 109) (by decide) (fun q1 => ?_) (fun q1 => ?_)
    · replace hyp := (if_pos q1).symm.trans hyp
      refine V_iload_n (pc := 109) C dX12_isOver_109 rfl ?_
      obtain ⟨g2, hyp⟩ := gd_n hyp
      cases hyp
      exact V_zret C dX12_isOver_110 (zb_n g2).1
    · replace hyp := (if_neg q1).symm.trans hyp
      refine V_iload_n (pc := 74) C dX12_isOver_74 rfl ?_
      refine V_if_eq (pc := 75) C dX12_isOver_75 (tgt := 101) (by decide) (fun q3 => ?_) (fun q3 => ?_)
      · replace hyp := (if_pos q3).symm.trans hyp
        refine V_weak (lv' := [some (.ref 103), none, none, none, some (.int x4)]) (lvle_s (lvle_n (lvle_n (lvle_n (lvle_s lvle_0))))) ?_
        exact (T_X12_isOver_b101 C ih) x4 h hyp
      · replace hyp := (if_neg q3).symm.trans hyp
        refine V_aload_n (pc := 78) C dX12_isOver_78 rfl ?_
        refine V_getR (pc := 79) C dX12_isOver_79 lf_X12_150 fk_103_69 ?_
        refine V_iload (pc := 82) C dX12_isOver_82 rfl ?_
        obtain ⟨g4, hyp⟩ := gd_n hyp
        refine V_iald (pc := 84) C dX12_isOver_84 ak_145 g4 ?_
        refine V_if_ne (pc := 85) C dX12_isOver_85 (tgt := 101) (by decide) (fun q5 => ?_) (fun q5 => ?_)
        · replace hyp := (if_neg q5).symm.trans hyp
          refine V_weak (lv' := [some (.ref 103), none, none, none, some (.int x4)]) (lvle_s (lvle_n (lvle_n (lvle_n (lvle_s lvle_0))))) ?_
          exact (T_X12_isOver_b101 C ih) x4 h hyp
        · replace hyp := (if_pos q5).symm.trans hyp
          refine V_aload_n (pc := 88) C dX12_isOver_88 rfl ?_
          refine V_iload (pc := 89) C dX12_isOver_89 rfl ?_
          obtain ⟨r6, h7, eh7, hyp⟩ := bI_n hyp
          refine V_callI (pc := 91) C dX12_isOver_91 lm_X12_433 mk_X12_loadOf ok_103 rfl (M_X12_loadOf _ eh7) rfl pd_X12_loadOf (by decide) (by decide) (by decide) (As := [.int x4]) (rest := []) rfl (Nat.le_of_ble_eq_true rfl) ?_
          refine V_if_ne (pc := 94) C dX12_isOver_94 (tgt := 101) (by decide) (fun q8 => ?_) (fun q8 => ?_)
          · replace hyp := (if_neg q8).symm.trans hyp
            refine V_weak (lv' := [some (.ref 103), none, none, none, some (.int x4)]) (lvle_s (lvle_n (lvle_n (lvle_n (lvle_s lvle_0))))) ?_
            exact (T_X12_isOver_b101 C ih) x4 h7 hyp
          · replace hyp := (if_pos q8).symm.trans hyp
            refine V_iconst (pc := 97) C dX12_isOver_97 (v := 1) (by decide) ?_
            refine V_goto (pc := 98) C dX12_isOver_98 (tgt := 102) (by decide) ?_
            refine V_weak (lv' := [some (.ref 103), none, none, none, some (.int x4)]) (lvle_s (lvle_n (lvle_n (lvle_n (lvle_s lvle_0))))) ?_
            exact (T_X12_isOver_b102 C ih) x4 (1 : Int32) h7 hyp
def F_X12_isOver_b37 (N : Nat) (x1 : Int32) (x2 : Int32) (h : PH) : Option (Int32 × PH) :=
  if x2 = 0 then
    if (h.1 103 65) < 0 then
      some ((0 : Int32), h)
    else
      if (h.1 103 65) ≤ x1 then
        F_X12_isOver_b65 N N (1 : Int32) (0 : Int32) h
      else
        some ((0 : Int32), h)
  else
    some ((1 : Int32), h)
set_option maxRecDepth 20000 in
set_option maxHeartbeats 4000000 in
theorem T_X12_isOver_b37 {X : CT} (C : CX X 154 cX12_isOver 5 RX12 (some .boolean) 2 45) {r0 : Int32} {h0 : PH} {N : Nat} : ∀ (x1 : Int32) (x2 : Int32) (h : PH), F_X12_isOver_b37 N x1 x2 h = some (r0, h0) → V X (QI X r0 h0) h 37 [some (.ref 103), some (.int x1), some (.int x2), none, none] [] := by
  intro x1 x2 h hyp
  unfold F_X12_isOver_b37 at hyp
  refine V_iload_n (pc := 37) C dX12_isOver_37 rfl ?_
  refine V_if_eq (pc := 38) C dX12_isOver_38 (tgt := 43) (by decide) (fun q1 => ?_) (fun q1 => ?_)
  · replace hyp := (if_pos q1).symm.trans hyp
    refine V_aload_n (pc := 43) C dX12_isOver_43 rfl ?_
    refine V_getI (pc := 44) C dX12_isOver_44 lf_X12_138 fk_103_65 ?_
    refine V_if_lt (pc := 47) C dX12_isOver_47 (tgt := 58) (by decide) (fun q2 => ?_) (fun q2 => ?_)
    · replace hyp := (if_pos q2).symm.trans hyp
      refine V_iconst (pc := 58) C dX12_isOver_58 (v := 0) (by decide) ?_
      cases hyp
      exact V_zret C dX12_isOver_59 rfl
    · replace hyp := (if_neg q2).symm.trans hyp
      refine V_iload_n (pc := 50) C dX12_isOver_50 rfl ?_
      refine V_aload_n (pc := 51) C dX12_isOver_51 rfl ?_
      refine V_getI (pc := 52) C dX12_isOver_52 lf_X12_138 fk_103_65 ?_
      refine V_icmp_ge (pc := 55) C dX12_isOver_55 (tgt := 60) (by decide) (fun q3 => ?_) (fun q3 => ?_)
      · replace hyp := (if_pos q3).symm.trans hyp
        refine V_iconst (pc := 60) C dX12_isOver_60 (v := 1) (by decide) ?_
        refine V_istore_n (pc := 61) C dX12_isOver_61 (by decide) rfl ?_
        refine V_iconst (pc := 62) C dX12_isOver_62 (v := 0) (by decide) ?_
        refine V_istore (pc := 63) C dX12_isOver_63 (by decide) rfl ?_
        refine V_weak (lv' := [some (.ref 103), none, none, some (.int (1 : Int32)), some (.int (0 : Int32))]) (lvle_s (lvle_n (lvle_n (lvle_s (lvle_s lvle_0))))) ?_
        exact (T_X12_isOver_b65 C) N (1 : Int32) (0 : Int32) h hyp
      · replace hyp := (if_neg q3).symm.trans hyp
        refine V_iconst (pc := 58) C dX12_isOver_58 (v := 0) (by decide) ?_
        cases hyp
        exact V_zret C dX12_isOver_59 rfl
  · replace hyp := (if_neg q1).symm.trans hyp
    refine V_iconst (pc := 41) C dX12_isOver_41 (v := 1) (by decide) ?_
    cases hyp
    exact V_zret C dX12_isOver_42 rfl
def F_X12_isOver_b4 (N : Nat) : Nat → Int32 → Int32 → Int32 → PH → Option (Int32 × PH)
  | 0, _, _, _, _ => none
  | n + 1, x1, x2, x3, h =>
    if (h.1 103 57) ≤ x3 then
      F_X12_isOver_b37 N x1 x2 h
    else
      if x2 = 0 then
        F_X12_isOver_b29 N (F_X12_isOver_b4 N n) x1 x3 h
      else
        if inb x3 24 = true then
        if (h.1 144 x3.toNatClampNeg) < 0 then
          F_X12_isOver_b29 N (F_X12_isOver_b4 N n) x1 x3 h
        else
          F_X12_isOver_b30 N (F_X12_isOver_b4 N n) x1 x3 (1 : Int32) h
        else none
set_option maxRecDepth 20000 in
set_option maxHeartbeats 4000000 in
theorem T_X12_isOver_b4 {X : CT} (C : CX X 154 cX12_isOver 5 RX12 (some .boolean) 2 45) {r0 : Int32} {h0 : PH} {N : Nat} : ∀ (n : Nat) (x1 : Int32) (x2 : Int32) (x3 : Int32) (h : PH), F_X12_isOver_b4 N n x1 x2 x3 h = some (r0, h0) → V X (QI X r0 h0) h 4 [some (.ref 103), some (.int x1), some (.int x2), some (.int x3), none] [] := by
  intro n
  induction n with
  | zero =>
    intro x1 x2 x3 h hyp
    cases hyp
  | succ n ih =>
    intro x1 x2 x3 h hyp
    unfold F_X12_isOver_b4 at hyp
    refine V_iload_n (pc := 4) C dX12_isOver_4 rfl ?_
    refine V_aload_n (pc := 5) C dX12_isOver_5 rfl ?_
    refine V_getI (pc := 6) C dX12_isOver_6 lf_X12_424 fk_103_57 ?_
    refine V_icmp_ge (pc := 9) C dX12_isOver_9 (tgt := 37) (by decide) (fun q1 => ?_) (fun q1 => ?_)
    · replace hyp := (if_pos q1).symm.trans hyp
      refine V_weak (lv' := [some (.ref 103), some (.int x1), some (.int x2), none, none]) (lvle_s (lvle_s (lvle_s (lvle_n (lvle_n lvle_0))))) ?_
      exact (T_X12_isOver_b37 C) x1 x2 h hyp
    · replace hyp := (if_neg q1).symm.trans hyp
      refine V_iload_n (pc := 12) C dX12_isOver_12 rfl ?_
      refine V_if_eq (pc := 13) C dX12_isOver_13 (tgt := 29) (by decide) (fun q2 => ?_) (fun q2 => ?_)
      · replace hyp := (if_pos q2).symm.trans hyp
        refine V_weak (lv' := [some (.ref 103), some (.int x1), none, some (.int x3), none]) (lvle_s (lvle_s (lvle_n (lvle_s (lvle_n lvle_0))))) ?_
        exact (T_X12_isOver_b29 C ih) x1 x3 h hyp
      · replace hyp := (if_neg q2).symm.trans hyp
        refine V_aload_n (pc := 16) C dX12_isOver_16 rfl ?_
        refine V_getR (pc := 17) C dX12_isOver_17 lf_X12_147 fk_103_68 ?_
        refine V_iload_n (pc := 20) C dX12_isOver_20 rfl ?_
        obtain ⟨g3, hyp⟩ := gd_n hyp
        refine V_iald (pc := 21) C dX12_isOver_21 ak_144 g3 ?_
        refine V_if_lt (pc := 22) C dX12_isOver_22 (tgt := 29) (by decide) (fun q4 => ?_) (fun q4 => ?_)
        · replace hyp := (if_pos q4).symm.trans hyp
          refine V_weak (lv' := [some (.ref 103), some (.int x1), none, some (.int x3), none]) (lvle_s (lvle_s (lvle_n (lvle_s (lvle_n lvle_0))))) ?_
          exact (T_X12_isOver_b29 C ih) x1 x3 h hyp
        · replace hyp := (if_neg q4).symm.trans hyp
          refine V_iconst (pc := 25) C dX12_isOver_25 (v := 1) (by decide) ?_
          refine V_goto (pc := 26) C dX12_isOver_26 (tgt := 30) (by decide) ?_
          refine V_weak (lv' := [some (.ref 103), some (.int x1), none, some (.int x3), none]) (lvle_s (lvle_s (lvle_n (lvle_s (lvle_n lvle_0))))) ?_
          exact (T_X12_isOver_b30 C ih) x1 x3 (1 : Int32) h hyp
def F_X12_isOver (N : Nat) (a1 : Int32) (h : PH) : Option (Int32 × PH) :=
  F_X12_isOver_b4 N N a1 (1 : Int32) (0 : Int32) h
set_option maxRecDepth 20000 in
set_option maxHeartbeats 4000000 in
theorem M_X12_isOver (E : EV) {N : Nat} {a1 : Int32} {r : Int32} {h h2 : PH} (hyp : F_X12_isOver N a1 h = some (r, h2)) : MI E 154 yX12_isOver cX12_isOver 5 (some .boolean) 2 45 [.ref 103, .int a1] h r h2 := by
  refine MI.of 3 (by decide) rfl (fun X e1 C => ?_)
  subst e1
  replace C : CX X 154 cX12_isOver 5 RX12 (some .boolean) 2 45 := C
  show V X _ h 0 [some (.ref 103), some (.int a1), none, none, none] []
  unfold F_X12_isOver at hyp
  refine V_iconst (pc := 0) C dX12_isOver_0 (v := 1) (by decide) ?_
  refine V_istore_n (pc := 1) C dX12_isOver_1 (by decide) rfl ?_
  refine V_iconst (pc := 2) C dX12_isOver_2 (v := 0) (by decide) ?_
  refine V_istore_n (pc := 3) C dX12_isOver_3 (by decide) rfl ?_
  refine V_weak (lv' := [some (.ref 103), some (.int a1), some (.int (1 : Int32)), some (.int (0 : Int32)), none]) (lvle_s (lvle_s (lvle_s (lvle_s (lvle_n lvle_0))))) ?_
  exact (T_X12_isOver_b4 C) N a1 (1 : Int32) (0 : Int32) h hyp
theorem dX12_runs_0 : decode cX12_runs 0 = .ok (.iconst 0, 1) := by decide +kernel
theorem dX12_runs_1 : decode cX12_runs 1 = .ok (.istore_n 2, 1) := by decide +kernel
theorem dX12_runs_2 : decode cX12_runs 2 = .ok (.iload_n 2, 1) := by decide +kernel
theorem dX12_runs_3 : decode cX12_runs 3 = .ok (.bipush 24, 2) := by decide +kernel
theorem dX12_runs_5 : decode cX12_runs 5 = .ok (.if_icmp .ge 30, 3) := by decide +kernel
theorem dX12_runs_8 : decode cX12_runs 8 = .ok (.aload_n 0, 1) := by decide +kernel
theorem dX12_runs_9 : decode cX12_runs 9 = .ok (.getfield 141, 3) := by decide +kernel
theorem dX12_runs_12 : decode cX12_runs 12 = .ok (.iload_n 2, 1) := by decide +kernel
theorem dX12_runs_13 : decode cX12_runs 13 = .ok (.iconst (-1), 1) := by decide +kernel
theorem dX12_runs_14 : decode cX12_runs 14 = .ok (.iastore, 1) := by decide +kernel
theorem dX12_runs_15 : decode cX12_runs 15 = .ok (.aload_n 0, 1) := by decide +kernel
theorem dX12_runs_16 : decode cX12_runs 16 = .ok (.getfield 144, 3) := by decide +kernel
theorem dX12_runs_19 : decode cX12_runs 19 = .ok (.iload_n 2, 1) := by decide +kernel
theorem dX12_runs_20 : decode cX12_runs 20 = .ok (.iconst (-1), 1) := by decide +kernel
theorem dX12_runs_21 : decode cX12_runs 21 = .ok (.iastore, 1) := by decide +kernel
theorem dX12_runs_22 : decode cX12_runs 22 = .ok (.aload_n 0, 1) := by decide +kernel
theorem dX12_runs_23 : decode cX12_runs 23 = .ok (.getfield 147, 3) := by decide +kernel
theorem dX12_runs_26 : decode cX12_runs 26 = .ok (.iload_n 2, 1) := by decide +kernel
theorem dX12_runs_27 : decode cX12_runs 27 = .ok (.iconst (-1), 1) := by decide +kernel
theorem dX12_runs_28 : decode cX12_runs 28 = .ok (.iastore, 1) := by decide +kernel
theorem dX12_runs_29 : decode cX12_runs 29 = .ok (.iinc 2 1, 3) := by decide +kernel
theorem dX12_runs_32 : decode cX12_runs 32 = .ok (.goto (-30), 3) := by decide +kernel
theorem dX12_runs_35 : decode cX12_runs 35 = .ok (.iconst 0, 1) := by decide +kernel
theorem dX12_runs_36 : decode cX12_runs 36 = .ok (.istore_n 2, 1) := by decide +kernel
theorem dX12_runs_37 : decode cX12_runs 37 = .ok (.iload_n 2, 1) := by decide +kernel
theorem dX12_runs_38 : decode cX12_runs 38 = .ok (.iconst 2, 1) := by decide +kernel
theorem dX12_runs_39 : decode cX12_runs 39 = .ok (.if_icmp .ge 37, 3) := by decide +kernel
theorem dX12_runs_42 : decode cX12_runs 42 = .ok (.aload_n 0, 1) := by decide +kernel
theorem dX12_runs_43 : decode cX12_runs 43 = .ok (.getfield 150, 3) := by decide +kernel
theorem dX12_runs_46 : decode cX12_runs 46 = .ok (.iload_n 2, 1) := by decide +kernel
theorem dX12_runs_47 : decode cX12_runs 47 = .ok (.iconst 0, 1) := by decide +kernel
theorem dX12_runs_48 : decode cX12_runs 48 = .ok (.iastore, 1) := by decide +kernel
theorem dX12_runs_49 : decode cX12_runs 49 = .ok (.aload_n 0, 1) := by decide +kernel
theorem dX12_runs_50 : decode cX12_runs 50 = .ok (.getfield 153, 3) := by decide +kernel
theorem dX12_runs_53 : decode cX12_runs 53 = .ok (.iload_n 2, 1) := by decide +kernel
theorem dX12_runs_54 : decode cX12_runs 54 = .ok (.iconst 0, 1) := by decide +kernel
theorem dX12_runs_55 : decode cX12_runs 55 = .ok (.iastore, 1) := by decide +kernel
theorem dX12_runs_56 : decode cX12_runs 56 = .ok (.aload_n 0, 1) := by decide +kernel
theorem dX12_runs_57 : decode cX12_runs 57 = .ok (.getfield 156, 3) := by decide +kernel
theorem dX12_runs_60 : decode cX12_runs 60 = .ok (.iload_n 2, 1) := by decide +kernel
theorem dX12_runs_61 : decode cX12_runs 61 = .ok (.iconst 0, 1) := by decide +kernel
theorem dX12_runs_62 : decode cX12_runs 62 = .ok (.iastore, 1) := by decide +kernel
theorem dX12_runs_63 : decode cX12_runs 63 = .ok (.aload_n 0, 1) := by decide +kernel
theorem dX12_runs_64 : decode cX12_runs 64 = .ok (.getfield 162, 3) := by decide +kernel
theorem dX12_runs_67 : decode cX12_runs 67 = .ok (.iload_n 2, 1) := by decide +kernel
theorem dX12_runs_68 : decode cX12_runs 68 = .ok (.iconst 0, 1) := by decide +kernel
theorem dX12_runs_69 : decode cX12_runs 69 = .ok (.iastore, 1) := by decide +kernel
theorem dX12_runs_70 : decode cX12_runs 70 = .ok (.iinc 2 1, 3) := by decide +kernel
theorem dX12_runs_73 : decode cX12_runs 73 = .ok (.goto (-36), 3) := by decide +kernel
theorem dX12_runs_76 : decode cX12_runs 76 = .ok (.iconst 0, 1) := by decide +kernel
theorem dX12_runs_77 : decode cX12_runs 77 = .ok (.istore_n 2, 1) := by decide +kernel
theorem dX12_runs_78 : decode cX12_runs 78 = .ok (.iload_n 2, 1) := by decide +kernel
theorem dX12_runs_79 : decode cX12_runs 79 = .ok (.bipush 10, 2) := by decide +kernel
theorem dX12_runs_81 : decode cX12_runs 81 = .ok (.if_icmp .ge 16, 3) := by decide +kernel
theorem dX12_runs_84 : decode cX12_runs 84 = .ok (.aload_n 0, 1) := by decide +kernel
theorem dX12_runs_85 : decode cX12_runs 85 = .ok (.getfield 159, 3) := by decide +kernel
theorem dX12_runs_88 : decode cX12_runs 88 = .ok (.iload_n 2, 1) := by decide +kernel
theorem dX12_runs_89 : decode cX12_runs 89 = .ok (.iconst 0, 1) := by decide +kernel
theorem dX12_runs_90 : decode cX12_runs 90 = .ok (.iastore, 1) := by decide +kernel
theorem dX12_runs_91 : decode cX12_runs 91 = .ok (.iinc 2 1, 3) := by decide +kernel
theorem dX12_runs_94 : decode cX12_runs 94 = .ok (.goto (-16), 3) := by decide +kernel
theorem dX12_runs_97 : decode cX12_runs 97 = .ok (.aload_n 0, 1) := by decide +kernel
theorem dX12_runs_98 : decode cX12_runs 98 = .ok (.aload_n 0, 1) := by decide +kernel
theorem dX12_runs_99 : decode cX12_runs 99 = .ok (.getfield 424, 3) := by decide +kernel
theorem dX12_runs_102 : decode cX12_runs 102 = .ok (.ifCond .ne 7, 3) := by decide +kernel
theorem dX12_runs_105 : decode cX12_runs 105 = .ok (.iconst 0, 1) := by decide +kernel
theorem dX12_runs_106 : decode cX12_runs 106 = .ok (.goto 4, 3) := by decide +kernel
theorem dX12_runs_109 : decode cX12_runs 109 = .ok (.iconst (-1), 1) := by decide +kernel
theorem dX12_runs_110 : decode cX12_runs 110 = .ok (.putfield 467, 3) := by decide +kernel
theorem dX12_runs_113 : decode cX12_runs 113 = .ok (.iconst 0, 1) := by decide +kernel
theorem dX12_runs_114 : decode cX12_runs 114 = .ok (.istore_n 2, 1) := by decide +kernel
theorem dX12_runs_115 : decode cX12_runs 115 = .ok (.iload_n 2, 1) := by decide +kernel
theorem dX12_runs_116 : decode cX12_runs 116 = .ok (.sipush 900, 3) := by decide +kernel
theorem dX12_runs_119 : decode cX12_runs 119 = .ok (.if_icmp .ge 172, 3) := by decide +kernel
theorem dX12_runs_122 : decode cX12_runs 122 = .ok (.aload_n 0, 1) := by decide +kernel
theorem dX12_runs_123 : decode cX12_runs 123 = .ok (.getfield 467, 3) := by decide +kernel
theorem dX12_runs_126 : decode cX12_runs 126 = .ok (.ifCond .ge 165, 3) := by decide +kernel
theorem dX12_runs_129 : decode cX12_runs 129 = .ok (.iconst 0, 1) := by decide +kernel
theorem dX12_runs_130 : decode cX12_runs 130 = .ok (.istore_n 3, 1) := by decide +kernel
theorem dX12_runs_131 : decode cX12_runs 131 = .ok (.iload_n 3, 1) := by decide +kernel
theorem dX12_runs_132 : decode cX12_runs 132 = .ok (.aload_n 0, 1) := by decide +kernel
theorem dX12_runs_133 : decode cX12_runs 133 = .ok (.getfield 424, 3) := by decide +kernel
theorem dX12_runs_136 : decode cX12_runs 136 = .ok (.if_icmp .ge 41, 3) := by decide +kernel
theorem dX12_runs_139 : decode cX12_runs 139 = .ok (.aload_n 0, 1) := by decide +kernel
theorem dX12_runs_140 : decode cX12_runs 140 = .ok (.getfield 120, 3) := by decide +kernel
theorem dX12_runs_143 : decode cX12_runs 143 = .ok (.iload_n 3, 1) := by decide +kernel
theorem dX12_runs_144 : decode cX12_runs 144 = .ok (.iaload, 1) := by decide +kernel
theorem dX12_runs_145 : decode cX12_runs 145 = .ok (.iload_n 2, 1) := by decide +kernel
theorem dX12_runs_146 : decode cX12_runs 146 = .ok (.if_icmp .ne 25, 3) := by decide +kernel
theorem dX12_runs_149 : decode cX12_runs 149 = .ok (.aload_n 0, 1) := by decide +kernel
theorem dX12_runs_150 : decode cX12_runs 150 = .ok (.getfield 138, 3) := by decide +kernel
theorem dX12_runs_153 : decode cX12_runs 153 = .ok (.ifCond .lt 11, 3) := by decide +kernel
theorem dX12_runs_156 : decode cX12_runs 156 = .ok (.iload_n 2, 1) := by decide +kernel
theorem dX12_runs_157 : decode cX12_runs 157 = .ok (.aload_n 0, 1) := by decide +kernel
theorem dX12_runs_158 : decode cX12_runs 158 = .ok (.getfield 138, 3) := by decide +kernel
theorem dX12_runs_161 : decode cX12_runs 161 = .ok (.if_icmp .ge 10, 3) := by decide +kernel
theorem dX12_runs_164 : decode cX12_runs 164 = .ok (.aload_n 0, 1) := by decide +kernel
theorem dX12_runs_165 : decode cX12_runs 165 = .ok (.iload_n 3, 1) := by decide +kernel
theorem dX12_runs_166 : decode cX12_runs 166 = .ok (.iload_n 2, 1) := by decide +kernel
theorem dX12_runs_167 : decode cX12_runs 167 = .ok (.iload_n 1, 1) := by decide +kernel
theorem dX12_runs_168 : decode cX12_runs 168 = .ok (.invokevirtual 470, 3) := by decide +kernel
theorem dX12_runs_171 : decode cX12_runs 171 = .ok (.iinc 3 1, 3) := by decide +kernel
theorem dX12_runs_174 : decode cX12_runs 174 = .ok (.goto (-43), 3) := by decide +kernel
theorem dX12_runs_177 : decode cX12_runs 177 = .ok (.iconst 0, 1) := by decide +kernel
theorem dX12_runs_178 : decode cX12_runs 178 = .ok (.istore_n 3, 1) := by decide +kernel
theorem dX12_runs_179 : decode cX12_runs 179 = .ok (.iload_n 3, 1) := by decide +kernel
theorem dX12_runs_180 : decode cX12_runs 180 = .ok (.aload_n 0, 1) := by decide +kernel
theorem dX12_runs_181 : decode cX12_runs 181 = .ok (.getfield 427, 3) := by decide +kernel
theorem dX12_runs_184 : decode cX12_runs 184 = .ok (.if_icmp .ge 66, 3) := by decide +kernel
theorem dX12_runs_187 : decode cX12_runs 187 = .ok (.aload_n 0, 1) := by decide +kernel
theorem dX12_runs_188 : decode cX12_runs 188 = .ok (.getfield 129, 3) := by decide +kernel
theorem dX12_runs_191 : decode cX12_runs 191 = .ok (.iload_n 3, 1) := by decide +kernel
theorem dX12_runs_192 : decode cX12_runs 192 = .ok (.iaload, 1) := by decide +kernel
theorem dX12_runs_193 : decode cX12_runs 193 = .ok (.iload_n 2, 1) := by decide +kernel
theorem dX12_runs_194 : decode cX12_runs 194 = .ok (.if_icmp .ne 50, 3) := by decide +kernel
theorem dX12_runs_197 : decode cX12_runs 197 = .ok (.aload_n 0, 1) := by decide +kernel
theorem dX12_runs_198 : decode cX12_runs 198 = .ok (.getfield 132, 3) := by decide +kernel
theorem dX12_runs_201 : decode cX12_runs 201 = .ok (.iload_n 3, 1) := by decide +kernel
theorem dX12_runs_202 : decode cX12_runs 202 = .ok (.iaload, 1) := by decide +kernel
theorem dX12_runs_203 : decode cX12_runs 203 = .ok (.aload_n 0, 1) := by decide +kernel
theorem dX12_runs_204 : decode cX12_runs 204 = .ok (.getfield 111, 3) := by decide +kernel
theorem dX12_runs_207 : decode cX12_runs 207 = .ok (.if_icmp .ge 37, 3) := by decide +kernel
theorem dX12_runs_210 : decode cX12_runs 210 = .ok (.aload_n 0, 1) := by decide +kernel
theorem dX12_runs_211 : decode cX12_runs 211 = .ok (.getfield 156, 3) := by decide +kernel
theorem dX12_runs_214 : decode cX12_runs 214 = .ok (.aload_n 0, 1) := by decide +kernel
theorem dX12_runs_215 : decode cX12_runs 215 = .ok (.getfield 132, 3) := by decide +kernel
theorem dX12_runs_218 : decode cX12_runs 218 = .ok (.iload_n 3, 1) := by decide +kernel
theorem dX12_runs_219 : decode cX12_runs 219 = .ok (.iaload, 1) := by decide +kernel
theorem dX12_runs_220 : decode cX12_runs 220 = .ok (.iaload, 1) := by decide +kernel
theorem dX12_runs_221 : decode cX12_runs 221 = .ok (.ifCond .le 23, 3) := by decide +kernel
theorem dX12_runs_224 : decode cX12_runs 224 = .ok (.aload_n 0, 1) := by decide +kernel
theorem dX12_runs_225 : decode cX12_runs 225 = .ok (.getfield 156, 3) := by decide +kernel
theorem dX12_runs_228 : decode cX12_runs 228 = .ok (.aload_n 0, 1) := by decide +kernel
theorem dX12_runs_229 : decode cX12_runs 229 = .ok (.getfield 132, 3) := by decide +kernel
theorem dX12_runs_232 : decode cX12_runs 232 = .ok (.iload_n 3, 1) := by decide +kernel
theorem dX12_runs_233 : decode cX12_runs 233 = .ok (.iaload, 1) := by decide +kernel
theorem dX12_runs_234 : decode cX12_runs 234 = .ok (.dup2, 1) := by decide +kernel
theorem dX12_runs_235 : decode cX12_runs 235 = .ok (.iaload, 1) := by decide +kernel
theorem dX12_runs_236 : decode cX12_runs 236 = .ok (.aload_n 0, 1) := by decide +kernel
theorem dX12_runs_237 : decode cX12_runs 237 = .ok (.getfield 135, 3) := by decide +kernel
theorem dX12_runs_240 : decode cX12_runs 240 = .ok (.iload_n 3, 1) := by decide +kernel
theorem dX12_runs_241 : decode cX12_runs 241 = .ok (.iaload, 1) := by decide +kernel
theorem dX12_runs_242 : decode cX12_runs 242 = .ok (.iadd, 1) := by decide +kernel
theorem dX12_runs_243 : decode cX12_runs 243 = .ok (.iastore, 1) := by decide +kernel
theorem dX12_runs_244 : decode cX12_runs 244 = .ok (.iinc 3 1, 3) := by decide +kernel
theorem dX12_runs_247 : decode cX12_runs 247 = .ok (.goto (-68), 3) := by decide +kernel
theorem dX12_runs_250 : decode cX12_runs 250 = .ok (.iconst 0, 1) := by decide +kernel
theorem dX12_runs_251 : decode cX12_runs 251 = .ok (.istore_n 3, 1) := by decide +kernel
theorem dX12_runs_252 : decode cX12_runs 252 = .ok (.iload_n 3, 1) := by decide +kernel
theorem dX12_runs_253 : decode cX12_runs 253 = .ok (.aload_n 0, 1) := by decide +kernel
theorem dX12_runs_254 : decode cX12_runs 254 = .ok (.getfield 111, 3) := by decide +kernel
theorem dX12_runs_257 : decode cX12_runs 257 = .ok (.if_icmp .ge 15, 3) := by decide +kernel
theorem dX12_runs_260 : decode cX12_runs 260 = .ok (.aload_n 0, 1) := by decide +kernel
theorem dX12_runs_261 : decode cX12_runs 261 = .ok (.iload_n 3, 1) := by decide +kernel
theorem dX12_runs_262 : decode cX12_runs 262 = .ok (.iload_n 2, 1) := by decide +kernel
theorem dX12_runs_263 : decode cX12_runs 263 = .ok (.invokevirtual 473, 3) := by decide +kernel
theorem dX12_runs_266 : decode cX12_runs 266 = .ok (.iinc 3 1, 3) := by decide +kernel
theorem dX12_runs_269 : decode cX12_runs 269 = .ok (.goto (-17), 3) := by decide +kernel
theorem dX12_runs_272 : decode cX12_runs 272 = .ok (.aload_n 0, 1) := by decide +kernel
theorem dX12_runs_273 : decode cX12_runs 273 = .ok (.iload_n 2, 1) := by decide +kernel
theorem dX12_runs_274 : decode cX12_runs 274 = .ok (.invokevirtual 476, 3) := by decide +kernel
theorem dX12_runs_277 : decode cX12_runs 277 = .ok (.ifCond .eq 8, 3) := by decide +kernel
theorem dX12_runs_280 : decode cX12_runs 280 = .ok (.aload_n 0, 1) := by decide +kernel
theorem dX12_runs_281 : decode cX12_runs 281 = .ok (.iload_n 2, 1) := by decide +kernel
theorem dX12_runs_282 : decode cX12_runs 282 = .ok (.putfield 467, 3) := by decide +kernel
theorem dX12_runs_285 : decode cX12_runs 285 = .ok (.iinc 2 1, 3) := by decide +kernel
theorem dX12_runs_288 : decode cX12_runs 288 = .ok (.goto (-173), 3) := by decide +kernel
theorem dX12_runs_291 : decode cX12_runs 291 = .ok (.return_, 1) := by decide +kernel
def F_X12_runs_b171 (N : Nat) (rc115 : Int32 → Int32 → PH → Option PH) (rc131 : Int32 → Int32 → Int32 → PH → Option PH) (x1 : Int32) (x2 : Int32) (x3 : Int32) (h : PH) : Option PH :=
  ib (x3 + (1 : Int32)) fun v1 =>
  rc131 x1 x2 v1 h
set_option maxRecDepth 20000 in
set_option maxHeartbeats 4000000 in
theorem T_X12_runs_b171 {X : CT} (C : CX X 154 cX12_runs 4 RX12 none 5 118) {h0 : PH} {N : Nat} {rc115 : Int32 → Int32 → PH → Option PH} {rc131 : Int32 → Int32 → Int32 → PH → Option PH} (hr115 : ∀ (x1 : Int32) (x2 : Int32) (h : PH), rc115 x1 x2 h = some h0 → V X (QV X h0) h 115 [some (.ref 103), some (.int x1), some (.int x2), none] []) (hr131 : ∀ (x1 : Int32) (x2 : Int32) (x3 : Int32) (h : PH), rc131 x1 x2 x3 h = some h0 → V X (QV X h0) h 131 [some (.ref 103), some (.int x1), some (.int x2), some (.int x3)] []) : ∀ (x1 : Int32) (x2 : Int32) (x3 : Int32) (h : PH), F_X12_runs_b171 N rc115 rc131 x1 x2 x3 h = some h0 → V X (QV X h0) h 171 [some (.ref 103), some (.int x1), some (.int x2), some (.int x3)] [] := by
  intro x1 x2 x3 h hyp
  unfold F_X12_runs_b171 at hyp
  obtain ⟨v1, ev1, hyp⟩ := ib_n hyp
  refine V_iinc (pc := 171) C dX12_runs_171 (v := v1) rfl (by rw [ev1]; rfl) (by decide) rfl ?_
  refine V_goto (pc := 174) C dX12_runs_174 (tgt := 131) (by decide) ?_
  refine V_weak (lv' := [some (.ref 103), some (.int x1), some (.int x2), some (.int v1)]) (lvle_s (lvle_s (lvle_s (lvle_s lvle_0)))) ?_
  exact hr131 x1 x2 v1 h hyp
def F_X12_runs_b164 (N : Nat) (rc115 : Int32 → Int32 → PH → Option PH) (rc131 : Int32 → Int32 → Int32 → PH → Option PH) (x1 : Int32) (x2 : Int32) (x3 : Int32) (h : PH) : Option PH :=
  bV (F_X12_gives N x3 x2 x1 h) fun h2 =>
  F_X12_runs_b171 N rc115 rc131 x1 x2 x3 h2
set_option maxRecDepth 20000 in
set_option maxHeartbeats 4000000 in
theorem T_X12_runs_b164 {X : CT} (C : CX X 154 cX12_runs 4 RX12 none 5 118) {h0 : PH} {N : Nat} {rc115 : Int32 → Int32 → PH → Option PH} {rc131 : Int32 → Int32 → Int32 → PH → Option PH} (hr115 : ∀ (x1 : Int32) (x2 : Int32) (h : PH), rc115 x1 x2 h = some h0 → V X (QV X h0) h 115 [some (.ref 103), some (.int x1), some (.int x2), none] []) (hr131 : ∀ (x1 : Int32) (x2 : Int32) (x3 : Int32) (h : PH), rc131 x1 x2 x3 h = some h0 → V X (QV X h0) h 131 [some (.ref 103), some (.int x1), some (.int x2), some (.int x3)] []) : ∀ (x1 : Int32) (x2 : Int32) (x3 : Int32) (h : PH), F_X12_runs_b164 N rc115 rc131 x1 x2 x3 h = some h0 → V X (QV X h0) h 164 [some (.ref 103), some (.int x1), some (.int x2), some (.int x3)] [] := by
  intro x1 x2 x3 h hyp
  unfold F_X12_runs_b164 at hyp
  refine V_aload_n (pc := 164) C dX12_runs_164 rfl ?_
  refine V_iload_n (pc := 165) C dX12_runs_165 rfl ?_
  refine V_iload_n (pc := 166) C dX12_runs_166 rfl ?_
  refine V_iload_n (pc := 167) C dX12_runs_167 rfl ?_
  obtain ⟨h2, eh2, hyp⟩ := bV_n hyp
  refine V_callV (pc := 168) C dX12_runs_168 lm_X12_470 mk_X12_gives ok_103 rfl (M_X12_gives _ eh2) rfl pd_X12_gives (by decide) (by decide) (by decide) (As := [.int x3, .int x2, .int x1]) (rest := []) rfl (Nat.le_of_ble_eq_true rfl) ?_
  refine V_weak (lv' := [some (.ref 103), some (.int x1), some (.int x2), some (.int x3)]) (lvle_s (lvle_s (lvle_s (lvle_s lvle_0)))) ?_
  exact (T_X12_runs_b171 C hr115 hr131) x1 x2 x3 h2 hyp
def F_X12_runs_b244 (N : Nat) (rc115 : Int32 → Int32 → PH → Option PH) (rc179 : Int32 → Int32 → Int32 → PH → Option PH) (x1 : Int32) (x2 : Int32) (x3 : Int32) (h : PH) : Option PH :=
  ib (x3 + (1 : Int32)) fun v1 =>
  rc179 x1 x2 v1 h
set_option maxRecDepth 20000 in
set_option maxHeartbeats 4000000 in
theorem T_X12_runs_b244 {X : CT} (C : CX X 154 cX12_runs 4 RX12 none 5 118) {h0 : PH} {N : Nat} {rc115 : Int32 → Int32 → PH → Option PH} {rc179 : Int32 → Int32 → Int32 → PH → Option PH} (hr115 : ∀ (x1 : Int32) (x2 : Int32) (h : PH), rc115 x1 x2 h = some h0 → V X (QV X h0) h 115 [some (.ref 103), some (.int x1), some (.int x2), none] []) (hr179 : ∀ (x1 : Int32) (x2 : Int32) (x3 : Int32) (h : PH), rc179 x1 x2 x3 h = some h0 → V X (QV X h0) h 179 [some (.ref 103), some (.int x1), some (.int x2), some (.int x3)] []) : ∀ (x1 : Int32) (x2 : Int32) (x3 : Int32) (h : PH), F_X12_runs_b244 N rc115 rc179 x1 x2 x3 h = some h0 → V X (QV X h0) h 244 [some (.ref 103), some (.int x1), some (.int x2), some (.int x3)] [] := by
  intro x1 x2 x3 h hyp
  unfold F_X12_runs_b244 at hyp
  obtain ⟨v1, ev1, hyp⟩ := ib_n hyp
  refine V_iinc (pc := 244) C dX12_runs_244 (v := v1) rfl (by rw [ev1]; rfl) (by decide) rfl ?_
  refine V_goto (pc := 247) C dX12_runs_247 (tgt := 179) (by decide) ?_
  refine V_weak (lv' := [some (.ref 103), some (.int x1), some (.int x2), some (.int v1)]) (lvle_s (lvle_s (lvle_s (lvle_s lvle_0)))) ?_
  exact hr179 x1 x2 v1 h hyp
def F_X12_runs_b285 (N : Nat) (rc115 : Int32 → Int32 → PH → Option PH) (x1 : Int32) (x2 : Int32) (h : PH) : Option PH :=
  ib (x2 + (1 : Int32)) fun v1 =>
  rc115 x1 v1 h
set_option maxRecDepth 20000 in
set_option maxHeartbeats 4000000 in
theorem T_X12_runs_b285 {X : CT} (C : CX X 154 cX12_runs 4 RX12 none 5 118) {h0 : PH} {N : Nat} {rc115 : Int32 → Int32 → PH → Option PH} (hr115 : ∀ (x1 : Int32) (x2 : Int32) (h : PH), rc115 x1 x2 h = some h0 → V X (QV X h0) h 115 [some (.ref 103), some (.int x1), some (.int x2), none] []) : ∀ (x1 : Int32) (x2 : Int32) (h : PH), F_X12_runs_b285 N rc115 x1 x2 h = some h0 → V X (QV X h0) h 285 [some (.ref 103), some (.int x1), some (.int x2), none] [] := by
  intro x1 x2 h hyp
  unfold F_X12_runs_b285 at hyp
  obtain ⟨v1, ev1, hyp⟩ := ib_n hyp
  refine V_iinc (pc := 285) C dX12_runs_285 (v := v1) rfl (by rw [ev1]; rfl) (by decide) rfl ?_
  refine V_goto (pc := 288) C dX12_runs_288 (tgt := 115) (by decide) ?_
  refine V_weak (lv' := [some (.ref 103), some (.int x1), some (.int v1), none]) (lvle_s (lvle_s (lvle_s (lvle_n lvle_0)))) ?_
  exact hr115 x1 v1 h hyp
def F_X12_runs_b272 (N : Nat) (rc115 : Int32 → Int32 → PH → Option PH) (x1 : Int32) (x2 : Int32) (h : PH) : Option PH :=
  bI (F_X12_isOver N x2 h) fun r1 h2 =>
  if r1 = 0 then
    F_X12_runs_b285 N rc115 x1 x2 h2
  else
    hb (hs h2 103 74 x2) fun h4 =>
    F_X12_runs_b285 N rc115 x1 x2 h4
set_option maxRecDepth 20000 in
set_option maxHeartbeats 4000000 in
theorem T_X12_runs_b272 {X : CT} (C : CX X 154 cX12_runs 4 RX12 none 5 118) {h0 : PH} {N : Nat} {rc115 : Int32 → Int32 → PH → Option PH} (hr115 : ∀ (x1 : Int32) (x2 : Int32) (h : PH), rc115 x1 x2 h = some h0 → V X (QV X h0) h 115 [some (.ref 103), some (.int x1), some (.int x2), none] []) : ∀ (x1 : Int32) (x2 : Int32) (h : PH), F_X12_runs_b272 N rc115 x1 x2 h = some h0 → V X (QV X h0) h 272 [some (.ref 103), some (.int x1), some (.int x2), none] [] := by
  intro x1 x2 h hyp
  unfold F_X12_runs_b272 at hyp
  refine V_aload_n (pc := 272) C dX12_runs_272 rfl ?_
  refine V_iload_n (pc := 273) C dX12_runs_273 rfl ?_
  obtain ⟨r1, h2, eh2, hyp⟩ := bI_n hyp
  refine V_callI (pc := 274) C dX12_runs_274 lm_X12_476 mk_X12_isOver ok_103 rfl (M_X12_isOver _ eh2) rfl pd_X12_isOver (by decide) (by decide) (by decide) (As := [.int x2]) (rest := []) rfl (Nat.le_of_ble_eq_true rfl) ?_
  refine V_if_eq (pc := 277) C dX12_runs_277 (tgt := 285) (by decide) (fun q3 => ?_) (fun q3 => ?_)
  · replace hyp := (if_pos q3).symm.trans hyp
    refine V_weak (lv' := [some (.ref 103), some (.int x1), some (.int x2), none]) (lvle_s (lvle_s (lvle_s (lvle_n lvle_0)))) ?_
    exact (T_X12_runs_b285 C hr115) x1 x2 h2 hyp
  · replace hyp := (if_neg q3).symm.trans hyp
    refine V_aload_n (pc := 280) C dX12_runs_280 rfl ?_
    refine V_iload_n (pc := 281) C dX12_runs_281 rfl ?_
    obtain ⟨h4, eh4, hyp⟩ := hb_n hyp
    refine V_putI (pc := 282) C dX12_runs_282 lf_X12_467 fk_103_74 rfl rfl eh4 ?_
    refine V_weak (lv' := [some (.ref 103), some (.int x1), some (.int x2), none]) (lvle_s (lvle_s (lvle_s (lvle_n lvle_0)))) ?_
    exact (T_X12_runs_b285 C hr115) x1 x2 h4 hyp
def F_X12_runs_b252 (N : Nat) (rc115 : Int32 → Int32 → PH → Option PH) : Nat → Int32 → Int32 → Int32 → PH → Option PH
  | 0, _, _, _, _ => none
  | n + 1, x1, x2, x3, h =>
    if (h.1 103 53) ≤ x3 then
      F_X12_runs_b272 N rc115 x1 x2 h
    else
      bV (F_X12_acts N x3 x2 h) fun h3 =>
      ib (x3 + (1 : Int32)) fun v4 =>
      F_X12_runs_b252 N rc115 n x1 x2 v4 h3
set_option maxRecDepth 20000 in
set_option maxHeartbeats 4000000 in
theorem T_X12_runs_b252 {X : CT} (C : CX X 154 cX12_runs 4 RX12 none 5 118) {h0 : PH} {N : Nat} {rc115 : Int32 → Int32 → PH → Option PH} (hr115 : ∀ (x1 : Int32) (x2 : Int32) (h : PH), rc115 x1 x2 h = some h0 → V X (QV X h0) h 115 [some (.ref 103), some (.int x1), some (.int x2), none] []) : ∀ (n : Nat) (x1 : Int32) (x2 : Int32) (x3 : Int32) (h : PH), F_X12_runs_b252 N rc115 n x1 x2 x3 h = some h0 → V X (QV X h0) h 252 [some (.ref 103), some (.int x1), some (.int x2), some (.int x3)] [] := by
  intro n
  induction n with
  | zero =>
    intro x1 x2 x3 h hyp
    cases hyp
  | succ n ih =>
    intro x1 x2 x3 h hyp
    unfold F_X12_runs_b252 at hyp
    refine V_iload_n (pc := 252) C dX12_runs_252 rfl ?_
    refine V_aload_n (pc := 253) C dX12_runs_253 rfl ?_
    refine V_getI (pc := 254) C dX12_runs_254 lf_X12_111 fk_103_53 ?_
    refine V_icmp_ge (pc := 257) C dX12_runs_257 (tgt := 272) (by decide) (fun q1 => ?_) (fun q1 => ?_)
    · replace hyp := (if_pos q1).symm.trans hyp
      refine V_weak (lv' := [some (.ref 103), some (.int x1), some (.int x2), none]) (lvle_s (lvle_s (lvle_s (lvle_n lvle_0)))) ?_
      exact (T_X12_runs_b272 C hr115) x1 x2 h hyp
    · replace hyp := (if_neg q1).symm.trans hyp
      refine V_aload_n (pc := 260) C dX12_runs_260 rfl ?_
      refine V_iload_n (pc := 261) C dX12_runs_261 rfl ?_
      refine V_iload_n (pc := 262) C dX12_runs_262 rfl ?_
      obtain ⟨h3, eh3, hyp⟩ := bV_n hyp
      refine V_callV (pc := 263) C dX12_runs_263 lm_X12_473 mk_X12_acts ok_103 rfl (M_X12_acts _ eh3) rfl pd_X12_acts (by decide) (by decide) (by decide) (As := [.int x3, .int x2]) (rest := []) rfl (Nat.le_of_ble_eq_true rfl) ?_
      obtain ⟨v4, ev4, hyp⟩ := ib_n hyp
      refine V_iinc (pc := 266) C dX12_runs_266 (v := v4) rfl (by rw [ev4]; rfl) (by decide) rfl ?_
      refine V_goto (pc := 269) C dX12_runs_269 (tgt := 252) (by decide) ?_
      refine V_weak (lv' := [some (.ref 103), some (.int x1), some (.int x2), some (.int v4)]) (lvle_s (lvle_s (lvle_s (lvle_s lvle_0)))) ?_
      exact ih x1 x2 v4 h3 hyp
def F_X12_runs_b250 (N : Nat) (rc115 : Int32 → Int32 → PH → Option PH) (x1 : Int32) (x2 : Int32) (h : PH) : Option PH :=
  F_X12_runs_b252 N rc115 N x1 x2 (0 : Int32) h
set_option maxRecDepth 20000 in
set_option maxHeartbeats 4000000 in
theorem T_X12_runs_b250 {X : CT} (C : CX X 154 cX12_runs 4 RX12 none 5 118) {h0 : PH} {N : Nat} {rc115 : Int32 → Int32 → PH → Option PH} (hr115 : ∀ (x1 : Int32) (x2 : Int32) (h : PH), rc115 x1 x2 h = some h0 → V X (QV X h0) h 115 [some (.ref 103), some (.int x1), some (.int x2), none] []) : ∀ (x1 : Int32) (x2 : Int32) (h : PH), F_X12_runs_b250 N rc115 x1 x2 h = some h0 → V X (QV X h0) h 250 [some (.ref 103), some (.int x1), some (.int x2), none] [] := by
  intro x1 x2 h hyp
  unfold F_X12_runs_b250 at hyp
  refine V_iconst (pc := 250) C dX12_runs_250 (v := 0) (by decide) ?_
  refine V_istore_n (pc := 251) C dX12_runs_251 (by decide) rfl ?_
  refine V_weak (lv' := [some (.ref 103), some (.int x1), some (.int x2), some (.int (0 : Int32))]) (lvle_s (lvle_s (lvle_s (lvle_s lvle_0)))) ?_
  exact (T_X12_runs_b252 C hr115) N x1 x2 (0 : Int32) h hyp
def F_X12_runs_b179 (N : Nat) (rc115 : Int32 → Int32 → PH → Option PH) : Nat → Int32 → Int32 → Int32 → PH → Option PH
  | 0, _, _, _, _ => none
  | n + 1, x1, x2, x3, h =>
    if (h.1 103 61) ≤ x3 then
      F_X12_runs_b250 N rc115 x1 x2 h
    else
      if inb x3 8 = true then
      if (h.1 139 x3.toNatClampNeg) = x2 then
        if inb x3 8 = true then
        if (h.1 103 53) ≤ (h.1 140 x3.toNatClampNeg) then
          F_X12_runs_b244 N rc115 (F_X12_runs_b179 N rc115 n) x1 x2 x3 h
        else
          if inb x3 8 = true then
          if inb (h.1 140 x3.toNatClampNeg) 2 = true then
          if (h.1 147 (h.1 140 x3.toNatClampNeg).toNatClampNeg) ≤ 0 then
            F_X12_runs_b244 N rc115 (F_X12_runs_b179 N rc115 n) x1 x2 x3 h
          else
            if inb x3 8 = true then
            ib (h.1 140 x3.toNatClampNeg) fun v10 =>
            if inb v10 2 = true then
            hb (hs h 147 v10.toNatClampNeg ((h.1 147 v10.toNatClampNeg) + (h.1 141 x3.toNatClampNeg))) fun h12 =>
            F_X12_runs_b244 N rc115 (F_X12_runs_b179 N rc115 n) x1 x2 x3 h12
            else none
            else none
          else none
          else none
        else none
      else
        F_X12_runs_b244 N rc115 (F_X12_runs_b179 N rc115 n) x1 x2 x3 h
      else none
set_option maxRecDepth 20000 in
set_option maxHeartbeats 4000000 in
theorem T_X12_runs_b179 {X : CT} (C : CX X 154 cX12_runs 4 RX12 none 5 118) {h0 : PH} {N : Nat} {rc115 : Int32 → Int32 → PH → Option PH} (hr115 : ∀ (x1 : Int32) (x2 : Int32) (h : PH), rc115 x1 x2 h = some h0 → V X (QV X h0) h 115 [some (.ref 103), some (.int x1), some (.int x2), none] []) : ∀ (n : Nat) (x1 : Int32) (x2 : Int32) (x3 : Int32) (h : PH), F_X12_runs_b179 N rc115 n x1 x2 x3 h = some h0 → V X (QV X h0) h 179 [some (.ref 103), some (.int x1), some (.int x2), some (.int x3)] [] := by
  intro n
  induction n with
  | zero =>
    intro x1 x2 x3 h hyp
    cases hyp
  | succ n ih =>
    intro x1 x2 x3 h hyp
    unfold F_X12_runs_b179 at hyp
    refine V_iload_n (pc := 179) C dX12_runs_179 rfl ?_
    refine V_aload_n (pc := 180) C dX12_runs_180 rfl ?_
    refine V_getI (pc := 181) C dX12_runs_181 lf_X12_427 fk_103_61 ?_
    refine V_icmp_ge (pc := 184) C dX12_runs_184 (tgt := 250) (by decide) (fun q1 => ?_) (fun q1 => ?_)
    · replace hyp := (if_pos q1).symm.trans hyp
      refine V_weak (lv' := [some (.ref 103), some (.int x1), some (.int x2), none]) (lvle_s (lvle_s (lvle_s (lvle_n lvle_0)))) ?_
      exact (T_X12_runs_b250 C hr115) x1 x2 h hyp
    · replace hyp := (if_neg q1).symm.trans hyp
      refine V_aload_n (pc := 187) C dX12_runs_187 rfl ?_
      refine V_getR (pc := 188) C dX12_runs_188 lf_X12_129 fk_103_62 ?_
      refine V_iload_n (pc := 191) C dX12_runs_191 rfl ?_
      obtain ⟨g2, hyp⟩ := gd_n hyp
      refine V_iald (pc := 192) C dX12_runs_192 ak_139 g2 ?_
      refine V_iload_n (pc := 193) C dX12_runs_193 rfl ?_
      refine V_icmp_ne (pc := 194) C dX12_runs_194 (tgt := 244) (by decide) (fun q3 => ?_) (fun q3 => ?_)
      · replace hyp := (if_neg q3).symm.trans hyp
        refine V_weak (lv' := [some (.ref 103), some (.int x1), some (.int x2), some (.int x3)]) (lvle_s (lvle_s (lvle_s (lvle_s lvle_0)))) ?_
        exact (T_X12_runs_b244 C hr115 ih) x1 x2 x3 h hyp
      · replace hyp := (if_pos q3).symm.trans hyp
        refine V_aload_n (pc := 197) C dX12_runs_197 rfl ?_
        refine V_getR (pc := 198) C dX12_runs_198 lf_X12_132 fk_103_63 ?_
        refine V_iload_n (pc := 201) C dX12_runs_201 rfl ?_
        obtain ⟨g4, hyp⟩ := gd_n hyp
        refine V_iald (pc := 202) C dX12_runs_202 ak_140 g4 ?_
        refine V_aload_n (pc := 203) C dX12_runs_203 rfl ?_
        refine V_getI (pc := 204) C dX12_runs_204 lf_X12_111 fk_103_53 ?_
        refine V_icmp_ge (pc := 207) C dX12_runs_207 (tgt := 244) (by decide) (fun q5 => ?_) (fun q5 => ?_)
        · replace hyp := (if_pos q5).symm.trans hyp
          refine V_weak (lv' := [some (.ref 103), some (.int x1), some (.int x2), some (.int x3)]) (lvle_s (lvle_s (lvle_s (lvle_s lvle_0)))) ?_
          exact (T_X12_runs_b244 C hr115 ih) x1 x2 x3 h hyp
        · replace hyp := (if_neg q5).symm.trans hyp
          refine V_aload_n (pc := 210) C dX12_runs_210 rfl ?_
          refine V_getR (pc := 211) C dX12_runs_211 lf_X12_156 fk_103_71 ?_
          refine V_aload_n (pc := 214) C dX12_runs_214 rfl ?_
          refine V_getR (pc := 215) C dX12_runs_215 lf_X12_132 fk_103_63 ?_
          refine V_iload_n (pc := 218) C dX12_runs_218 rfl ?_
          obtain ⟨g6, hyp⟩ := gd_n hyp
          refine V_iald (pc := 219) C dX12_runs_219 ak_140 g6 ?_
          obtain ⟨g7, hyp⟩ := gd_n hyp
          refine V_iald (pc := 220) C dX12_runs_220 ak_147 g7 ?_
          refine V_if_le (pc := 221) C dX12_runs_221 (tgt := 244) (by decide) (fun q8 => ?_) (fun q8 => ?_)
          · replace hyp := (if_pos q8).symm.trans hyp
            refine V_weak (lv' := [some (.ref 103), some (.int x1), some (.int x2), some (.int x3)]) (lvle_s (lvle_s (lvle_s (lvle_s lvle_0)))) ?_
            exact (T_X12_runs_b244 C hr115 ih) x1 x2 x3 h hyp
          · replace hyp := (if_neg q8).symm.trans hyp
            refine V_aload_n (pc := 224) C dX12_runs_224 rfl ?_
            refine V_getR (pc := 225) C dX12_runs_225 lf_X12_156 fk_103_71 ?_
            refine V_aload_n (pc := 228) C dX12_runs_228 rfl ?_
            refine V_getR (pc := 229) C dX12_runs_229 lf_X12_132 fk_103_63 ?_
            refine V_iload_n (pc := 232) C dX12_runs_232 rfl ?_
            obtain ⟨g9, hyp⟩ := gd_n hyp
            refine V_iald (pc := 233) C dX12_runs_233 ak_140 g9 ?_
            obtain ⟨v10, ev10, hyp⟩ := ib_n hyp
            refine V_topI ev10 ?_
            refine V_dup2 (pc := 234) C dX12_runs_234 rfl rfl ?_
            obtain ⟨g11, hyp⟩ := gd_n hyp
            refine V_iald (pc := 235) C dX12_runs_235 ak_147 g11 ?_
            refine V_aload_n (pc := 236) C dX12_runs_236 rfl ?_
            refine V_getR (pc := 237) C dX12_runs_237 lf_X12_135 fk_103_64 ?_
            refine V_iload_n (pc := 240) C dX12_runs_240 rfl ?_
            refine V_iald (pc := 241) C dX12_runs_241 ak_141 g9 ?_
            refine V_iadd (pc := 242) C dX12_runs_242 ?_
            obtain ⟨h12, eh12, hyp⟩ := hb_n hyp
            refine V_iast (pc := 243) C dX12_runs_243 ak_147 g11 eh12 ?_
            refine V_weak (lv' := [some (.ref 103), some (.int x1), some (.int x2), some (.int x3)]) (lvle_s (lvle_s (lvle_s (lvle_s lvle_0)))) ?_
            exact (T_X12_runs_b244 C hr115 ih) x1 x2 x3 h12 hyp
def F_X12_runs_b177 (N : Nat) (rc115 : Int32 → Int32 → PH → Option PH) (x1 : Int32) (x2 : Int32) (h : PH) : Option PH :=
  F_X12_runs_b179 N rc115 N x1 x2 (0 : Int32) h
set_option maxRecDepth 20000 in
set_option maxHeartbeats 4000000 in
theorem T_X12_runs_b177 {X : CT} (C : CX X 154 cX12_runs 4 RX12 none 5 118) {h0 : PH} {N : Nat} {rc115 : Int32 → Int32 → PH → Option PH} (hr115 : ∀ (x1 : Int32) (x2 : Int32) (h : PH), rc115 x1 x2 h = some h0 → V X (QV X h0) h 115 [some (.ref 103), some (.int x1), some (.int x2), none] []) : ∀ (x1 : Int32) (x2 : Int32) (h : PH), F_X12_runs_b177 N rc115 x1 x2 h = some h0 → V X (QV X h0) h 177 [some (.ref 103), some (.int x1), some (.int x2), none] [] := by
  intro x1 x2 h hyp
  unfold F_X12_runs_b177 at hyp
  refine V_iconst (pc := 177) C dX12_runs_177 (v := 0) (by decide) ?_
  refine V_istore_n (pc := 178) C dX12_runs_178 (by decide) rfl ?_
  refine V_weak (lv' := [some (.ref 103), some (.int x1), some (.int x2), some (.int (0 : Int32))]) (lvle_s (lvle_s (lvle_s (lvle_s lvle_0)))) ?_
  exact (T_X12_runs_b179 C hr115) N x1 x2 (0 : Int32) h hyp
def F_X12_runs_b131 (N : Nat) (rc115 : Int32 → Int32 → PH → Option PH) : Nat → Int32 → Int32 → Int32 → PH → Option PH
  | 0, _, _, _, _ => none
  | n + 1, x1, x2, x3, h =>
    if (h.1 103 57) ≤ x3 then
      F_X12_runs_b177 N rc115 x1 x2 h
    else
      if inb x3 24 = true then
      if (h.1 136 x3.toNatClampNeg) = x2 then
        if (h.1 103 65) < 0 then
          F_X12_runs_b164 N rc115 (F_X12_runs_b131 N rc115 n) x1 x2 x3 h
        else
          if (h.1 103 65) ≤ x2 then
            F_X12_runs_b171 N rc115 (F_X12_runs_b131 N rc115 n) x1 x2 x3 h
          else
            F_X12_runs_b164 N rc115 (F_X12_runs_b131 N rc115 n) x1 x2 x3 h
      else
        F_X12_runs_b171 N rc115 (F_X12_runs_b131 N rc115 n) x1 x2 x3 h
      else none
set_option maxRecDepth 20000 in
set_option maxHeartbeats 4000000 in
theorem T_X12_runs_b131 {X : CT} (C : CX X 154 cX12_runs 4 RX12 none 5 118) {h0 : PH} {N : Nat} {rc115 : Int32 → Int32 → PH → Option PH} (hr115 : ∀ (x1 : Int32) (x2 : Int32) (h : PH), rc115 x1 x2 h = some h0 → V X (QV X h0) h 115 [some (.ref 103), some (.int x1), some (.int x2), none] []) : ∀ (n : Nat) (x1 : Int32) (x2 : Int32) (x3 : Int32) (h : PH), F_X12_runs_b131 N rc115 n x1 x2 x3 h = some h0 → V X (QV X h0) h 131 [some (.ref 103), some (.int x1), some (.int x2), some (.int x3)] [] := by
  intro n
  induction n with
  | zero =>
    intro x1 x2 x3 h hyp
    cases hyp
  | succ n ih =>
    intro x1 x2 x3 h hyp
    unfold F_X12_runs_b131 at hyp
    refine V_iload_n (pc := 131) C dX12_runs_131 rfl ?_
    refine V_aload_n (pc := 132) C dX12_runs_132 rfl ?_
    refine V_getI (pc := 133) C dX12_runs_133 lf_X12_424 fk_103_57 ?_
    refine V_icmp_ge (pc := 136) C dX12_runs_136 (tgt := 177) (by decide) (fun q1 => ?_) (fun q1 => ?_)
    · replace hyp := (if_pos q1).symm.trans hyp
      refine V_weak (lv' := [some (.ref 103), some (.int x1), some (.int x2), none]) (lvle_s (lvle_s (lvle_s (lvle_n lvle_0)))) ?_
      exact (T_X12_runs_b177 C hr115) x1 x2 h hyp
    · replace hyp := (if_neg q1).symm.trans hyp
      refine V_aload_n (pc := 139) C dX12_runs_139 rfl ?_
      refine V_getR (pc := 140) C dX12_runs_140 lf_X12_120 fk_103_58 ?_
      refine V_iload_n (pc := 143) C dX12_runs_143 rfl ?_
      obtain ⟨g2, hyp⟩ := gd_n hyp
      refine V_iald (pc := 144) C dX12_runs_144 ak_136 g2 ?_
      refine V_iload_n (pc := 145) C dX12_runs_145 rfl ?_
      refine V_icmp_ne (pc := 146) C dX12_runs_146 (tgt := 171) (by decide) (fun q3 => ?_) (fun q3 => ?_)
      · replace hyp := (if_neg q3).symm.trans hyp
        refine V_weak (lv' := [some (.ref 103), some (.int x1), some (.int x2), some (.int x3)]) (lvle_s (lvle_s (lvle_s (lvle_s lvle_0)))) ?_
        exact (T_X12_runs_b171 C hr115 ih) x1 x2 x3 h hyp
      · replace hyp := (if_pos q3).symm.trans hyp
        refine V_aload_n (pc := 149) C dX12_runs_149 rfl ?_
        refine V_getI (pc := 150) C dX12_runs_150 lf_X12_138 fk_103_65 ?_
        refine V_if_lt (pc := 153) C dX12_runs_153 (tgt := 164) (by decide) (fun q4 => ?_) (fun q4 => ?_)
        · replace hyp := (if_pos q4).symm.trans hyp
          refine V_weak (lv' := [some (.ref 103), some (.int x1), some (.int x2), some (.int x3)]) (lvle_s (lvle_s (lvle_s (lvle_s lvle_0)))) ?_
          exact (T_X12_runs_b164 C hr115 ih) x1 x2 x3 h hyp
        · replace hyp := (if_neg q4).symm.trans hyp
          refine V_iload_n (pc := 156) C dX12_runs_156 rfl ?_
          refine V_aload_n (pc := 157) C dX12_runs_157 rfl ?_
          refine V_getI (pc := 158) C dX12_runs_158 lf_X12_138 fk_103_65 ?_
          refine V_icmp_ge (pc := 161) C dX12_runs_161 (tgt := 171) (by decide) (fun q5 => ?_) (fun q5 => ?_)
          · replace hyp := (if_pos q5).symm.trans hyp
            refine V_weak (lv' := [some (.ref 103), some (.int x1), some (.int x2), some (.int x3)]) (lvle_s (lvle_s (lvle_s (lvle_s lvle_0)))) ?_
            exact (T_X12_runs_b171 C hr115 ih) x1 x2 x3 h hyp
          · replace hyp := (if_neg q5).symm.trans hyp
            refine V_weak (lv' := [some (.ref 103), some (.int x1), some (.int x2), some (.int x3)]) (lvle_s (lvle_s (lvle_s (lvle_s lvle_0)))) ?_
            exact (T_X12_runs_b164 C hr115 ih) x1 x2 x3 h hyp
def F_X12_runs_b115 (N : Nat) : Nat → Int32 → Int32 → PH → Option PH
  | 0, _, _, _ => none
  | n + 1, x1, x2, h =>
    if (900 : Int32) ≤ x2 then
      some h
    else
      if 0 ≤ (h.1 103 74) then
        some h
      else
        F_X12_runs_b131 N (F_X12_runs_b115 N n) N x1 x2 (0 : Int32) h
set_option maxRecDepth 20000 in
set_option maxHeartbeats 4000000 in
theorem T_X12_runs_b115 {X : CT} (C : CX X 154 cX12_runs 4 RX12 none 5 118) {h0 : PH} {N : Nat} : ∀ (n : Nat) (x1 : Int32) (x2 : Int32) (h : PH), F_X12_runs_b115 N n x1 x2 h = some h0 → V X (QV X h0) h 115 [some (.ref 103), some (.int x1), some (.int x2), none] [] := by
  intro n
  induction n with
  | zero =>
    intro x1 x2 h hyp
    cases hyp
  | succ n ih =>
    intro x1 x2 h hyp
    unfold F_X12_runs_b115 at hyp
    refine V_iload_n (pc := 115) C dX12_runs_115 rfl ?_
    refine V_sipush (pc := 116) C dX12_runs_116 (v := 900) (by decide) ?_
    refine V_icmp_ge (pc := 119) C dX12_runs_119 (tgt := 291) (by decide) (fun q1 => ?_) (fun q1 => ?_)
    · replace hyp := (if_pos q1).symm.trans hyp
      cases hyp
      exact V_vret C dX12_runs_291
    · replace hyp := (if_neg q1).symm.trans hyp
      refine V_aload_n (pc := 122) C dX12_runs_122 rfl ?_
      refine V_getI (pc := 123) C dX12_runs_123 lf_X12_467 fk_103_74 ?_
      refine V_if_ge (pc := 126) C dX12_runs_126 (tgt := 291) (by decide) (fun q2 => ?_) (fun q2 => ?_)
      · replace hyp := (if_pos q2).symm.trans hyp
        cases hyp
        exact V_vret C dX12_runs_291
      · replace hyp := (if_neg q2).symm.trans hyp
        refine V_iconst (pc := 129) C dX12_runs_129 (v := 0) (by decide) ?_
        refine V_istore_n (pc := 130) C dX12_runs_130 (by decide) rfl ?_
        refine V_weak (lv' := [some (.ref 103), some (.int x1), some (.int x2), some (.int (0 : Int32))]) (lvle_s (lvle_s (lvle_s (lvle_s lvle_0)))) ?_
        exact (T_X12_runs_b131 C ih) N x1 x2 (0 : Int32) h hyp
def F_X12_runs_b110 (N : Nat) (x1 : Int32) (s0 : Int32) (h : PH) : Option PH :=
  hb (hs h 103 74 s0) fun h1 =>
  F_X12_runs_b115 N N x1 (0 : Int32) h1
set_option maxRecDepth 20000 in
set_option maxHeartbeats 4000000 in
theorem T_X12_runs_b110 {X : CT} (C : CX X 154 cX12_runs 4 RX12 none 5 118) {h0 : PH} {N : Nat} : ∀ (x1 : Int32) (s0 : Int32) (h : PH), F_X12_runs_b110 N x1 s0 h = some h0 → V X (QV X h0) h 110 [some (.ref 103), some (.int x1), none, none] [.int s0, .ref 103] := by
  intro x1 s0 h hyp
  unfold F_X12_runs_b110 at hyp
  obtain ⟨h1, eh1, hyp⟩ := hb_n hyp
  refine V_putI (pc := 110) C dX12_runs_110 lf_X12_467 fk_103_74 rfl rfl eh1 ?_
  refine V_iconst (pc := 113) C dX12_runs_113 (v := 0) (by decide) ?_
  refine V_istore_n (pc := 114) C dX12_runs_114 (by decide) rfl ?_
  refine V_weak (lv' := [some (.ref 103), some (.int x1), some (.int (0 : Int32)), none]) (lvle_s (lvle_s (lvle_s (lvle_n lvle_0)))) ?_
  exact (T_X12_runs_b115 C) N x1 (0 : Int32) h1 hyp
def F_X12_runs_b97 (N : Nat) (x1 : Int32) (h : PH) : Option PH :=
  if (h.1 103 57) = 0 then
    F_X12_runs_b110 N x1 (0 : Int32) h
  else
    F_X12_runs_b110 N x1 (-1 : Int32) h
set_option maxRecDepth 20000 in
set_option maxHeartbeats 4000000 in
theorem T_X12_runs_b97 {X : CT} (C : CX X 154 cX12_runs 4 RX12 none 5 118) {h0 : PH} {N : Nat} : ∀ (x1 : Int32) (h : PH), F_X12_runs_b97 N x1 h = some h0 → V X (QV X h0) h 97 [some (.ref 103), some (.int x1), none, none] [] := by
  intro x1 h hyp
  unfold F_X12_runs_b97 at hyp
  refine V_aload_n (pc := 97) C dX12_runs_97 rfl ?_
  refine V_aload_n (pc := 98) C dX12_runs_98 rfl ?_
  refine V_getI (pc := 99) C dX12_runs_99 lf_X12_424 fk_103_57 ?_
  refine V_if_ne (pc := 102) C dX12_runs_102 (tgt := 109) (by decide) (fun q1 => ?_) (fun q1 => ?_)
  · replace hyp := (if_neg q1).symm.trans hyp
    refine V_iconst (pc := 109) C dX12_runs_109 (v := -1) (by decide) ?_
    refine V_weak (lv' := [some (.ref 103), some (.int x1), none, none]) (lvle_s (lvle_s (lvle_n (lvle_n lvle_0)))) ?_
    exact (T_X12_runs_b110 C) x1 (-1 : Int32) h hyp
  · replace hyp := (if_pos q1).symm.trans hyp
    refine V_iconst (pc := 105) C dX12_runs_105 (v := 0) (by decide) ?_
    refine V_goto (pc := 106) C dX12_runs_106 (tgt := 110) (by decide) ?_
    refine V_weak (lv' := [some (.ref 103), some (.int x1), none, none]) (lvle_s (lvle_s (lvle_n (lvle_n lvle_0)))) ?_
    exact (T_X12_runs_b110 C) x1 (0 : Int32) h hyp
def F_X12_runs_b78 (N : Nat) : Nat → Int32 → Int32 → PH → Option PH
  | 0, _, _, _ => none
  | n + 1, x1, x2, h =>
    if (10 : Int32) ≤ x2 then
      F_X12_runs_b97 N x1 h
    else
      if inb x2 10 = true then
      hb (hs h 148 x2.toNatClampNeg (0 : Int32)) fun h3 =>
      ib (x2 + (1 : Int32)) fun v4 =>
      F_X12_runs_b78 N n x1 v4 h3
      else none
set_option maxRecDepth 20000 in
set_option maxHeartbeats 4000000 in
theorem T_X12_runs_b78 {X : CT} (C : CX X 154 cX12_runs 4 RX12 none 5 118) {h0 : PH} {N : Nat} : ∀ (n : Nat) (x1 : Int32) (x2 : Int32) (h : PH), F_X12_runs_b78 N n x1 x2 h = some h0 → V X (QV X h0) h 78 [some (.ref 103), some (.int x1), some (.int x2), none] [] := by
  intro n
  induction n with
  | zero =>
    intro x1 x2 h hyp
    cases hyp
  | succ n ih =>
    intro x1 x2 h hyp
    unfold F_X12_runs_b78 at hyp
    refine V_iload_n (pc := 78) C dX12_runs_78 rfl ?_
    refine V_bipush (pc := 79) C dX12_runs_79 (v := 10) (by decide) ?_
    refine V_icmp_ge (pc := 81) C dX12_runs_81 (tgt := 97) (by decide) (fun q1 => ?_) (fun q1 => ?_)
    · replace hyp := (if_pos q1).symm.trans hyp
      refine V_weak (lv' := [some (.ref 103), some (.int x1), none, none]) (lvle_s (lvle_s (lvle_n (lvle_n lvle_0)))) ?_
      exact (T_X12_runs_b97 C) x1 h hyp
    · replace hyp := (if_neg q1).symm.trans hyp
      refine V_aload_n (pc := 84) C dX12_runs_84 rfl ?_
      refine V_getR (pc := 85) C dX12_runs_85 lf_X12_159 fk_103_72 ?_
      refine V_iload_n (pc := 88) C dX12_runs_88 rfl ?_
      refine V_iconst (pc := 89) C dX12_runs_89 (v := 0) (by decide) ?_
      obtain ⟨g2, hyp⟩ := gd_n hyp
      obtain ⟨h3, eh3, hyp⟩ := hb_n hyp
      refine V_iast (pc := 90) C dX12_runs_90 ak_148 g2 eh3 ?_
      obtain ⟨v4, ev4, hyp⟩ := ib_n hyp
      refine V_iinc (pc := 91) C dX12_runs_91 (v := v4) rfl (by rw [ev4]; rfl) (by decide) rfl ?_
      refine V_goto (pc := 94) C dX12_runs_94 (tgt := 78) (by decide) ?_
      refine V_weak (lv' := [some (.ref 103), some (.int x1), some (.int v4), none]) (lvle_s (lvle_s (lvle_s (lvle_n lvle_0)))) ?_
      exact ih x1 v4 h3 hyp
def F_X12_runs_b76 (N : Nat) (x1 : Int32) (h : PH) : Option PH :=
  F_X12_runs_b78 N N x1 (0 : Int32) h
set_option maxRecDepth 20000 in
set_option maxHeartbeats 4000000 in
theorem T_X12_runs_b76 {X : CT} (C : CX X 154 cX12_runs 4 RX12 none 5 118) {h0 : PH} {N : Nat} : ∀ (x1 : Int32) (h : PH), F_X12_runs_b76 N x1 h = some h0 → V X (QV X h0) h 76 [some (.ref 103), some (.int x1), none, none] [] := by
  intro x1 h hyp
  unfold F_X12_runs_b76 at hyp
  refine V_iconst (pc := 76) C dX12_runs_76 (v := 0) (by decide) ?_
  refine V_istore_n (pc := 77) C dX12_runs_77 (by decide) rfl ?_
  refine V_weak (lv' := [some (.ref 103), some (.int x1), some (.int (0 : Int32)), none]) (lvle_s (lvle_s (lvle_s (lvle_n lvle_0)))) ?_
  exact (T_X12_runs_b78 C) N x1 (0 : Int32) h hyp
def F_X12_runs_b37 (N : Nat) : Nat → Int32 → Int32 → PH → Option PH
  | 0, _, _, _ => none
  | n + 1, x1, x2, h =>
    if (2 : Int32) ≤ x2 then
      F_X12_runs_b76 N x1 h
    else
      if inb x2 2 = true then
      hb (hs h 145 x2.toNatClampNeg (0 : Int32)) fun h3 =>
      hb (hs h3 146 x2.toNatClampNeg (0 : Int32)) fun h4 =>
      hb (hs h4 147 x2.toNatClampNeg (0 : Int32)) fun h5 =>
      hb (hs h5 149 x2.toNatClampNeg (0 : Int32)) fun h6 =>
      ib (x2 + (1 : Int32)) fun v7 =>
      F_X12_runs_b37 N n x1 v7 h6
      else none
set_option maxRecDepth 20000 in
set_option maxHeartbeats 4000000 in
theorem T_X12_runs_b37 {X : CT} (C : CX X 154 cX12_runs 4 RX12 none 5 118) {h0 : PH} {N : Nat} : ∀ (n : Nat) (x1 : Int32) (x2 : Int32) (h : PH), F_X12_runs_b37 N n x1 x2 h = some h0 → V X (QV X h0) h 37 [some (.ref 103), some (.int x1), some (.int x2), none] [] := by
  intro n
  induction n with
  | zero =>
    intro x1 x2 h hyp
    cases hyp
  | succ n ih =>
    intro x1 x2 h hyp
    unfold F_X12_runs_b37 at hyp
    refine V_iload_n (pc := 37) C dX12_runs_37 rfl ?_
    refine V_iconst (pc := 38) C dX12_runs_38 (v := 2) (by decide) ?_
    refine V_icmp_ge (pc := 39) C dX12_runs_39 (tgt := 76) (by decide) (fun q1 => ?_) (fun q1 => ?_)
    · replace hyp := (if_pos q1).symm.trans hyp
      refine V_weak (lv' := [some (.ref 103), some (.int x1), none, none]) (lvle_s (lvle_s (lvle_n (lvle_n lvle_0)))) ?_
      exact (T_X12_runs_b76 C) x1 h hyp
    · replace hyp := (if_neg q1).symm.trans hyp
      refine V_aload_n (pc := 42) C dX12_runs_42 rfl ?_
      refine V_getR (pc := 43) C dX12_runs_43 lf_X12_150 fk_103_69 ?_
      refine V_iload_n (pc := 46) C dX12_runs_46 rfl ?_
      refine V_iconst (pc := 47) C dX12_runs_47 (v := 0) (by decide) ?_
      obtain ⟨g2, hyp⟩ := gd_n hyp
      obtain ⟨h3, eh3, hyp⟩ := hb_n hyp
      refine V_iast (pc := 48) C dX12_runs_48 ak_145 g2 eh3 ?_
      refine V_aload_n (pc := 49) C dX12_runs_49 rfl ?_
      refine V_getR (pc := 50) C dX12_runs_50 lf_X12_153 fk_103_70 ?_
      refine V_iload_n (pc := 53) C dX12_runs_53 rfl ?_
      refine V_iconst (pc := 54) C dX12_runs_54 (v := 0) (by decide) ?_
      obtain ⟨h4, eh4, hyp⟩ := hb_n hyp
      refine V_iast (pc := 55) C dX12_runs_55 ak_146 g2 eh4 ?_
      refine V_aload_n (pc := 56) C dX12_runs_56 rfl ?_
      refine V_getR (pc := 57) C dX12_runs_57 lf_X12_156 fk_103_71 ?_
      refine V_iload_n (pc := 60) C dX12_runs_60 rfl ?_
      refine V_iconst (pc := 61) C dX12_runs_61 (v := 0) (by decide) ?_
      obtain ⟨h5, eh5, hyp⟩ := hb_n hyp
      refine V_iast (pc := 62) C dX12_runs_62 ak_147 g2 eh5 ?_
      refine V_aload_n (pc := 63) C dX12_runs_63 rfl ?_
      refine V_getR (pc := 64) C dX12_runs_64 lf_X12_162 fk_103_73 ?_
      refine V_iload_n (pc := 67) C dX12_runs_67 rfl ?_
      refine V_iconst (pc := 68) C dX12_runs_68 (v := 0) (by decide) ?_
      obtain ⟨h6, eh6, hyp⟩ := hb_n hyp
      refine V_iast (pc := 69) C dX12_runs_69 ak_149 g2 eh6 ?_
      obtain ⟨v7, ev7, hyp⟩ := ib_n hyp
      refine V_iinc (pc := 70) C dX12_runs_70 (v := v7) rfl (by rw [ev7]; rfl) (by decide) rfl ?_
      refine V_goto (pc := 73) C dX12_runs_73 (tgt := 37) (by decide) ?_
      refine V_weak (lv' := [some (.ref 103), some (.int x1), some (.int v7), none]) (lvle_s (lvle_s (lvle_s (lvle_n lvle_0)))) ?_
      exact ih x1 v7 h6 hyp
def F_X12_runs_b35 (N : Nat) (x1 : Int32) (h : PH) : Option PH :=
  F_X12_runs_b37 N N x1 (0 : Int32) h
set_option maxRecDepth 20000 in
set_option maxHeartbeats 4000000 in
theorem T_X12_runs_b35 {X : CT} (C : CX X 154 cX12_runs 4 RX12 none 5 118) {h0 : PH} {N : Nat} : ∀ (x1 : Int32) (h : PH), F_X12_runs_b35 N x1 h = some h0 → V X (QV X h0) h 35 [some (.ref 103), some (.int x1), none, none] [] := by
  intro x1 h hyp
  unfold F_X12_runs_b35 at hyp
  refine V_iconst (pc := 35) C dX12_runs_35 (v := 0) (by decide) ?_
  refine V_istore_n (pc := 36) C dX12_runs_36 (by decide) rfl ?_
  refine V_weak (lv' := [some (.ref 103), some (.int x1), some (.int (0 : Int32)), none]) (lvle_s (lvle_s (lvle_s (lvle_n lvle_0)))) ?_
  exact (T_X12_runs_b37 C) N x1 (0 : Int32) h hyp
def F_X12_runs_b2 (N : Nat) : Nat → Int32 → Int32 → PH → Option PH
  | 0, _, _, _ => none
  | n + 1, x1, x2, h =>
    if (24 : Int32) ≤ x2 then
      F_X12_runs_b35 N x1 h
    else
      if inb x2 24 = true then
      hb (hs h 142 x2.toNatClampNeg (-1 : Int32)) fun h3 =>
      hb (hs h3 143 x2.toNatClampNeg (-1 : Int32)) fun h4 =>
      hb (hs h4 144 x2.toNatClampNeg (-1 : Int32)) fun h5 =>
      ib (x2 + (1 : Int32)) fun v6 =>
      F_X12_runs_b2 N n x1 v6 h5
      else none
set_option maxRecDepth 20000 in
set_option maxHeartbeats 4000000 in
theorem T_X12_runs_b2 {X : CT} (C : CX X 154 cX12_runs 4 RX12 none 5 118) {h0 : PH} {N : Nat} : ∀ (n : Nat) (x1 : Int32) (x2 : Int32) (h : PH), F_X12_runs_b2 N n x1 x2 h = some h0 → V X (QV X h0) h 2 [some (.ref 103), some (.int x1), some (.int x2), none] [] := by
  intro n
  induction n with
  | zero =>
    intro x1 x2 h hyp
    cases hyp
  | succ n ih =>
    intro x1 x2 h hyp
    unfold F_X12_runs_b2 at hyp
    refine V_iload_n (pc := 2) C dX12_runs_2 rfl ?_
    refine V_bipush (pc := 3) C dX12_runs_3 (v := 24) (by decide) ?_
    refine V_icmp_ge (pc := 5) C dX12_runs_5 (tgt := 35) (by decide) (fun q1 => ?_) (fun q1 => ?_)
    · replace hyp := (if_pos q1).symm.trans hyp
      refine V_weak (lv' := [some (.ref 103), some (.int x1), none, none]) (lvle_s (lvle_s (lvle_n (lvle_n lvle_0)))) ?_
      exact (T_X12_runs_b35 C) x1 h hyp
    · replace hyp := (if_neg q1).symm.trans hyp
      refine V_aload_n (pc := 8) C dX12_runs_8 rfl ?_
      refine V_getR (pc := 9) C dX12_runs_9 lf_X12_141 fk_103_66 ?_
      refine V_iload_n (pc := 12) C dX12_runs_12 rfl ?_
      refine V_iconst (pc := 13) C dX12_runs_13 (v := -1) (by decide) ?_
      obtain ⟨g2, hyp⟩ := gd_n hyp
      obtain ⟨h3, eh3, hyp⟩ := hb_n hyp
      refine V_iast (pc := 14) C dX12_runs_14 ak_142 g2 eh3 ?_
      refine V_aload_n (pc := 15) C dX12_runs_15 rfl ?_
      refine V_getR (pc := 16) C dX12_runs_16 lf_X12_144 fk_103_67 ?_
      refine V_iload_n (pc := 19) C dX12_runs_19 rfl ?_
      refine V_iconst (pc := 20) C dX12_runs_20 (v := -1) (by decide) ?_
      obtain ⟨h4, eh4, hyp⟩ := hb_n hyp
      refine V_iast (pc := 21) C dX12_runs_21 ak_143 g2 eh4 ?_
      refine V_aload_n (pc := 22) C dX12_runs_22 rfl ?_
      refine V_getR (pc := 23) C dX12_runs_23 lf_X12_147 fk_103_68 ?_
      refine V_iload_n (pc := 26) C dX12_runs_26 rfl ?_
      refine V_iconst (pc := 27) C dX12_runs_27 (v := -1) (by decide) ?_
      obtain ⟨h5, eh5, hyp⟩ := hb_n hyp
      refine V_iast (pc := 28) C dX12_runs_28 ak_144 g2 eh5 ?_
      obtain ⟨v6, ev6, hyp⟩ := ib_n hyp
      refine V_iinc (pc := 29) C dX12_runs_29 (v := v6) rfl (by rw [ev6]; rfl) (by decide) rfl ?_
      refine V_goto (pc := 32) C dX12_runs_32 (tgt := 2) (by decide) ?_
      refine V_weak (lv' := [some (.ref 103), some (.int x1), some (.int v6), none]) (lvle_s (lvle_s (lvle_s (lvle_n lvle_0)))) ?_
      exact ih x1 v6 h5 hyp
def F_X12_runs (N : Nat) (a1 : Int32) (h : PH) : Option PH :=
  F_X12_runs_b2 N N a1 (0 : Int32) h
set_option maxRecDepth 20000 in
set_option maxHeartbeats 4000000 in
theorem M_X12_runs (E : EV) {N : Nat} {a1 : Int32} {h h2 : PH} (hyp : F_X12_runs N a1 h = some h2) : MV E 154 yX12_runs cX12_runs 4 none 5 118 [.ref 103, .int a1] h h2 := by
  refine MV.of 2 (by decide) rfl (fun X e1 C => ?_)
  subst e1
  replace C : CX X 154 cX12_runs 4 RX12 none 5 118 := C
  show V X _ h 0 [some (.ref 103), some (.int a1), none, none] []
  unfold F_X12_runs at hyp
  refine V_iconst (pc := 0) C dX12_runs_0 (v := 0) (by decide) ?_
  refine V_istore_n (pc := 1) C dX12_runs_1 (by decide) rfl ?_
  refine V_weak (lv' := [some (.ref 103), some (.int a1), some (.int (0 : Int32)), none]) (lvle_s (lvle_s (lvle_s (lvle_n lvle_0)))) ?_
  exact (T_X12_runs_b2 C) N a1 (0 : Int32) h hyp
theorem dX12_waitOf_0 : decode cX12_waitOf 0 = .ok (.aload_n 0, 1) := by decide +kernel
theorem dX12_waitOf_1 : decode cX12_waitOf 1 = .ok (.getfield 144, 3) := by decide +kernel
theorem dX12_waitOf_4 : decode cX12_waitOf 4 = .ok (.iload_n 1, 1) := by decide +kernel
theorem dX12_waitOf_5 : decode cX12_waitOf 5 = .ok (.iaload, 1) := by decide +kernel
theorem dX12_waitOf_6 : decode cX12_waitOf 6 = .ok (.ifCond .ge 9, 3) := by decide +kernel
theorem dX12_waitOf_9 : decode cX12_waitOf 9 = .ok (.sipush 900, 3) := by decide +kernel
theorem dX12_waitOf_12 : decode cX12_waitOf 12 = .ok (.goto 16, 3) := by decide +kernel
theorem dX12_waitOf_15 : decode cX12_waitOf 15 = .ok (.aload_n 0, 1) := by decide +kernel
theorem dX12_waitOf_16 : decode cX12_waitOf 16 = .ok (.getfield 144, 3) := by decide +kernel
theorem dX12_waitOf_19 : decode cX12_waitOf 19 = .ok (.iload_n 1, 1) := by decide +kernel
theorem dX12_waitOf_20 : decode cX12_waitOf 20 = .ok (.iaload, 1) := by decide +kernel
theorem dX12_waitOf_21 : decode cX12_waitOf 21 = .ok (.aload_n 0, 1) := by decide +kernel
theorem dX12_waitOf_22 : decode cX12_waitOf 22 = .ok (.getfield 120, 3) := by decide +kernel
theorem dX12_waitOf_25 : decode cX12_waitOf 25 = .ok (.iload_n 1, 1) := by decide +kernel
theorem dX12_waitOf_26 : decode cX12_waitOf 26 = .ok (.iaload, 1) := by decide +kernel
theorem dX12_waitOf_27 : decode cX12_waitOf 27 = .ok (.isub, 1) := by decide +kernel
theorem dX12_waitOf_28 : decode cX12_waitOf 28 = .ok (.ireturn, 1) := by decide +kernel
def F_X12_waitOf (a1 : Int32) (h : PH) : Option (Int32 × PH) :=
  if inb a1 24 = true then
  if 0 ≤ (h.1 143 a1.toNatClampNeg) then
    if inb a1 24 = true then
    some ((h.1 143 a1.toNatClampNeg) - (h.1 136 a1.toNatClampNeg), h)
    else none
  else
    some ((900 : Int32), h)
  else none
set_option maxRecDepth 20000 in
set_option maxHeartbeats 4000000 in
theorem M_X12_waitOf (E : EV) {a1 : Int32} {r : Int32} {h h2 : PH} (hyp : F_X12_waitOf a1 h = some (r, h2)) : MI E 154 yX12_waitOf cX12_waitOf 2 (some .int) 0 0 [.ref 103, .int a1] h r h2 := by
  refine MI.of 0 (by decide) rfl (fun X e1 C => ?_)
  subst e1
  replace C : CX X 154 cX12_waitOf 2 RX12 (some .int) 0 0 := C
  show V X _ h 0 [some (.ref 103), some (.int a1)] []
  unfold F_X12_waitOf at hyp
  refine V_aload_n (pc := 0) C dX12_waitOf_0 rfl ?_
  refine V_getR (pc := 1) C dX12_waitOf_1 lf_X12_144 fk_103_67 ?_
  refine V_iload_n (pc := 4) C dX12_waitOf_4 rfl ?_
  obtain ⟨g1, hyp⟩ := gd_n hyp
  refine V_iald (pc := 5) C dX12_waitOf_5 ak_143 g1 ?_
  refine V_if_ge (pc := 6) C dX12_waitOf_6 (tgt := 15) (by decide) (fun q2 => ?_) (fun q2 => ?_)
  · replace hyp := (if_pos q2).symm.trans hyp
    refine V_aload_n (pc := 15) C dX12_waitOf_15 rfl ?_
    refine V_getR (pc := 16) C dX12_waitOf_16 lf_X12_144 fk_103_67 ?_
    refine V_iload_n (pc := 19) C dX12_waitOf_19 rfl ?_
    obtain ⟨g3, hyp⟩ := gd_n hyp
    refine V_iald (pc := 20) C dX12_waitOf_20 ak_143 g3 ?_
    refine V_aload_n (pc := 21) C dX12_waitOf_21 rfl ?_
    refine V_getR (pc := 22) C dX12_waitOf_22 lf_X12_120 fk_103_58 ?_
    refine V_iload_n (pc := 25) C dX12_waitOf_25 rfl ?_
    refine V_iald (pc := 26) C dX12_waitOf_26 ak_136 g3 ?_
    refine V_isub (pc := 27) C dX12_waitOf_27 ?_
    cases hyp
    exact V_iret C dX12_waitOf_28
  · replace hyp := (if_neg q2).symm.trans hyp
    refine V_sipush (pc := 9) C dX12_waitOf_9 (v := 900) (by decide) ?_
    refine V_goto (pc := 12) C dX12_waitOf_12 (tgt := 28) (by decide) ?_
    cases hyp
    exact V_iret C dX12_waitOf_28
theorem dX12_run_0 : decode cX12_run 0 = .ok (.aload_n 0, 1) := by decide +kernel
theorem dX12_run_1 : decode cX12_run 1 = .ok (.iconst 0, 1) := by decide +kernel
theorem dX12_run_2 : decode cX12_run 2 = .ok (.putfield 180, 3) := by decide +kernel
theorem dX12_run_5 : decode cX12_run 5 = .ok (.aload_n 0, 1) := by decide +kernel
theorem dX12_run_6 : decode cX12_run 6 = .ok (.iconst (-1), 1) := by decide +kernel
theorem dX12_run_7 : decode cX12_run 7 = .ok (.invokevirtual 479, 3) := by decide +kernel
theorem dX12_run_10 : decode cX12_run 10 = .ok (.aload_n 0, 1) := by decide +kernel
theorem dX12_run_11 : decode cX12_run 11 = .ok (.getfield 467, 3) := by decide +kernel
theorem dX12_run_14 : decode cX12_run 14 = .ok (.ireturn, 1) := by decide +kernel
def F_X12_run (N : Nat) (h : PH) : Option (Int32 × PH) :=
  hb (hs h 103 0 (0 : Int32)) fun h1 =>
  bV (F_X12_runs N (-1 : Int32) h1) fun h3 =>
  some (h3.1 103 74, h3)
set_option maxRecDepth 20000 in
set_option maxHeartbeats 4000000 in
theorem M_X12_run (E : EV) {N : Nat} {r : Int32} {h h2 : PH} (hyp : F_X12_run N  h = some (r, h2)) : MI E 154 yX12_run cX12_run 1 (some .int) 6 141 [.ref 103] h r h2 := by
  refine MI.of 0 (by decide) rfl (fun X e1 C => ?_)
  subst e1
  replace C : CX X 154 cX12_run 1 RX12 (some .int) 6 141 := C
  show V X _ h 0 [some (.ref 103)] []
  unfold F_X12_run at hyp
  refine V_aload_n (pc := 0) C dX12_run_0 rfl ?_
  refine V_iconst (pc := 1) C dX12_run_1 (v := 0) (by decide) ?_
  obtain ⟨h1, eh1, hyp⟩ := hb_n hyp
  refine V_putI (pc := 2) C dX12_run_2 lf_X12_180 fk_103_0 rfl rfl eh1 ?_
  refine V_aload_n (pc := 5) C dX12_run_5 rfl ?_
  refine V_iconst (pc := 6) C dX12_run_6 (v := -1) (by decide) ?_
  obtain ⟨h3, eh3, hyp⟩ := bV_n hyp
  refine V_callV (pc := 7) C dX12_run_7 lm_X12_479 mk_X12_runs ok_103 rfl (M_X12_runs _ eh3) rfl pd_X12_runs (by decide) (by decide) (by decide) (As := [.int (-1 : Int32)]) (rest := []) rfl (Nat.le_of_ble_eq_true rfl) ?_
  refine V_aload_n (pc := 10) C dX12_run_10 rfl ?_
  refine V_getI (pc := 11) C dX12_run_11 lf_X12_467 fk_103_74 ?_
  cases hyp
  exact V_iret C dX12_run_14
theorem dX12_rode_0 : decode cX12_rode 0 = .ok (.aload_n 0, 1) := by decide +kernel
theorem dX12_rode_1 : decode cX12_rode 1 = .ok (.iconst 0, 1) := by decide +kernel
theorem dX12_rode_2 : decode cX12_rode 2 = .ok (.putfield 180, 3) := by decide +kernel
theorem dX12_rode_5 : decode cX12_rode 5 = .ok (.iload_n 1, 1) := by decide +kernel
theorem dX12_rode_6 : decode cX12_rode 6 = .ok (.iconst 0, 1) := by decide +kernel
theorem dX12_rode_7 : decode cX12_rode 7 = .ok (.aload_n 0, 1) := by decide +kernel
theorem dX12_rode_8 : decode cX12_rode 8 = .ok (.getfield 424, 3) := by decide +kernel
theorem dX12_rode_11 : decode cX12_rode 11 = .ok (.iconst 1, 1) := by decide +kernel
theorem dX12_rode_12 : decode cX12_rode 12 = .ok (.isub, 1) := by decide +kernel
theorem dX12_rode_13 : decode cX12_rode 13 = .ok (.invokestatic 183, 3) := by decide +kernel
theorem dX12_rode_16 : decode cX12_rode 16 = .ok (.ifCond .eq 12, 3) := by decide +kernel
theorem dX12_rode_19 : decode cX12_rode 19 = .ok (.iload_n 2, 1) := by decide +kernel
theorem dX12_rode_20 : decode cX12_rode 20 = .ok (.iconst 0, 1) := by decide +kernel
theorem dX12_rode_21 : decode cX12_rode 21 = .ok (.iconst 3, 1) := by decide +kernel
theorem dX12_rode_22 : decode cX12_rode 22 = .ok (.invokestatic 183, 3) := by decide +kernel
theorem dX12_rode_25 : decode cX12_rode 25 = .ok (.ifCond .ne 5, 3) := by decide +kernel
theorem dX12_rode_28 : decode cX12_rode 28 = .ok (.iconst (-1), 1) := by decide +kernel
theorem dX12_rode_29 : decode cX12_rode 29 = .ok (.ireturn, 1) := by decide +kernel
theorem dX12_rode_30 : decode cX12_rode 30 = .ok (.aload_n 0, 1) := by decide +kernel
theorem dX12_rode_31 : decode cX12_rode 31 = .ok (.iconst (-1), 1) := by decide +kernel
theorem dX12_rode_32 : decode cX12_rode 32 = .ok (.invokevirtual 479, 3) := by decide +kernel
theorem dX12_rode_35 : decode cX12_rode 35 = .ok (.iload_n 2, 1) := by decide +kernel
theorem dX12_rode_36 : decode cX12_rode 36 = .ok (.ifCond .ne 12, 3) := by decide +kernel
theorem dX12_rode_39 : decode cX12_rode 39 = .ok (.aload_n 0, 1) := by decide +kernel
theorem dX12_rode_40 : decode cX12_rode 40 = .ok (.getfield 141, 3) := by decide +kernel
theorem dX12_rode_43 : decode cX12_rode 43 = .ok (.iload_n 1, 1) := by decide +kernel
theorem dX12_rode_44 : decode cX12_rode 44 = .ok (.iaload, 1) := by decide +kernel
theorem dX12_rode_45 : decode cX12_rode 45 = .ok (.goto 36, 3) := by decide +kernel
theorem dX12_rode_48 : decode cX12_rode 48 = .ok (.iload_n 2, 1) := by decide +kernel
theorem dX12_rode_49 : decode cX12_rode 49 = .ok (.iconst 1, 1) := by decide +kernel
theorem dX12_rode_50 : decode cX12_rode 50 = .ok (.if_icmp .ne 12, 3) := by decide +kernel
theorem dX12_rode_53 : decode cX12_rode 53 = .ok (.aload_n 0, 1) := by decide +kernel
theorem dX12_rode_54 : decode cX12_rode 54 = .ok (.getfield 144, 3) := by decide +kernel
theorem dX12_rode_57 : decode cX12_rode 57 = .ok (.iload_n 1, 1) := by decide +kernel
theorem dX12_rode_58 : decode cX12_rode 58 = .ok (.iaload, 1) := by decide +kernel
theorem dX12_rode_59 : decode cX12_rode 59 = .ok (.goto 22, 3) := by decide +kernel
theorem dX12_rode_62 : decode cX12_rode 62 = .ok (.iload_n 2, 1) := by decide +kernel
theorem dX12_rode_63 : decode cX12_rode 63 = .ok (.iconst 2, 1) := by decide +kernel
theorem dX12_rode_64 : decode cX12_rode 64 = .ok (.if_icmp .ne 12, 3) := by decide +kernel
theorem dX12_rode_67 : decode cX12_rode 67 = .ok (.aload_n 0, 1) := by decide +kernel
theorem dX12_rode_68 : decode cX12_rode 68 = .ok (.getfield 147, 3) := by decide +kernel
theorem dX12_rode_71 : decode cX12_rode 71 = .ok (.iload_n 1, 1) := by decide +kernel
theorem dX12_rode_72 : decode cX12_rode 72 = .ok (.iaload, 1) := by decide +kernel
theorem dX12_rode_73 : decode cX12_rode 73 = .ok (.goto 8, 3) := by decide +kernel
theorem dX12_rode_76 : decode cX12_rode 76 = .ok (.aload_n 0, 1) := by decide +kernel
theorem dX12_rode_77 : decode cX12_rode 77 = .ok (.iload_n 1, 1) := by decide +kernel
theorem dX12_rode_78 : decode cX12_rode 78 = .ok (.invokevirtual 482, 3) := by decide +kernel
theorem dX12_rode_81 : decode cX12_rode 81 = .ok (.ireturn, 1) := by decide +kernel
def F_X12_rode (N : Nat) (a1 : Int32) (a2 : Int32) (h : PH) : Option (Int32 × PH) :=
  hb (hs h 103 0 (0 : Int32)) fun h1 =>
  bI (F_X12_within a1 (0 : Int32) ((h1.1 103 57) - (1 : Int32)) h1) fun r2 h3 =>
  if r2 = 0 then
    some ((-1 : Int32), h3)
  else
    bI (F_X12_within a2 (0 : Int32) (3 : Int32) h3) fun r5 h6 =>
    if r5 = 0 then
      some ((-1 : Int32), h6)
    else
      bV (F_X12_runs N (-1 : Int32) h6) fun h9 =>
      if a2 = 0 then
        if inb a1 24 = true then
        some (h9.1 142 a1.toNatClampNeg, h9)
        else none
      else
        if a2 = (1 : Int32) then
          if inb a1 24 = true then
          some (h9.1 143 a1.toNatClampNeg, h9)
          else none
        else
          if a2 = (2 : Int32) then
            if inb a1 24 = true then
            some (h9.1 144 a1.toNatClampNeg, h9)
            else none
          else
            bI (F_X12_waitOf a1 h9) fun r13 h14 =>
            some (r13, h14)
set_option maxRecDepth 20000 in
set_option maxHeartbeats 4000000 in
theorem M_X12_rode (E : EV) {N : Nat} {a1 : Int32} {a2 : Int32} {r : Int32} {h h2 : PH} (hyp : F_X12_rode N a1 a2 h = some (r, h2)) : MI E 154 yX12_rode cX12_rode 3 (some .int) 6 141 [.ref 103, .int a1, .int a2] h r h2 := by
  refine MI.of 0 (by decide) rfl (fun X e1 C => ?_)
  subst e1
  replace C : CX X 154 cX12_rode 3 RX12 (some .int) 6 141 := C
  show V X _ h 0 [some (.ref 103), some (.int a1), some (.int a2)] []
  unfold F_X12_rode at hyp
  refine V_aload_n (pc := 0) C dX12_rode_0 rfl ?_
  refine V_iconst (pc := 1) C dX12_rode_1 (v := 0) (by decide) ?_
  obtain ⟨h1, eh1, hyp⟩ := hb_n hyp
  refine V_putI (pc := 2) C dX12_rode_2 lf_X12_180 fk_103_0 rfl rfl eh1 ?_
  refine V_iload_n (pc := 5) C dX12_rode_5 rfl ?_
  refine V_iconst (pc := 6) C dX12_rode_6 (v := 0) (by decide) ?_
  refine V_aload_n (pc := 7) C dX12_rode_7 rfl ?_
  refine V_getI (pc := 8) C dX12_rode_8 lf_X12_424 fk_103_57 ?_
  refine V_iconst (pc := 11) C dX12_rode_11 (v := 1) (by decide) ?_
  refine V_isub (pc := 12) C dX12_rode_12 ?_
  obtain ⟨r2, h3, eh3, hyp⟩ := bI_n hyp
  refine V_statI (pc := 13) C dX12_rode_13 lm_X12_183 ms_X12_within (M_X12_within _ eh3) rfl pd_X12_within (by decide) (by decide) (by decide) (As := [.int a1, .int (0 : Int32), .int ((h1.1 103 57) - (1 : Int32))]) (rest := []) rfl (Nat.le_of_ble_eq_true rfl) ?_
  refine V_if_eq (pc := 16) C dX12_rode_16 (tgt := 28) (by decide) (fun q4 => ?_) (fun q4 => ?_)
  · replace hyp := (if_pos q4).symm.trans hyp
    refine V_iconst (pc := 28) C dX12_rode_28 (v := -1) (by decide) ?_
    cases hyp
    exact V_iret C dX12_rode_29
  · replace hyp := (if_neg q4).symm.trans hyp
    refine V_iload_n (pc := 19) C dX12_rode_19 rfl ?_
    refine V_iconst (pc := 20) C dX12_rode_20 (v := 0) (by decide) ?_
    refine V_iconst (pc := 21) C dX12_rode_21 (v := 3) (by decide) ?_
    obtain ⟨r5, h6, eh6, hyp⟩ := bI_n hyp
    refine V_statI (pc := 22) C dX12_rode_22 lm_X12_183 ms_X12_within (M_X12_within _ eh6) rfl pd_X12_within (by decide) (by decide) (by decide) (As := [.int a2, .int (0 : Int32), .int (3 : Int32)]) (rest := []) rfl (Nat.le_of_ble_eq_true rfl) ?_
    refine V_if_ne (pc := 25) C dX12_rode_25 (tgt := 30) (by decide) (fun q7 => ?_) (fun q7 => ?_)
    · replace hyp := (if_neg q7).symm.trans hyp
      refine V_aload_n (pc := 30) C dX12_rode_30 rfl ?_
      refine V_iconst (pc := 31) C dX12_rode_31 (v := -1) (by decide) ?_
      obtain ⟨h9, eh9, hyp⟩ := bV_n hyp
      refine V_callV (pc := 32) C dX12_rode_32 lm_X12_479 mk_X12_runs ok_103 rfl (M_X12_runs _ eh9) rfl pd_X12_runs (by decide) (by decide) (by decide) (As := [.int (-1 : Int32)]) (rest := []) rfl (Nat.le_of_ble_eq_true rfl) ?_
      refine V_iload_n (pc := 35) C dX12_rode_35 rfl ?_
      refine V_if_ne (pc := 36) C dX12_rode_36 (tgt := 48) (by decide) (fun q10 => ?_) (fun q10 => ?_)
      · replace hyp := (if_neg q10).symm.trans hyp
        refine V_iload_n (pc := 48) C dX12_rode_48 rfl ?_
        refine V_iconst (pc := 49) C dX12_rode_49 (v := 1) (by decide) ?_
        refine V_icmp_ne (pc := 50) C dX12_rode_50 (tgt := 62) (by decide) (fun q11 => ?_) (fun q11 => ?_)
        · replace hyp := (if_neg q11).symm.trans hyp
          refine V_iload_n (pc := 62) C dX12_rode_62 rfl ?_
          refine V_iconst (pc := 63) C dX12_rode_63 (v := 2) (by decide) ?_
          refine V_icmp_ne (pc := 64) C dX12_rode_64 (tgt := 76) (by decide) (fun q12 => ?_) (fun q12 => ?_)
          · replace hyp := (if_neg q12).symm.trans hyp
            refine V_aload_n (pc := 76) C dX12_rode_76 rfl ?_
            refine V_iload_n (pc := 77) C dX12_rode_77 rfl ?_
            obtain ⟨r13, h14, eh14, hyp⟩ := bI_n hyp
            refine V_callI (pc := 78) C dX12_rode_78 lm_X12_482 mk_X12_waitOf ok_103 rfl (M_X12_waitOf _ eh14) rfl pd_X12_waitOf (by decide) (by decide) (by decide) (As := [.int a1]) (rest := []) rfl (Nat.le_of_ble_eq_true rfl) ?_
            cases hyp
            exact V_iret C dX12_rode_81
          · replace hyp := (if_pos q12).symm.trans hyp
            refine V_aload_n (pc := 67) C dX12_rode_67 rfl ?_
            refine V_getR (pc := 68) C dX12_rode_68 lf_X12_147 fk_103_68 ?_
            refine V_iload_n (pc := 71) C dX12_rode_71 rfl ?_
            obtain ⟨g15, hyp⟩ := gd_n hyp
            refine V_iald (pc := 72) C dX12_rode_72 ak_144 g15 ?_
            refine V_goto (pc := 73) C dX12_rode_73 (tgt := 81) (by decide) ?_
            cases hyp
            exact V_iret C dX12_rode_81
        · replace hyp := (if_pos q11).symm.trans hyp
          refine V_aload_n (pc := 53) C dX12_rode_53 rfl ?_
          refine V_getR (pc := 54) C dX12_rode_54 lf_X12_144 fk_103_67 ?_
          refine V_iload_n (pc := 57) C dX12_rode_57 rfl ?_
          obtain ⟨g16, hyp⟩ := gd_n hyp
          refine V_iald (pc := 58) C dX12_rode_58 ak_143 g16 ?_
          refine V_goto (pc := 59) C dX12_rode_59 (tgt := 81) (by decide) ?_
          cases hyp
          exact V_iret C dX12_rode_81
      · replace hyp := (if_pos q10).symm.trans hyp
        refine V_aload_n (pc := 39) C dX12_rode_39 rfl ?_
        refine V_getR (pc := 40) C dX12_rode_40 lf_X12_141 fk_103_66 ?_
        refine V_iload_n (pc := 43) C dX12_rode_43 rfl ?_
        obtain ⟨g17, hyp⟩ := gd_n hyp
        refine V_iald (pc := 44) C dX12_rode_44 ak_142 g17 ?_
        refine V_goto (pc := 45) C dX12_rode_45 (tgt := 81) (by decide) ?_
        cases hyp
        exact V_iret C dX12_rode_81
    · replace hyp := (if_pos q7).symm.trans hyp
      refine V_iconst (pc := 28) C dX12_rode_28 (v := -1) (by decide) ?_
      cases hyp
      exact V_iret C dX12_rode_29
theorem dX12_waitsBy_0 : decode cX12_waitsBy 0 = .ok (.iconst 0, 1) := by decide +kernel
theorem dX12_waitsBy_1 : decode cX12_waitsBy 1 = .ok (.istore_n 2, 1) := by decide +kernel
theorem dX12_waitsBy_2 : decode cX12_waitsBy 2 = .ok (.iconst (-1), 1) := by decide +kernel
theorem dX12_waitsBy_3 : decode cX12_waitsBy 3 = .ok (.istore_n 3, 1) := by decide +kernel
theorem dX12_waitsBy_4 : decode cX12_waitsBy 4 = .ok (.iconst (-1), 1) := by decide +kernel
theorem dX12_waitsBy_5 : decode cX12_waitsBy 5 = .ok (.istore 4, 2) := by decide +kernel
theorem dX12_waitsBy_7 : decode cX12_waitsBy 7 = .ok (.iconst 0, 1) := by decide +kernel
theorem dX12_waitsBy_8 : decode cX12_waitsBy 8 = .ok (.istore 5, 2) := by decide +kernel
theorem dX12_waitsBy_10 : decode cX12_waitsBy 10 = .ok (.iconst 0, 1) := by decide +kernel
theorem dX12_waitsBy_11 : decode cX12_waitsBy 11 = .ok (.istore 6, 2) := by decide +kernel
theorem dX12_waitsBy_13 : decode cX12_waitsBy 13 = .ok (.iload 6, 2) := by decide +kernel
theorem dX12_waitsBy_15 : decode cX12_waitsBy 15 = .ok (.aload_n 0, 1) := by decide +kernel
theorem dX12_waitsBy_16 : decode cX12_waitsBy 16 = .ok (.getfield 424, 3) := by decide +kernel
theorem dX12_waitsBy_19 : decode cX12_waitsBy 19 = .ok (.if_icmp .ge 70, 3) := by decide +kernel
theorem dX12_waitsBy_22 : decode cX12_waitsBy 22 = .ok (.aload_n 0, 1) := by decide +kernel
theorem dX12_waitsBy_23 : decode cX12_waitsBy 23 = .ok (.iload 6, 2) := by decide +kernel
theorem dX12_waitsBy_25 : decode cX12_waitsBy 25 = .ok (.invokevirtual 482, 3) := by decide +kernel
theorem dX12_waitsBy_28 : decode cX12_waitsBy 28 = .ok (.istore 7, 2) := by decide +kernel
theorem dX12_waitsBy_30 : decode cX12_waitsBy 30 = .ok (.iload_n 2, 1) := by decide +kernel
theorem dX12_waitsBy_31 : decode cX12_waitsBy 31 = .ok (.iload 7, 2) := by decide +kernel
theorem dX12_waitsBy_33 : decode cX12_waitsBy 33 = .ok (.iadd, 1) := by decide +kernel
theorem dX12_waitsBy_34 : decode cX12_waitsBy 34 = .ok (.istore_n 2, 1) := by decide +kernel
theorem dX12_waitsBy_35 : decode cX12_waitsBy 35 = .ok (.iload 7, 2) := by decide +kernel
theorem dX12_waitsBy_37 : decode cX12_waitsBy 37 = .ok (.iload_n 3, 1) := by decide +kernel
theorem dX12_waitsBy_38 : decode cX12_waitsBy 38 = .ok (.if_icmp .le 8, 3) := by decide +kernel
theorem dX12_waitsBy_41 : decode cX12_waitsBy 41 = .ok (.iload 6, 2) := by decide +kernel
theorem dX12_waitsBy_43 : decode cX12_waitsBy 43 = .ok (.goto 5, 3) := by decide +kernel
theorem dX12_waitsBy_46 : decode cX12_waitsBy 46 = .ok (.iload 4, 2) := by decide +kernel
theorem dX12_waitsBy_48 : decode cX12_waitsBy 48 = .ok (.istore 4, 2) := by decide +kernel
theorem dX12_waitsBy_50 : decode cX12_waitsBy 50 = .ok (.iload 7, 2) := by decide +kernel
theorem dX12_waitsBy_52 : decode cX12_waitsBy 52 = .ok (.iload_n 3, 1) := by decide +kernel
theorem dX12_waitsBy_53 : decode cX12_waitsBy 53 = .ok (.if_icmp .le 8, 3) := by decide +kernel
theorem dX12_waitsBy_56 : decode cX12_waitsBy 56 = .ok (.iload 7, 2) := by decide +kernel
theorem dX12_waitsBy_58 : decode cX12_waitsBy 58 = .ok (.goto 4, 3) := by decide +kernel
theorem dX12_waitsBy_61 : decode cX12_waitsBy 61 = .ok (.iload_n 3, 1) := by decide +kernel
theorem dX12_waitsBy_62 : decode cX12_waitsBy 62 = .ok (.istore_n 3, 1) := by decide +kernel
theorem dX12_waitsBy_63 : decode cX12_waitsBy 63 = .ok (.iload 5, 2) := by decide +kernel
theorem dX12_waitsBy_65 : decode cX12_waitsBy 65 = .ok (.aload_n 0, 1) := by decide +kernel
theorem dX12_waitsBy_66 : decode cX12_waitsBy 66 = .ok (.getfield 147, 3) := by decide +kernel
theorem dX12_waitsBy_69 : decode cX12_waitsBy 69 = .ok (.iload 6, 2) := by decide +kernel
theorem dX12_waitsBy_71 : decode cX12_waitsBy 71 = .ok (.iaload, 1) := by decide +kernel
theorem dX12_waitsBy_72 : decode cX12_waitsBy 72 = .ok (.ifCond .lt 7, 3) := by decide +kernel
theorem dX12_waitsBy_75 : decode cX12_waitsBy 75 = .ok (.iconst 1, 1) := by decide +kernel
theorem dX12_waitsBy_76 : decode cX12_waitsBy 76 = .ok (.goto 4, 3) := by decide +kernel
theorem dX12_waitsBy_79 : decode cX12_waitsBy 79 = .ok (.iconst 0, 1) := by decide +kernel
theorem dX12_waitsBy_80 : decode cX12_waitsBy 80 = .ok (.iadd, 1) := by decide +kernel
theorem dX12_waitsBy_81 : decode cX12_waitsBy 81 = .ok (.istore 5, 2) := by decide +kernel
theorem dX12_waitsBy_83 : decode cX12_waitsBy 83 = .ok (.iinc 6 1, 3) := by decide +kernel
theorem dX12_waitsBy_86 : decode cX12_waitsBy 86 = .ok (.goto (-73), 3) := by decide +kernel
theorem dX12_waitsBy_89 : decode cX12_waitsBy 89 = .ok (.iload_n 1, 1) := by decide +kernel
theorem dX12_waitsBy_90 : decode cX12_waitsBy 90 = .ok (.ifCond .ne 7, 3) := by decide +kernel
theorem dX12_waitsBy_93 : decode cX12_waitsBy 93 = .ok (.iload_n 2, 1) := by decide +kernel
theorem dX12_waitsBy_94 : decode cX12_waitsBy 94 = .ok (.goto 24, 3) := by decide +kernel
theorem dX12_waitsBy_97 : decode cX12_waitsBy 97 = .ok (.iload_n 1, 1) := by decide +kernel
theorem dX12_waitsBy_98 : decode cX12_waitsBy 98 = .ok (.iconst 1, 1) := by decide +kernel
theorem dX12_waitsBy_99 : decode cX12_waitsBy 99 = .ok (.if_icmp .ne 7, 3) := by decide +kernel
theorem dX12_waitsBy_102 : decode cX12_waitsBy 102 = .ok (.iload_n 3, 1) := by decide +kernel
theorem dX12_waitsBy_103 : decode cX12_waitsBy 103 = .ok (.goto 15, 3) := by decide +kernel
theorem dX12_waitsBy_106 : decode cX12_waitsBy 106 = .ok (.iload_n 1, 1) := by decide +kernel
theorem dX12_waitsBy_107 : decode cX12_waitsBy 107 = .ok (.iconst 2, 1) := by decide +kernel
theorem dX12_waitsBy_108 : decode cX12_waitsBy 108 = .ok (.if_icmp .ne 8, 3) := by decide +kernel
theorem dX12_waitsBy_111 : decode cX12_waitsBy 111 = .ok (.iload 4, 2) := by decide +kernel
theorem dX12_waitsBy_113 : decode cX12_waitsBy 113 = .ok (.goto 5, 3) := by decide +kernel
theorem dX12_waitsBy_116 : decode cX12_waitsBy 116 = .ok (.iload 5, 2) := by decide +kernel
theorem dX12_waitsBy_118 : decode cX12_waitsBy 118 = .ok (.ireturn, 1) := by decide +kernel
def F_X12_waitsBy_b80 (N : Nat) (rc13 : Int32 → Int32 → Int32 → Int32 → Int32 → Int32 → PH → Option (Int32 × PH)) (x1 : Int32) (x2 : Int32) (x3 : Int32) (x4 : Int32) (x6 : Int32) (s0 : Int32) (s1 : Int32) (h : PH) : Option (Int32 × PH) :=
  ib (s1 + s0) fun v1 =>
  ib (x6 + (1 : Int32)) fun v2 =>
  rc13 x1 x2 x3 x4 v1 v2 h
set_option maxRecDepth 20000 in
set_option maxHeartbeats 4000000 in
theorem T_X12_waitsBy_b80 {X : CT} (C : CX X 154 cX12_waitsBy 8 RX12 (some .int) 1 21) {r0 : Int32} {h0 : PH} {N : Nat} {rc13 : Int32 → Int32 → Int32 → Int32 → Int32 → Int32 → PH → Option (Int32 × PH)} (hr13 : ∀ (x1 : Int32) (x2 : Int32) (x3 : Int32) (x4 : Int32) (x5 : Int32) (x6 : Int32) (h : PH), rc13 x1 x2 x3 x4 x5 x6 h = some (r0, h0) → V X (QI X r0 h0) h 13 [some (.ref 103), some (.int x1), some (.int x2), some (.int x3), some (.int x4), some (.int x5), some (.int x6), none] []) : ∀ (x1 : Int32) (x2 : Int32) (x3 : Int32) (x4 : Int32) (x6 : Int32) (s0 : Int32) (s1 : Int32) (h : PH), F_X12_waitsBy_b80 N rc13 x1 x2 x3 x4 x6 s0 s1 h = some (r0, h0) → V X (QI X r0 h0) h 80 [some (.ref 103), some (.int x1), some (.int x2), some (.int x3), some (.int x4), none, some (.int x6), none] [.int s0, .int s1] := by
  intro x1 x2 x3 x4 x6 s0 s1 h hyp
  unfold F_X12_waitsBy_b80 at hyp
  refine V_iadd (pc := 80) C dX12_waitsBy_80 ?_
  obtain ⟨v1, ev1, hyp⟩ := ib_n hyp
  refine V_topI ev1 ?_
  refine V_istore (pc := 81) C dX12_waitsBy_81 (by decide) rfl ?_
  obtain ⟨v2, ev2, hyp⟩ := ib_n hyp
  refine V_iinc (pc := 83) C dX12_waitsBy_83 (v := v2) rfl (by rw [ev2]; rfl) (by decide) rfl ?_
  refine V_goto (pc := 86) C dX12_waitsBy_86 (tgt := 13) (by decide) ?_
  refine V_weak (lv' := [some (.ref 103), some (.int x1), some (.int x2), some (.int x3), some (.int x4), some (.int v1), some (.int v2), none]) (lvle_s (lvle_s (lvle_s (lvle_s (lvle_s (lvle_s (lvle_s (lvle_n lvle_0)))))))) ?_
  exact hr13 x1 x2 x3 x4 v1 v2 h hyp
def F_X12_waitsBy_b62 (N : Nat) (rc13 : Int32 → Int32 → Int32 → Int32 → Int32 → Int32 → PH → Option (Int32 × PH)) (x1 : Int32) (x2 : Int32) (x4 : Int32) (x5 : Int32) (x6 : Int32) (s0 : Int32) (h : PH) : Option (Int32 × PH) :=
  if inb x6 24 = true then
  if (h.1 144 x6.toNatClampNeg) < 0 then
    F_X12_waitsBy_b80 N rc13 x1 x2 s0 x4 x6 (0 : Int32) x5 h
  else
    F_X12_waitsBy_b80 N rc13 x1 x2 s0 x4 x6 (1 : Int32) x5 h
  else none
set_option maxRecDepth 20000 in
set_option maxHeartbeats 4000000 in
theorem T_X12_waitsBy_b62 {X : CT} (C : CX X 154 cX12_waitsBy 8 RX12 (some .int) 1 21) {r0 : Int32} {h0 : PH} {N : Nat} {rc13 : Int32 → Int32 → Int32 → Int32 → Int32 → Int32 → PH → Option (Int32 × PH)} (hr13 : ∀ (x1 : Int32) (x2 : Int32) (x3 : Int32) (x4 : Int32) (x5 : Int32) (x6 : Int32) (h : PH), rc13 x1 x2 x3 x4 x5 x6 h = some (r0, h0) → V X (QI X r0 h0) h 13 [some (.ref 103), some (.int x1), some (.int x2), some (.int x3), some (.int x4), some (.int x5), some (.int x6), none] []) : ∀ (x1 : Int32) (x2 : Int32) (x4 : Int32) (x5 : Int32) (x6 : Int32) (s0 : Int32) (h : PH), F_X12_waitsBy_b62 N rc13 x1 x2 x4 x5 x6 s0 h = some (r0, h0) → V X (QI X r0 h0) h 62 [some (.ref 103), some (.int x1), some (.int x2), none, some (.int x4), some (.int x5), some (.int x6), none] [.int s0] := by
  intro x1 x2 x4 x5 x6 s0 h hyp
  unfold F_X12_waitsBy_b62 at hyp
  refine V_istore_n (pc := 62) C dX12_waitsBy_62 (by decide) rfl ?_
  refine V_iload (pc := 63) C dX12_waitsBy_63 rfl ?_
  refine V_aload_n (pc := 65) C dX12_waitsBy_65 rfl ?_
  refine V_getR (pc := 66) C dX12_waitsBy_66 lf_X12_147 fk_103_68 ?_
  refine V_iload (pc := 69) C dX12_waitsBy_69 rfl ?_
  obtain ⟨g1, hyp⟩ := gd_n hyp
  refine V_iald (pc := 71) C dX12_waitsBy_71 ak_144 g1 ?_
  refine V_if_lt (pc := 72) C dX12_waitsBy_72 (tgt := 79) (by decide) (fun q2 => ?_) (fun q2 => ?_)
  · replace hyp := (if_pos q2).symm.trans hyp
    refine V_iconst (pc := 79) C dX12_waitsBy_79 (v := 0) (by decide) ?_
    refine V_weak (lv' := [some (.ref 103), some (.int x1), some (.int x2), some (.int s0), some (.int x4), none, some (.int x6), none]) (lvle_s (lvle_s (lvle_s (lvle_s (lvle_s (lvle_n (lvle_s (lvle_n lvle_0)))))))) ?_
    exact (T_X12_waitsBy_b80 C hr13) x1 x2 s0 x4 x6 (0 : Int32) x5 h hyp
  · replace hyp := (if_neg q2).symm.trans hyp
    refine V_iconst (pc := 75) C dX12_waitsBy_75 (v := 1) (by decide) ?_
    refine V_goto (pc := 76) C dX12_waitsBy_76 (tgt := 80) (by decide) ?_
    refine V_weak (lv' := [some (.ref 103), some (.int x1), some (.int x2), some (.int s0), some (.int x4), none, some (.int x6), none]) (lvle_s (lvle_s (lvle_s (lvle_s (lvle_s (lvle_n (lvle_s (lvle_n lvle_0)))))))) ?_
    exact (T_X12_waitsBy_b80 C hr13) x1 x2 s0 x4 x6 (1 : Int32) x5 h hyp
def F_X12_waitsBy_b48 (N : Nat) (rc13 : Int32 → Int32 → Int32 → Int32 → Int32 → Int32 → PH → Option (Int32 × PH)) (x1 : Int32) (x2 : Int32) (x3 : Int32) (x5 : Int32) (x6 : Int32) (x7 : Int32) (s0 : Int32) (h : PH) : Option (Int32 × PH) :=
  if x7 ≤ x3 then
    F_X12_waitsBy_b62 N rc13 x1 x2 s0 x5 x6 x3 h
  else
    F_X12_waitsBy_b62 N rc13 x1 x2 s0 x5 x6 x7 h
set_option maxRecDepth 20000 in
set_option maxHeartbeats 4000000 in
theorem T_X12_waitsBy_b48 {X : CT} (C : CX X 154 cX12_waitsBy 8 RX12 (some .int) 1 21) {r0 : Int32} {h0 : PH} {N : Nat} {rc13 : Int32 → Int32 → Int32 → Int32 → Int32 → Int32 → PH → Option (Int32 × PH)} (hr13 : ∀ (x1 : Int32) (x2 : Int32) (x3 : Int32) (x4 : Int32) (x5 : Int32) (x6 : Int32) (h : PH), rc13 x1 x2 x3 x4 x5 x6 h = some (r0, h0) → V X (QI X r0 h0) h 13 [some (.ref 103), some (.int x1), some (.int x2), some (.int x3), some (.int x4), some (.int x5), some (.int x6), none] []) : ∀ (x1 : Int32) (x2 : Int32) (x3 : Int32) (x5 : Int32) (x6 : Int32) (x7 : Int32) (s0 : Int32) (h : PH), F_X12_waitsBy_b48 N rc13 x1 x2 x3 x5 x6 x7 s0 h = some (r0, h0) → V X (QI X r0 h0) h 48 [some (.ref 103), some (.int x1), some (.int x2), some (.int x3), none, some (.int x5), some (.int x6), some (.int x7)] [.int s0] := by
  intro x1 x2 x3 x5 x6 x7 s0 h hyp
  unfold F_X12_waitsBy_b48 at hyp
  refine V_istore (pc := 48) C dX12_waitsBy_48 (by decide) rfl ?_
  refine V_iload (pc := 50) C dX12_waitsBy_50 rfl ?_
  refine V_iload_n (pc := 52) C dX12_waitsBy_52 rfl ?_
  refine V_icmp_le (pc := 53) C dX12_waitsBy_53 (tgt := 61) (by decide) (fun q1 => ?_) (fun q1 => ?_)
  · replace hyp := (if_pos q1).symm.trans hyp
    refine V_iload_n (pc := 61) C dX12_waitsBy_61 rfl ?_
    refine V_weak (lv' := [some (.ref 103), some (.int x1), some (.int x2), none, some (.int s0), some (.int x5), some (.int x6), none]) (lvle_s (lvle_s (lvle_s (lvle_n (lvle_s (lvle_s (lvle_s (lvle_n lvle_0)))))))) ?_
    exact (T_X12_waitsBy_b62 C hr13) x1 x2 s0 x5 x6 x3 h hyp
  · replace hyp := (if_neg q1).symm.trans hyp
    refine V_iload (pc := 56) C dX12_waitsBy_56 rfl ?_
    refine V_goto (pc := 58) C dX12_waitsBy_58 (tgt := 62) (by decide) ?_
    refine V_weak (lv' := [some (.ref 103), some (.int x1), some (.int x2), none, some (.int s0), some (.int x5), some (.int x6), none]) (lvle_s (lvle_s (lvle_s (lvle_n (lvle_s (lvle_s (lvle_s (lvle_n lvle_0)))))))) ?_
    exact (T_X12_waitsBy_b62 C hr13) x1 x2 s0 x5 x6 x7 h hyp
def F_X12_waitsBy_b89 (N : Nat) (x1 : Int32) (x2 : Int32) (x3 : Int32) (x4 : Int32) (x5 : Int32) (h : PH) : Option (Int32 × PH) :=
  if x1 = 0 then
    some (x2, h)
  else
    if x1 = (1 : Int32) then
      some (x3, h)
    else
      if x1 = (2 : Int32) then
        some (x4, h)
      else
        some (x5, h)
set_option maxRecDepth 20000 in
set_option maxHeartbeats 4000000 in
theorem T_X12_waitsBy_b89 {X : CT} (C : CX X 154 cX12_waitsBy 8 RX12 (some .int) 1 21) {r0 : Int32} {h0 : PH} {N : Nat} : ∀ (x1 : Int32) (x2 : Int32) (x3 : Int32) (x4 : Int32) (x5 : Int32) (h : PH), F_X12_waitsBy_b89 N x1 x2 x3 x4 x5 h = some (r0, h0) → V X (QI X r0 h0) h 89 [none, some (.int x1), some (.int x2), some (.int x3), some (.int x4), some (.int x5), none, none] [] := by
  intro x1 x2 x3 x4 x5 h hyp
  unfold F_X12_waitsBy_b89 at hyp
  refine V_iload_n (pc := 89) C dX12_waitsBy_89 rfl ?_
  refine V_if_ne (pc := 90) C dX12_waitsBy_90 (tgt := 97) (by decide) (fun q1 => ?_) (fun q1 => ?_)
  · replace hyp := (if_neg q1).symm.trans hyp
    refine V_iload_n (pc := 97) C dX12_waitsBy_97 rfl ?_
    refine V_iconst (pc := 98) C dX12_waitsBy_98 (v := 1) (by decide) ?_
    refine V_icmp_ne (pc := 99) C dX12_waitsBy_99 (tgt := 106) (by decide) (fun q2 => ?_) (fun q2 => ?_)
    · replace hyp := (if_neg q2).symm.trans hyp
      refine V_iload_n (pc := 106) C dX12_waitsBy_106 rfl ?_
      refine V_iconst (pc := 107) C dX12_waitsBy_107 (v := 2) (by decide) ?_
      refine V_icmp_ne (pc := 108) C dX12_waitsBy_108 (tgt := 116) (by decide) (fun q3 => ?_) (fun q3 => ?_)
      · replace hyp := (if_neg q3).symm.trans hyp
        refine V_iload (pc := 116) C dX12_waitsBy_116 rfl ?_
        cases hyp
        exact V_iret C dX12_waitsBy_118
      · replace hyp := (if_pos q3).symm.trans hyp
        refine V_iload (pc := 111) C dX12_waitsBy_111 rfl ?_
        refine V_goto (pc := 113) C dX12_waitsBy_113 (tgt := 118) (by decide) ?_
        cases hyp
        exact V_iret C dX12_waitsBy_118
    · replace hyp := (if_pos q2).symm.trans hyp
      refine V_iload_n (pc := 102) C dX12_waitsBy_102 rfl ?_
      refine V_goto (pc := 103) C dX12_waitsBy_103 (tgt := 118) (by decide) ?_
      cases hyp
      exact V_iret C dX12_waitsBy_118
  · replace hyp := (if_pos q1).symm.trans hyp
    refine V_iload_n (pc := 93) C dX12_waitsBy_93 rfl ?_
    refine V_goto (pc := 94) C dX12_waitsBy_94 (tgt := 118) (by decide) ?_
    cases hyp
    exact V_iret C dX12_waitsBy_118
def F_X12_waitsBy_b13 (N : Nat) : Nat → Int32 → Int32 → Int32 → Int32 → Int32 → Int32 → PH → Option (Int32 × PH)
  | 0, _, _, _, _, _, _, _ => none
  | n + 1, x1, x2, x3, x4, x5, x6, h =>
    if (h.1 103 57) ≤ x6 then
      F_X12_waitsBy_b89 N x1 x2 x3 x4 x5 h
    else
      bI (F_X12_waitOf x6 h) fun r2 h3 =>
      ib (x2 + r2) fun v4 =>
      if r2 ≤ x3 then
        F_X12_waitsBy_b48 N (F_X12_waitsBy_b13 N n) x1 v4 x3 x5 x6 r2 x4 h3
      else
        F_X12_waitsBy_b48 N (F_X12_waitsBy_b13 N n) x1 v4 x3 x5 x6 r2 x6 h3
set_option maxRecDepth 20000 in
set_option maxHeartbeats 4000000 in
theorem T_X12_waitsBy_b13 {X : CT} (C : CX X 154 cX12_waitsBy 8 RX12 (some .int) 1 21) {r0 : Int32} {h0 : PH} {N : Nat} : ∀ (n : Nat) (x1 : Int32) (x2 : Int32) (x3 : Int32) (x4 : Int32) (x5 : Int32) (x6 : Int32) (h : PH), F_X12_waitsBy_b13 N n x1 x2 x3 x4 x5 x6 h = some (r0, h0) → V X (QI X r0 h0) h 13 [some (.ref 103), some (.int x1), some (.int x2), some (.int x3), some (.int x4), some (.int x5), some (.int x6), none] [] := by
  intro n
  induction n with
  | zero =>
    intro x1 x2 x3 x4 x5 x6 h hyp
    cases hyp
  | succ n ih =>
    intro x1 x2 x3 x4 x5 x6 h hyp
    unfold F_X12_waitsBy_b13 at hyp
    refine V_iload (pc := 13) C dX12_waitsBy_13 rfl ?_
    refine V_aload_n (pc := 15) C dX12_waitsBy_15 rfl ?_
    refine V_getI (pc := 16) C dX12_waitsBy_16 lf_X12_424 fk_103_57 ?_
    refine V_icmp_ge (pc := 19) C dX12_waitsBy_19 (tgt := 89) (by decide) (fun q1 => ?_) (fun q1 => ?_)
    · replace hyp := (if_pos q1).symm.trans hyp
      refine V_weak (lv' := [none, some (.int x1), some (.int x2), some (.int x3), some (.int x4), some (.int x5), none, none]) (lvle_n (lvle_s (lvle_s (lvle_s (lvle_s (lvle_s (lvle_n (lvle_n lvle_0)))))))) ?_
      exact (T_X12_waitsBy_b89 C) x1 x2 x3 x4 x5 h hyp
    · replace hyp := (if_neg q1).symm.trans hyp
      refine V_aload_n (pc := 22) C dX12_waitsBy_22 rfl ?_
      refine V_iload (pc := 23) C dX12_waitsBy_23 rfl ?_
      obtain ⟨r2, h3, eh3, hyp⟩ := bI_n hyp
      refine V_callI (pc := 25) C dX12_waitsBy_25 lm_X12_482 mk_X12_waitOf ok_103 rfl (M_X12_waitOf _ eh3) rfl pd_X12_waitOf (by decide) (by decide) (by decide) (As := [.int x6]) (rest := []) rfl (Nat.le_of_ble_eq_true rfl) ?_
      refine V_istore (pc := 28) C dX12_waitsBy_28 (by decide) rfl ?_
      refine V_iload_n (pc := 30) C dX12_waitsBy_30 rfl ?_
      refine V_iload (pc := 31) C dX12_waitsBy_31 rfl ?_
      refine V_iadd (pc := 33) C dX12_waitsBy_33 ?_
      obtain ⟨v4, ev4, hyp⟩ := ib_n hyp
      refine V_topI ev4 ?_
      refine V_istore_n (pc := 34) C dX12_waitsBy_34 (by decide) rfl ?_
      refine V_iload (pc := 35) C dX12_waitsBy_35 rfl ?_
      refine V_iload_n (pc := 37) C dX12_waitsBy_37 rfl ?_
      refine V_icmp_le (pc := 38) C dX12_waitsBy_38 (tgt := 46) (by decide) (fun q5 => ?_) (fun q5 => ?_)
      · replace hyp := (if_pos q5).symm.trans hyp
        refine V_iload (pc := 46) C dX12_waitsBy_46 rfl ?_
        refine V_weak (lv' := [some (.ref 103), some (.int x1), some (.int v4), some (.int x3), none, some (.int x5), some (.int x6), some (.int r2)]) (lvle_s (lvle_s (lvle_s (lvle_s (lvle_n (lvle_s (lvle_s (lvle_s lvle_0)))))))) ?_
        exact (T_X12_waitsBy_b48 C ih) x1 v4 x3 x5 x6 r2 x4 h3 hyp
      · replace hyp := (if_neg q5).symm.trans hyp
        refine V_iload (pc := 41) C dX12_waitsBy_41 rfl ?_
        refine V_goto (pc := 43) C dX12_waitsBy_43 (tgt := 48) (by decide) ?_
        refine V_weak (lv' := [some (.ref 103), some (.int x1), some (.int v4), some (.int x3), none, some (.int x5), some (.int x6), some (.int r2)]) (lvle_s (lvle_s (lvle_s (lvle_s (lvle_n (lvle_s (lvle_s (lvle_s lvle_0)))))))) ?_
        exact (T_X12_waitsBy_b48 C ih) x1 v4 x3 x5 x6 r2 x6 h3 hyp
def F_X12_waitsBy (N : Nat) (a1 : Int32) (h : PH) : Option (Int32 × PH) :=
  F_X12_waitsBy_b13 N N a1 (0 : Int32) (-1 : Int32) (-1 : Int32) (0 : Int32) (0 : Int32) h
set_option maxRecDepth 20000 in
set_option maxHeartbeats 4000000 in
theorem M_X12_waitsBy (E : EV) {N : Nat} {a1 : Int32} {r : Int32} {h h2 : PH} (hyp : F_X12_waitsBy N a1 h = some (r, h2)) : MI E 154 yX12_waitsBy cX12_waitsBy 8 (some .int) 1 21 [.ref 103, .int a1] h r h2 := by
  refine MI.of 6 (by decide) rfl (fun X e1 C => ?_)
  subst e1
  replace C : CX X 154 cX12_waitsBy 8 RX12 (some .int) 1 21 := C
  show V X _ h 0 [some (.ref 103), some (.int a1), none, none, none, none, none, none] []
  unfold F_X12_waitsBy at hyp
  refine V_iconst (pc := 0) C dX12_waitsBy_0 (v := 0) (by decide) ?_
  refine V_istore_n (pc := 1) C dX12_waitsBy_1 (by decide) rfl ?_
  refine V_iconst (pc := 2) C dX12_waitsBy_2 (v := -1) (by decide) ?_
  refine V_istore_n (pc := 3) C dX12_waitsBy_3 (by decide) rfl ?_
  refine V_iconst (pc := 4) C dX12_waitsBy_4 (v := -1) (by decide) ?_
  refine V_istore (pc := 5) C dX12_waitsBy_5 (by decide) rfl ?_
  refine V_iconst (pc := 7) C dX12_waitsBy_7 (v := 0) (by decide) ?_
  refine V_istore (pc := 8) C dX12_waitsBy_8 (by decide) rfl ?_
  refine V_iconst (pc := 10) C dX12_waitsBy_10 (v := 0) (by decide) ?_
  refine V_istore (pc := 11) C dX12_waitsBy_11 (by decide) rfl ?_
  refine V_weak (lv' := [some (.ref 103), some (.int a1), some (.int (0 : Int32)), some (.int (-1 : Int32)), some (.int (-1 : Int32)), some (.int (0 : Int32)), some (.int (0 : Int32)), none]) (lvle_s (lvle_s (lvle_s (lvle_s (lvle_s (lvle_s (lvle_s (lvle_n lvle_0)))))))) ?_
  exact (T_X12_waitsBy_b13 C) N a1 (0 : Int32) (-1 : Int32) (-1 : Int32) (0 : Int32) (0 : Int32) h hyp
theorem dX12_waits_0 : decode cX12_waits 0 = .ok (.aload_n 0, 1) := by decide +kernel
theorem dX12_waits_1 : decode cX12_waits 1 = .ok (.iconst 0, 1) := by decide +kernel
theorem dX12_waits_2 : decode cX12_waits 2 = .ok (.putfield 180, 3) := by decide +kernel
theorem dX12_waits_5 : decode cX12_waits 5 = .ok (.aload_n 0, 1) := by decide +kernel
theorem dX12_waits_6 : decode cX12_waits 6 = .ok (.getfield 424, 3) := by decide +kernel
theorem dX12_waits_9 : decode cX12_waits 9 = .ok (.ifCond .eq 12, 3) := by decide +kernel
theorem dX12_waits_12 : decode cX12_waits 12 = .ok (.iload_n 1, 1) := by decide +kernel
theorem dX12_waits_13 : decode cX12_waits 13 = .ok (.iconst 0, 1) := by decide +kernel
theorem dX12_waits_14 : decode cX12_waits 14 = .ok (.iconst 3, 1) := by decide +kernel
theorem dX12_waits_15 : decode cX12_waits 15 = .ok (.invokestatic 183, 3) := by decide +kernel
theorem dX12_waits_18 : decode cX12_waits 18 = .ok (.ifCond .ne 5, 3) := by decide +kernel
theorem dX12_waits_21 : decode cX12_waits 21 = .ok (.iconst (-1), 1) := by decide +kernel
theorem dX12_waits_22 : decode cX12_waits 22 = .ok (.ireturn, 1) := by decide +kernel
theorem dX12_waits_23 : decode cX12_waits 23 = .ok (.aload_n 0, 1) := by decide +kernel
theorem dX12_waits_24 : decode cX12_waits 24 = .ok (.iconst (-1), 1) := by decide +kernel
theorem dX12_waits_25 : decode cX12_waits 25 = .ok (.invokevirtual 479, 3) := by decide +kernel
theorem dX12_waits_28 : decode cX12_waits 28 = .ok (.aload_n 0, 1) := by decide +kernel
theorem dX12_waits_29 : decode cX12_waits 29 = .ok (.iload_n 1, 1) := by decide +kernel
theorem dX12_waits_30 : decode cX12_waits 30 = .ok (.invokevirtual 485, 3) := by decide +kernel
theorem dX12_waits_33 : decode cX12_waits 33 = .ok (.ireturn, 1) := by decide +kernel
def F_X12_waits (N : Nat) (a1 : Int32) (h : PH) : Option (Int32 × PH) :=
  hb (hs h 103 0 (0 : Int32)) fun h1 =>
  if (h1.1 103 57) = 0 then
    some ((-1 : Int32), h1)
  else
    bI (F_X12_within a1 (0 : Int32) (3 : Int32) h1) fun r3 h4 =>
    if r3 = 0 then
      some ((-1 : Int32), h4)
    else
      bV (F_X12_runs N (-1 : Int32) h4) fun h7 =>
      bI (F_X12_waitsBy N a1 h7) fun r8 h9 =>
      some (r8, h9)
set_option maxRecDepth 20000 in
set_option maxHeartbeats 4000000 in
theorem M_X12_waits (E : EV) {N : Nat} {a1 : Int32} {r : Int32} {h h2 : PH} (hyp : F_X12_waits N a1 h = some (r, h2)) : MI E 154 yX12_waits cX12_waits 2 (some .int) 6 141 [.ref 103, .int a1] h r h2 := by
  refine MI.of 0 (by decide) rfl (fun X e1 C => ?_)
  subst e1
  replace C : CX X 154 cX12_waits 2 RX12 (some .int) 6 141 := C
  show V X _ h 0 [some (.ref 103), some (.int a1)] []
  unfold F_X12_waits at hyp
  refine V_aload_n (pc := 0) C dX12_waits_0 rfl ?_
  refine V_iconst (pc := 1) C dX12_waits_1 (v := 0) (by decide) ?_
  obtain ⟨h1, eh1, hyp⟩ := hb_n hyp
  refine V_putI (pc := 2) C dX12_waits_2 lf_X12_180 fk_103_0 rfl rfl eh1 ?_
  refine V_aload_n (pc := 5) C dX12_waits_5 rfl ?_
  refine V_getI (pc := 6) C dX12_waits_6 lf_X12_424 fk_103_57 ?_
  refine V_if_eq (pc := 9) C dX12_waits_9 (tgt := 21) (by decide) (fun q2 => ?_) (fun q2 => ?_)
  · replace hyp := (if_pos q2).symm.trans hyp
    refine V_iconst (pc := 21) C dX12_waits_21 (v := -1) (by decide) ?_
    cases hyp
    exact V_iret C dX12_waits_22
  · replace hyp := (if_neg q2).symm.trans hyp
    refine V_iload_n (pc := 12) C dX12_waits_12 rfl ?_
    refine V_iconst (pc := 13) C dX12_waits_13 (v := 0) (by decide) ?_
    refine V_iconst (pc := 14) C dX12_waits_14 (v := 3) (by decide) ?_
    obtain ⟨r3, h4, eh4, hyp⟩ := bI_n hyp
    refine V_statI (pc := 15) C dX12_waits_15 lm_X12_183 ms_X12_within (M_X12_within _ eh4) rfl pd_X12_within (by decide) (by decide) (by decide) (As := [.int a1, .int (0 : Int32), .int (3 : Int32)]) (rest := []) rfl (Nat.le_of_ble_eq_true rfl) ?_
    refine V_if_ne (pc := 18) C dX12_waits_18 (tgt := 23) (by decide) (fun q5 => ?_) (fun q5 => ?_)
    · replace hyp := (if_neg q5).symm.trans hyp
      refine V_aload_n (pc := 23) C dX12_waits_23 rfl ?_
      refine V_iconst (pc := 24) C dX12_waits_24 (v := -1) (by decide) ?_
      obtain ⟨h7, eh7, hyp⟩ := bV_n hyp
      refine V_callV (pc := 25) C dX12_waits_25 lm_X12_479 mk_X12_runs ok_103 rfl (M_X12_runs _ eh7) rfl pd_X12_runs (by decide) (by decide) (by decide) (As := [.int (-1 : Int32)]) (rest := []) rfl (Nat.le_of_ble_eq_true rfl) ?_
      refine V_aload_n (pc := 28) C dX12_waits_28 rfl ?_
      refine V_iload_n (pc := 29) C dX12_waits_29 rfl ?_
      obtain ⟨r8, h9, eh9, hyp⟩ := bI_n hyp
      refine V_callI (pc := 30) C dX12_waits_30 lm_X12_485 mk_X12_waitsBy ok_103 rfl (M_X12_waitsBy _ eh9) rfl pd_X12_waitsBy (by decide) (by decide) (by decide) (As := [.int a1]) (rest := []) rfl (Nat.le_of_ble_eq_true rfl) ?_
      cases hyp
      exact V_iret C dX12_waits_33
    · replace hyp := (if_pos q5).symm.trans hyp
      refine V_iconst (pc := 21) C dX12_waits_21 (v := -1) (by decide) ?_
      cases hyp
      exact V_iret C dX12_waits_22
theorem dX12_moved_0 : decode cX12_moved 0 = .ok (.aload_n 0, 1) := by decide +kernel
theorem dX12_moved_1 : decode cX12_moved 1 = .ok (.iconst 0, 1) := by decide +kernel
theorem dX12_moved_2 : decode cX12_moved 2 = .ok (.putfield 180, 3) := by decide +kernel
theorem dX12_moved_5 : decode cX12_moved 5 = .ok (.iload_n 1, 1) := by decide +kernel
theorem dX12_moved_6 : decode cX12_moved 6 = .ok (.iconst 0, 1) := by decide +kernel
theorem dX12_moved_7 : decode cX12_moved 7 = .ok (.aload_n 0, 1) := by decide +kernel
theorem dX12_moved_8 : decode cX12_moved 8 = .ok (.getfield 111, 3) := by decide +kernel
theorem dX12_moved_11 : decode cX12_moved 11 = .ok (.iconst 1, 1) := by decide +kernel
theorem dX12_moved_12 : decode cX12_moved 12 = .ok (.isub, 1) := by decide +kernel
theorem dX12_moved_13 : decode cX12_moved 13 = .ok (.invokestatic 183, 3) := by decide +kernel
theorem dX12_moved_16 : decode cX12_moved 16 = .ok (.ifCond .eq 17, 3) := by decide +kernel
theorem dX12_moved_19 : decode cX12_moved 19 = .ok (.iload_n 2, 1) := by decide +kernel
theorem dX12_moved_20 : decode cX12_moved 20 = .ok (.iconst 0, 1) := by decide +kernel
theorem dX12_moved_21 : decode cX12_moved 21 = .ok (.aload_n 0, 1) := by decide +kernel
theorem dX12_moved_22 : decode cX12_moved 22 = .ok (.getfield 7, 3) := by decide +kernel
theorem dX12_moved_25 : decode cX12_moved 25 = .ok (.iconst 2, 1) := by decide +kernel
theorem dX12_moved_26 : decode cX12_moved 26 = .ok (.isub, 1) := by decide +kernel
theorem dX12_moved_27 : decode cX12_moved 27 = .ok (.invokestatic 183, 3) := by decide +kernel
theorem dX12_moved_30 : decode cX12_moved 30 = .ok (.ifCond .ne 5, 3) := by decide +kernel
theorem dX12_moved_33 : decode cX12_moved 33 = .ok (.iconst (-1), 1) := by decide +kernel
theorem dX12_moved_34 : decode cX12_moved 34 = .ok (.ireturn, 1) := by decide +kernel
theorem dX12_moved_35 : decode cX12_moved 35 = .ok (.aload_n 0, 1) := by decide +kernel
theorem dX12_moved_36 : decode cX12_moved 36 = .ok (.iconst (-1), 1) := by decide +kernel
theorem dX12_moved_37 : decode cX12_moved 37 = .ok (.invokevirtual 479, 3) := by decide +kernel
theorem dX12_moved_40 : decode cX12_moved 40 = .ok (.aload_n 0, 1) := by decide +kernel
theorem dX12_moved_41 : decode cX12_moved 41 = .ok (.getfield 159, 3) := by decide +kernel
theorem dX12_moved_44 : decode cX12_moved 44 = .ok (.iconst 5, 1) := by decide +kernel
theorem dX12_moved_45 : decode cX12_moved 45 = .ok (.iload_n 1, 1) := by decide +kernel
theorem dX12_moved_46 : decode cX12_moved 46 = .ok (.imul, 1) := by decide +kernel
theorem dX12_moved_47 : decode cX12_moved 47 = .ok (.iload_n 2, 1) := by decide +kernel
theorem dX12_moved_48 : decode cX12_moved 48 = .ok (.iadd, 1) := by decide +kernel
theorem dX12_moved_49 : decode cX12_moved 49 = .ok (.iaload, 1) := by decide +kernel
theorem dX12_moved_50 : decode cX12_moved 50 = .ok (.ireturn, 1) := by decide +kernel
def F_X12_moved (N : Nat) (a1 : Int32) (a2 : Int32) (h : PH) : Option (Int32 × PH) :=
  hb (hs h 103 0 (0 : Int32)) fun h1 =>
  bI (F_X12_within a1 (0 : Int32) ((h1.1 103 53) - (1 : Int32)) h1) fun r2 h3 =>
  if r2 = 0 then
    some ((-1 : Int32), h3)
  else
    bI (F_X12_within a2 (0 : Int32) ((h3.1 103 1) - (2 : Int32)) h3) fun r5 h6 =>
    if r5 = 0 then
      some ((-1 : Int32), h6)
    else
      bV (F_X12_runs N (-1 : Int32) h6) fun h9 =>
      if inb (((5 : Int32) * a1) + a2) 10 = true then
      some (h9.1 148 (((5 : Int32) * a1) + a2).toNatClampNeg, h9)
      else none
set_option maxRecDepth 20000 in
set_option maxHeartbeats 4000000 in
theorem M_X12_moved (E : EV) {N : Nat} {a1 : Int32} {a2 : Int32} {r : Int32} {h h2 : PH} (hyp : F_X12_moved N a1 a2 h = some (r, h2)) : MI E 154 yX12_moved cX12_moved 3 (some .int) 6 141 [.ref 103, .int a1, .int a2] h r h2 := by
  refine MI.of 0 (by decide) rfl (fun X e1 C => ?_)
  subst e1
  replace C : CX X 154 cX12_moved 3 RX12 (some .int) 6 141 := C
  show V X _ h 0 [some (.ref 103), some (.int a1), some (.int a2)] []
  unfold F_X12_moved at hyp
  refine V_aload_n (pc := 0) C dX12_moved_0 rfl ?_
  refine V_iconst (pc := 1) C dX12_moved_1 (v := 0) (by decide) ?_
  obtain ⟨h1, eh1, hyp⟩ := hb_n hyp
  refine V_putI (pc := 2) C dX12_moved_2 lf_X12_180 fk_103_0 rfl rfl eh1 ?_
  refine V_iload_n (pc := 5) C dX12_moved_5 rfl ?_
  refine V_iconst (pc := 6) C dX12_moved_6 (v := 0) (by decide) ?_
  refine V_aload_n (pc := 7) C dX12_moved_7 rfl ?_
  refine V_getI (pc := 8) C dX12_moved_8 lf_X12_111 fk_103_53 ?_
  refine V_iconst (pc := 11) C dX12_moved_11 (v := 1) (by decide) ?_
  refine V_isub (pc := 12) C dX12_moved_12 ?_
  obtain ⟨r2, h3, eh3, hyp⟩ := bI_n hyp
  refine V_statI (pc := 13) C dX12_moved_13 lm_X12_183 ms_X12_within (M_X12_within _ eh3) rfl pd_X12_within (by decide) (by decide) (by decide) (As := [.int a1, .int (0 : Int32), .int ((h1.1 103 53) - (1 : Int32))]) (rest := []) rfl (Nat.le_of_ble_eq_true rfl) ?_
  refine V_if_eq (pc := 16) C dX12_moved_16 (tgt := 33) (by decide) (fun q4 => ?_) (fun q4 => ?_)
  · replace hyp := (if_pos q4).symm.trans hyp
    refine V_iconst (pc := 33) C dX12_moved_33 (v := -1) (by decide) ?_
    cases hyp
    exact V_iret C dX12_moved_34
  · replace hyp := (if_neg q4).symm.trans hyp
    refine V_iload_n (pc := 19) C dX12_moved_19 rfl ?_
    refine V_iconst (pc := 20) C dX12_moved_20 (v := 0) (by decide) ?_
    refine V_aload_n (pc := 21) C dX12_moved_21 rfl ?_
    refine V_getI (pc := 22) C dX12_moved_22 lf_X12_7 fk_103_1 ?_
    refine V_iconst (pc := 25) C dX12_moved_25 (v := 2) (by decide) ?_
    refine V_isub (pc := 26) C dX12_moved_26 ?_
    obtain ⟨r5, h6, eh6, hyp⟩ := bI_n hyp
    refine V_statI (pc := 27) C dX12_moved_27 lm_X12_183 ms_X12_within (M_X12_within _ eh6) rfl pd_X12_within (by decide) (by decide) (by decide) (As := [.int a2, .int (0 : Int32), .int ((h3.1 103 1) - (2 : Int32))]) (rest := []) rfl (Nat.le_of_ble_eq_true rfl) ?_
    refine V_if_ne (pc := 30) C dX12_moved_30 (tgt := 35) (by decide) (fun q7 => ?_) (fun q7 => ?_)
    · replace hyp := (if_neg q7).symm.trans hyp
      refine V_aload_n (pc := 35) C dX12_moved_35 rfl ?_
      refine V_iconst (pc := 36) C dX12_moved_36 (v := -1) (by decide) ?_
      obtain ⟨h9, eh9, hyp⟩ := bV_n hyp
      refine V_callV (pc := 37) C dX12_moved_37 lm_X12_479 mk_X12_runs ok_103 rfl (M_X12_runs _ eh9) rfl pd_X12_runs (by decide) (by decide) (by decide) (As := [.int (-1 : Int32)]) (rest := []) rfl (Nat.le_of_ble_eq_true rfl) ?_
      refine V_aload_n (pc := 40) C dX12_moved_40 rfl ?_
      refine V_getR (pc := 41) C dX12_moved_41 lf_X12_159 fk_103_72 ?_
      refine V_iconst (pc := 44) C dX12_moved_44 (v := 5) (by decide) ?_
      refine V_iload_n (pc := 45) C dX12_moved_45 rfl ?_
      refine V_imul (pc := 46) C dX12_moved_46 ?_
      refine V_iload_n (pc := 47) C dX12_moved_47 rfl ?_
      refine V_iadd (pc := 48) C dX12_moved_48 ?_
      obtain ⟨g10, hyp⟩ := gd_n hyp
      refine V_iald (pc := 49) C dX12_moved_49 ak_148 g10 ?_
      cases hyp
      exact V_iret C dX12_moved_50
    · replace hyp := (if_pos q7).symm.trans hyp
      refine V_iconst (pc := 33) C dX12_moved_33 (v := -1) (by decide) ?_
      cases hyp
      exact V_iret C dX12_moved_34
theorem dX12_stopped_0 : decode cX12_stopped 0 = .ok (.aload_n 0, 1) := by decide +kernel
theorem dX12_stopped_1 : decode cX12_stopped 1 = .ok (.iconst 0, 1) := by decide +kernel
theorem dX12_stopped_2 : decode cX12_stopped 2 = .ok (.putfield 180, 3) := by decide +kernel
theorem dX12_stopped_5 : decode cX12_stopped 5 = .ok (.iload_n 1, 1) := by decide +kernel
theorem dX12_stopped_6 : decode cX12_stopped 6 = .ok (.iconst 0, 1) := by decide +kernel
theorem dX12_stopped_7 : decode cX12_stopped 7 = .ok (.aload_n 0, 1) := by decide +kernel
theorem dX12_stopped_8 : decode cX12_stopped 8 = .ok (.getfield 111, 3) := by decide +kernel
theorem dX12_stopped_11 : decode cX12_stopped 11 = .ok (.iconst 1, 1) := by decide +kernel
theorem dX12_stopped_12 : decode cX12_stopped 12 = .ok (.isub, 1) := by decide +kernel
theorem dX12_stopped_13 : decode cX12_stopped 13 = .ok (.invokestatic 183, 3) := by decide +kernel
theorem dX12_stopped_16 : decode cX12_stopped 16 = .ok (.ifCond .ne 5, 3) := by decide +kernel
theorem dX12_stopped_19 : decode cX12_stopped 19 = .ok (.iconst (-1), 1) := by decide +kernel
theorem dX12_stopped_20 : decode cX12_stopped 20 = .ok (.ireturn, 1) := by decide +kernel
theorem dX12_stopped_21 : decode cX12_stopped 21 = .ok (.aload_n 0, 1) := by decide +kernel
theorem dX12_stopped_22 : decode cX12_stopped 22 = .ok (.iconst (-1), 1) := by decide +kernel
theorem dX12_stopped_23 : decode cX12_stopped 23 = .ok (.invokevirtual 479, 3) := by decide +kernel
theorem dX12_stopped_26 : decode cX12_stopped 26 = .ok (.aload_n 0, 1) := by decide +kernel
theorem dX12_stopped_27 : decode cX12_stopped 27 = .ok (.getfield 162, 3) := by decide +kernel
theorem dX12_stopped_30 : decode cX12_stopped 30 = .ok (.iload_n 1, 1) := by decide +kernel
theorem dX12_stopped_31 : decode cX12_stopped 31 = .ok (.iaload, 1) := by decide +kernel
theorem dX12_stopped_32 : decode cX12_stopped 32 = .ok (.ireturn, 1) := by decide +kernel
def F_X12_stopped (N : Nat) (a1 : Int32) (h : PH) : Option (Int32 × PH) :=
  hb (hs h 103 0 (0 : Int32)) fun h1 =>
  bI (F_X12_within a1 (0 : Int32) ((h1.1 103 53) - (1 : Int32)) h1) fun r2 h3 =>
  if r2 = 0 then
    some ((-1 : Int32), h3)
  else
    bV (F_X12_runs N (-1 : Int32) h3) fun h6 =>
    if inb a1 2 = true then
    some (h6.1 149 a1.toNatClampNeg, h6)
    else none
set_option maxRecDepth 20000 in
set_option maxHeartbeats 4000000 in
theorem M_X12_stopped (E : EV) {N : Nat} {a1 : Int32} {r : Int32} {h h2 : PH} (hyp : F_X12_stopped N a1 h = some (r, h2)) : MI E 154 yX12_stopped cX12_stopped 2 (some .int) 6 141 [.ref 103, .int a1] h r h2 := by
  refine MI.of 0 (by decide) rfl (fun X e1 C => ?_)
  subst e1
  replace C : CX X 154 cX12_stopped 2 RX12 (some .int) 6 141 := C
  show V X _ h 0 [some (.ref 103), some (.int a1)] []
  unfold F_X12_stopped at hyp
  refine V_aload_n (pc := 0) C dX12_stopped_0 rfl ?_
  refine V_iconst (pc := 1) C dX12_stopped_1 (v := 0) (by decide) ?_
  obtain ⟨h1, eh1, hyp⟩ := hb_n hyp
  refine V_putI (pc := 2) C dX12_stopped_2 lf_X12_180 fk_103_0 rfl rfl eh1 ?_
  refine V_iload_n (pc := 5) C dX12_stopped_5 rfl ?_
  refine V_iconst (pc := 6) C dX12_stopped_6 (v := 0) (by decide) ?_
  refine V_aload_n (pc := 7) C dX12_stopped_7 rfl ?_
  refine V_getI (pc := 8) C dX12_stopped_8 lf_X12_111 fk_103_53 ?_
  refine V_iconst (pc := 11) C dX12_stopped_11 (v := 1) (by decide) ?_
  refine V_isub (pc := 12) C dX12_stopped_12 ?_
  obtain ⟨r2, h3, eh3, hyp⟩ := bI_n hyp
  refine V_statI (pc := 13) C dX12_stopped_13 lm_X12_183 ms_X12_within (M_X12_within _ eh3) rfl pd_X12_within (by decide) (by decide) (by decide) (As := [.int a1, .int (0 : Int32), .int ((h1.1 103 53) - (1 : Int32))]) (rest := []) rfl (Nat.le_of_ble_eq_true rfl) ?_
  refine V_if_ne (pc := 16) C dX12_stopped_16 (tgt := 21) (by decide) (fun q4 => ?_) (fun q4 => ?_)
  · replace hyp := (if_neg q4).symm.trans hyp
    refine V_aload_n (pc := 21) C dX12_stopped_21 rfl ?_
    refine V_iconst (pc := 22) C dX12_stopped_22 (v := -1) (by decide) ?_
    obtain ⟨h6, eh6, hyp⟩ := bV_n hyp
    refine V_callV (pc := 23) C dX12_stopped_23 lm_X12_479 mk_X12_runs ok_103 rfl (M_X12_runs _ eh6) rfl pd_X12_runs (by decide) (by decide) (by decide) (As := [.int (-1 : Int32)]) (rest := []) rfl (Nat.le_of_ble_eq_true rfl) ?_
    refine V_aload_n (pc := 26) C dX12_stopped_26 rfl ?_
    refine V_getR (pc := 27) C dX12_stopped_27 lf_X12_162 fk_103_73 ?_
    refine V_iload_n (pc := 30) C dX12_stopped_30 rfl ?_
    obtain ⟨g7, hyp⟩ := gd_n hyp
    refine V_iald (pc := 31) C dX12_stopped_31 ak_149 g7 ?_
    cases hyp
    exact V_iret C dX12_stopped_32
  · replace hyp := (if_pos q4).symm.trans hyp
    refine V_iconst (pc := 19) C dX12_stopped_19 (v := -1) (by decide) ?_
    cases hyp
    exact V_iret C dX12_stopped_20
theorem dX12_best_0 : decode cX12_best 0 = .ok (.aload_n 0, 1) := by decide +kernel
theorem dX12_best_1 : decode cX12_best 1 = .ok (.iconst 0, 1) := by decide +kernel
theorem dX12_best_2 : decode cX12_best 2 = .ok (.putfield 180, 3) := by decide +kernel
theorem dX12_best_5 : decode cX12_best 5 = .ok (.aload_n 0, 1) := by decide +kernel
theorem dX12_best_6 : decode cX12_best 6 = .ok (.getfield 424, 3) := by decide +kernel
theorem dX12_best_9 : decode cX12_best 9 = .ok (.iconst 1, 1) := by decide +kernel
theorem dX12_best_10 : decode cX12_best 10 = .ok (.bipush 8, 2) := by decide +kernel
theorem dX12_best_12 : decode cX12_best 12 = .ok (.invokestatic 183, 3) := by decide +kernel
theorem dX12_best_15 : decode cX12_best 15 = .ok (.ifCond .eq 21, 3) := by decide +kernel
theorem dX12_best_18 : decode cX12_best 18 = .ok (.iload_n 1, 1) := by decide +kernel
theorem dX12_best_19 : decode cX12_best 19 = .ok (.iconst 0, 1) := by decide +kernel
theorem dX12_best_20 : decode cX12_best 20 = .ok (.iconst 2, 1) := by decide +kernel
theorem dX12_best_21 : decode cX12_best 21 = .ok (.invokestatic 183, 3) := by decide +kernel
theorem dX12_best_24 : decode cX12_best 24 = .ok (.ifCond .eq 12, 3) := by decide +kernel
theorem dX12_best_27 : decode cX12_best 27 = .ok (.iload_n 2, 1) := by decide +kernel
theorem dX12_best_28 : decode cX12_best 28 = .ok (.iconst 0, 1) := by decide +kernel
theorem dX12_best_29 : decode cX12_best 29 = .ok (.iconst 1, 1) := by decide +kernel
theorem dX12_best_30 : decode cX12_best 30 = .ok (.invokestatic 183, 3) := by decide +kernel
theorem dX12_best_33 : decode cX12_best 33 = .ok (.ifCond .ne 5, 3) := by decide +kernel
theorem dX12_best_36 : decode cX12_best 36 = .ok (.iconst (-1), 1) := by decide +kernel
theorem dX12_best_37 : decode cX12_best 37 = .ok (.ireturn, 1) := by decide +kernel
theorem dX12_best_38 : decode cX12_best 38 = .ok (.iconst (-1), 1) := by decide +kernel
theorem dX12_best_39 : decode cX12_best 39 = .ok (.istore_n 3, 1) := by decide +kernel
theorem dX12_best_40 : decode cX12_best 40 = .ok (.iconst (-1), 1) := by decide +kernel
theorem dX12_best_41 : decode cX12_best 41 = .ok (.istore 4, 2) := by decide +kernel
theorem dX12_best_43 : decode cX12_best 43 = .ok (.aload_n 0, 1) := by decide +kernel
theorem dX12_best_44 : decode cX12_best 44 = .ok (.getfield 111, 3) := by decide +kernel
theorem dX12_best_47 : decode cX12_best 47 = .ok (.iconst 1, 1) := by decide +kernel
theorem dX12_best_48 : decode cX12_best 48 = .ok (.if_icmp .ne 7, 3) := by decide +kernel
theorem dX12_best_51 : decode cX12_best 51 = .ok (.iconst 1, 1) := by decide +kernel
theorem dX12_best_52 : decode cX12_best 52 = .ok (.goto 9, 3) := by decide +kernel
theorem dX12_best_55 : decode cX12_best 55 = .ok (.iconst 1, 1) := by decide +kernel
theorem dX12_best_56 : decode cX12_best 56 = .ok (.aload_n 0, 1) := by decide +kernel
theorem dX12_best_57 : decode cX12_best 57 = .ok (.getfield 424, 3) := by decide +kernel
theorem dX12_best_60 : decode cX12_best 60 = .ok (.ishl, 1) := by decide +kernel
theorem dX12_best_61 : decode cX12_best 61 = .ok (.istore 5, 2) := by decide +kernel
theorem dX12_best_63 : decode cX12_best 63 = .ok (.iconst 0, 1) := by decide +kernel
theorem dX12_best_64 : decode cX12_best 64 = .ok (.istore 6, 2) := by decide +kernel
theorem dX12_best_66 : decode cX12_best 66 = .ok (.iload 6, 2) := by decide +kernel
theorem dX12_best_68 : decode cX12_best 68 = .ok (.iload 5, 2) := by decide +kernel
theorem dX12_best_70 : decode cX12_best 70 = .ok (.if_icmp .ge 59, 3) := by decide +kernel
theorem dX12_best_73 : decode cX12_best 73 = .ok (.aload_n 0, 1) := by decide +kernel
theorem dX12_best_74 : decode cX12_best 74 = .ok (.iload 6, 2) := by decide +kernel
theorem dX12_best_76 : decode cX12_best 76 = .ok (.invokevirtual 479, 3) := by decide +kernel
theorem dX12_best_79 : decode cX12_best 79 = .ok (.iload_n 1, 1) := by decide +kernel
theorem dX12_best_80 : decode cX12_best 80 = .ok (.iconst 2, 1) := by decide +kernel
theorem dX12_best_81 : decode cX12_best 81 = .ok (.if_icmp .ne 10, 3) := by decide +kernel
theorem dX12_best_84 : decode cX12_best 84 = .ok (.aload_n 0, 1) := by decide +kernel
theorem dX12_best_85 : decode cX12_best 85 = .ok (.getfield 467, 3) := by decide +kernel
theorem dX12_best_88 : decode cX12_best 88 = .ok (.goto 8, 3) := by decide +kernel
theorem dX12_best_91 : decode cX12_best 91 = .ok (.aload_n 0, 1) := by decide +kernel
theorem dX12_best_92 : decode cX12_best 92 = .ok (.iload_n 1, 1) := by decide +kernel
theorem dX12_best_93 : decode cX12_best 93 = .ok (.invokevirtual 485, 3) := by decide +kernel
theorem dX12_best_96 : decode cX12_best 96 = .ok (.istore 7, 2) := by decide +kernel
theorem dX12_best_98 : decode cX12_best 98 = .ok (.iload 7, 2) := by decide +kernel
theorem dX12_best_100 : decode cX12_best 100 = .ok (.ifCond .lt 23, 3) := by decide +kernel
theorem dX12_best_103 : decode cX12_best 103 = .ok (.iload_n 3, 1) := by decide +kernel
theorem dX12_best_104 : decode cX12_best 104 = .ok (.ifCond .lt 12, 3) := by decide +kernel
theorem dX12_best_107 : decode cX12_best 107 = .ok (.iload 7, 2) := by decide +kernel
theorem dX12_best_109 : decode cX12_best 109 = .ok (.iload_n 3, 1) := by decide +kernel
theorem dX12_best_110 : decode cX12_best 110 = .ok (.if_icmp .lt 6, 3) := by decide +kernel
theorem dX12_best_113 : decode cX12_best 113 = .ok (.goto 10, 3) := by decide +kernel
theorem dX12_best_116 : decode cX12_best 116 = .ok (.iload 7, 2) := by decide +kernel
theorem dX12_best_118 : decode cX12_best 118 = .ok (.istore_n 3, 1) := by decide +kernel
theorem dX12_best_119 : decode cX12_best 119 = .ok (.iload 6, 2) := by decide +kernel
theorem dX12_best_121 : decode cX12_best 121 = .ok (.istore 4, 2) := by decide +kernel
theorem dX12_best_123 : decode cX12_best 123 = .ok (.iinc 6 1, 3) := by decide +kernel
theorem dX12_best_126 : decode cX12_best 126 = .ok (.goto (-60), 3) := by decide +kernel
theorem dX12_best_129 : decode cX12_best 129 = .ok (.iload_n 2, 1) := by decide +kernel
theorem dX12_best_130 : decode cX12_best 130 = .ok (.ifCond .ne 7, 3) := by decide +kernel
theorem dX12_best_133 : decode cX12_best 133 = .ok (.iload_n 3, 1) := by decide +kernel
theorem dX12_best_134 : decode cX12_best 134 = .ok (.goto 5, 3) := by decide +kernel
theorem dX12_best_137 : decode cX12_best 137 = .ok (.iload 4, 2) := by decide +kernel
theorem dX12_best_139 : decode cX12_best 139 = .ok (.ireturn, 1) := by decide +kernel
def F_X12_best_b123 (N : Nat) (rc66 : Int32 → Int32 → Int32 → Int32 → Int32 → Int32 → PH → Option (Int32 × PH)) (x1 : Int32) (x2 : Int32) (x3 : Int32) (x4 : Int32) (x5 : Int32) (x6 : Int32) (h : PH) : Option (Int32 × PH) :=
  ib (x6 + (1 : Int32)) fun v1 =>
  rc66 x1 x2 x3 x4 x5 v1 h
set_option maxRecDepth 20000 in
set_option maxHeartbeats 4000000 in
theorem T_X12_best_b123 {X : CT} (C : CX X 154 cX12_best 8 RX12 (some .int) 6 141) {r0 : Int32} {h0 : PH} {N : Nat} {rc66 : Int32 → Int32 → Int32 → Int32 → Int32 → Int32 → PH → Option (Int32 × PH)} (hr66 : ∀ (x1 : Int32) (x2 : Int32) (x3 : Int32) (x4 : Int32) (x5 : Int32) (x6 : Int32) (h : PH), rc66 x1 x2 x3 x4 x5 x6 h = some (r0, h0) → V X (QI X r0 h0) h 66 [some (.ref 103), some (.int x1), some (.int x2), some (.int x3), some (.int x4), some (.int x5), some (.int x6), none] []) : ∀ (x1 : Int32) (x2 : Int32) (x3 : Int32) (x4 : Int32) (x5 : Int32) (x6 : Int32) (h : PH), F_X12_best_b123 N rc66 x1 x2 x3 x4 x5 x6 h = some (r0, h0) → V X (QI X r0 h0) h 123 [some (.ref 103), some (.int x1), some (.int x2), some (.int x3), some (.int x4), some (.int x5), some (.int x6), none] [] := by
  intro x1 x2 x3 x4 x5 x6 h hyp
  unfold F_X12_best_b123 at hyp
  obtain ⟨v1, ev1, hyp⟩ := ib_n hyp
  refine V_iinc (pc := 123) C dX12_best_123 (v := v1) rfl (by rw [ev1]; rfl) (by decide) rfl ?_
  refine V_goto (pc := 126) C dX12_best_126 (tgt := 66) (by decide) ?_
  refine V_weak (lv' := [some (.ref 103), some (.int x1), some (.int x2), some (.int x3), some (.int x4), some (.int x5), some (.int v1), none]) (lvle_s (lvle_s (lvle_s (lvle_s (lvle_s (lvle_s (lvle_s (lvle_n lvle_0)))))))) ?_
  exact hr66 x1 x2 x3 x4 x5 v1 h hyp
def F_X12_best_b116 (N : Nat) (rc66 : Int32 → Int32 → Int32 → Int32 → Int32 → Int32 → PH → Option (Int32 × PH)) (x1 : Int32) (x2 : Int32) (x5 : Int32) (x6 : Int32) (x7 : Int32) (h : PH) : Option (Int32 × PH) :=
  F_X12_best_b123 N rc66 x1 x2 x7 x6 x5 x6 h
set_option maxRecDepth 20000 in
set_option maxHeartbeats 4000000 in
theorem T_X12_best_b116 {X : CT} (C : CX X 154 cX12_best 8 RX12 (some .int) 6 141) {r0 : Int32} {h0 : PH} {N : Nat} {rc66 : Int32 → Int32 → Int32 → Int32 → Int32 → Int32 → PH → Option (Int32 × PH)} (hr66 : ∀ (x1 : Int32) (x2 : Int32) (x3 : Int32) (x4 : Int32) (x5 : Int32) (x6 : Int32) (h : PH), rc66 x1 x2 x3 x4 x5 x6 h = some (r0, h0) → V X (QI X r0 h0) h 66 [some (.ref 103), some (.int x1), some (.int x2), some (.int x3), some (.int x4), some (.int x5), some (.int x6), none] []) : ∀ (x1 : Int32) (x2 : Int32) (x5 : Int32) (x6 : Int32) (x7 : Int32) (h : PH), F_X12_best_b116 N rc66 x1 x2 x5 x6 x7 h = some (r0, h0) → V X (QI X r0 h0) h 116 [some (.ref 103), some (.int x1), some (.int x2), none, none, some (.int x5), some (.int x6), some (.int x7)] [] := by
  intro x1 x2 x5 x6 x7 h hyp
  unfold F_X12_best_b116 at hyp
  refine V_iload (pc := 116) C dX12_best_116 rfl ?_
  refine V_istore_n (pc := 118) C dX12_best_118 (by decide) rfl ?_
  refine V_iload (pc := 119) C dX12_best_119 rfl ?_
  refine V_istore (pc := 121) C dX12_best_121 (by decide) rfl ?_
  refine V_weak (lv' := [some (.ref 103), some (.int x1), some (.int x2), some (.int x7), some (.int x6), some (.int x5), some (.int x6), none]) (lvle_s (lvle_s (lvle_s (lvle_s (lvle_s (lvle_s (lvle_s (lvle_n lvle_0)))))))) ?_
  exact (T_X12_best_b123 C hr66) x1 x2 x7 x6 x5 x6 h hyp
def F_X12_best_b96 (N : Nat) (rc66 : Int32 → Int32 → Int32 → Int32 → Int32 → Int32 → PH → Option (Int32 × PH)) (x1 : Int32) (x2 : Int32) (x3 : Int32) (x4 : Int32) (x5 : Int32) (x6 : Int32) (s0 : Int32) (h : PH) : Option (Int32 × PH) :=
  if s0 < 0 then
    F_X12_best_b123 N rc66 x1 x2 x3 x4 x5 x6 h
  else
    if x3 < 0 then
      F_X12_best_b116 N rc66 x1 x2 x5 x6 s0 h
    else
      if s0 < x3 then
        F_X12_best_b116 N rc66 x1 x2 x5 x6 s0 h
      else
        F_X12_best_b123 N rc66 x1 x2 x3 x4 x5 x6 h
set_option maxRecDepth 20000 in
set_option maxHeartbeats 4000000 in
theorem T_X12_best_b96 {X : CT} (C : CX X 154 cX12_best 8 RX12 (some .int) 6 141) {r0 : Int32} {h0 : PH} {N : Nat} {rc66 : Int32 → Int32 → Int32 → Int32 → Int32 → Int32 → PH → Option (Int32 × PH)} (hr66 : ∀ (x1 : Int32) (x2 : Int32) (x3 : Int32) (x4 : Int32) (x5 : Int32) (x6 : Int32) (h : PH), rc66 x1 x2 x3 x4 x5 x6 h = some (r0, h0) → V X (QI X r0 h0) h 66 [some (.ref 103), some (.int x1), some (.int x2), some (.int x3), some (.int x4), some (.int x5), some (.int x6), none] []) : ∀ (x1 : Int32) (x2 : Int32) (x3 : Int32) (x4 : Int32) (x5 : Int32) (x6 : Int32) (s0 : Int32) (h : PH), F_X12_best_b96 N rc66 x1 x2 x3 x4 x5 x6 s0 h = some (r0, h0) → V X (QI X r0 h0) h 96 [some (.ref 103), some (.int x1), some (.int x2), some (.int x3), some (.int x4), some (.int x5), some (.int x6), none] [.int s0] := by
  intro x1 x2 x3 x4 x5 x6 s0 h hyp
  unfold F_X12_best_b96 at hyp
  refine V_istore (pc := 96) C dX12_best_96 (by decide) rfl ?_
  refine V_iload (pc := 98) C dX12_best_98 rfl ?_
  refine V_if_lt (pc := 100) C dX12_best_100 (tgt := 123) (by decide) (fun q1 => ?_) (fun q1 => ?_)
  · replace hyp := (if_pos q1).symm.trans hyp
    refine V_weak (lv' := [some (.ref 103), some (.int x1), some (.int x2), some (.int x3), some (.int x4), some (.int x5), some (.int x6), none]) (lvle_s (lvle_s (lvle_s (lvle_s (lvle_s (lvle_s (lvle_s (lvle_n lvle_0)))))))) ?_
    exact (T_X12_best_b123 C hr66) x1 x2 x3 x4 x5 x6 h hyp
  · replace hyp := (if_neg q1).symm.trans hyp
    refine V_iload_n (pc := 103) C dX12_best_103 rfl ?_
    refine V_if_lt (pc := 104) C dX12_best_104 (tgt := 116) (by decide) (fun q2 => ?_) (fun q2 => ?_)
    · replace hyp := (if_pos q2).symm.trans hyp
      refine V_weak (lv' := [some (.ref 103), some (.int x1), some (.int x2), none, none, some (.int x5), some (.int x6), some (.int s0)]) (lvle_s (lvle_s (lvle_s (lvle_n (lvle_n (lvle_s (lvle_s (lvle_s lvle_0)))))))) ?_
      exact (T_X12_best_b116 C hr66) x1 x2 x5 x6 s0 h hyp
    · replace hyp := (if_neg q2).symm.trans hyp
      refine V_iload (pc := 107) C dX12_best_107 rfl ?_
      refine V_iload_n (pc := 109) C dX12_best_109 rfl ?_
      refine V_icmp_lt (pc := 110) C dX12_best_110 (tgt := 116) (by decide) (fun q3 => ?_) (fun q3 => ?_)
      · replace hyp := (if_pos q3).symm.trans hyp
        refine V_weak (lv' := [some (.ref 103), some (.int x1), some (.int x2), none, none, some (.int x5), some (.int x6), some (.int s0)]) (lvle_s (lvle_s (lvle_s (lvle_n (lvle_n (lvle_s (lvle_s (lvle_s lvle_0)))))))) ?_
        exact (T_X12_best_b116 C hr66) x1 x2 x5 x6 s0 h hyp
      · replace hyp := (if_neg q3).symm.trans hyp
        refine V_goto (pc := 113) C dX12_best_113 (tgt := 123) (by decide) ?_
        refine V_weak (lv' := [some (.ref 103), some (.int x1), some (.int x2), some (.int x3), some (.int x4), some (.int x5), some (.int x6), none]) (lvle_s (lvle_s (lvle_s (lvle_s (lvle_s (lvle_s (lvle_s (lvle_n lvle_0)))))))) ?_
        exact (T_X12_best_b123 C hr66) x1 x2 x3 x4 x5 x6 h hyp
def F_X12_best_b129 (N : Nat) (x2 : Int32) (x3 : Int32) (x4 : Int32) (h : PH) : Option (Int32 × PH) :=
  if x2 = 0 then
    some (x3, h)
  else
    some (x4, h)
set_option maxRecDepth 20000 in
set_option maxHeartbeats 4000000 in
theorem T_X12_best_b129 {X : CT} (C : CX X 154 cX12_best 8 RX12 (some .int) 6 141) {r0 : Int32} {h0 : PH} {N : Nat} : ∀ (x2 : Int32) (x3 : Int32) (x4 : Int32) (h : PH), F_X12_best_b129 N x2 x3 x4 h = some (r0, h0) → V X (QI X r0 h0) h 129 [none, none, some (.int x2), some (.int x3), some (.int x4), none, none, none] [] := by
  intro x2 x3 x4 h hyp
  unfold F_X12_best_b129 at hyp
  refine V_iload_n (pc := 129) C dX12_best_129 rfl ?_
  refine V_if_ne (pc := 130) C dX12_best_130 (tgt := 137) (by decide) (fun q1 => ?_) (fun q1 => ?_)
  · replace hyp := (if_neg q1).symm.trans hyp
    refine V_iload (pc := 137) C dX12_best_137 rfl ?_
    cases hyp
    exact V_iret C dX12_best_139
  · replace hyp := (if_pos q1).symm.trans hyp
    refine V_iload_n (pc := 133) C dX12_best_133 rfl ?_
    refine V_goto (pc := 134) C dX12_best_134 (tgt := 139) (by decide) ?_
    cases hyp
    exact V_iret C dX12_best_139
def F_X12_best_b66 (N : Nat) : Nat → Int32 → Int32 → Int32 → Int32 → Int32 → Int32 → PH → Option (Int32 × PH)
  | 0, _, _, _, _, _, _, _ => none
  | n + 1, x1, x2, x3, x4, x5, x6, h =>
    if x5 ≤ x6 then
      F_X12_best_b129 N x2 x3 x4 h
    else
      bV (F_X12_runs N x6 h) fun h3 =>
      if x1 = (2 : Int32) then
        F_X12_best_b96 N (F_X12_best_b66 N n) x1 x2 x3 x4 x5 x6 (h3.1 103 74) h3
      else
        bI (F_X12_waitsBy N x1 h3) fun r5 h6 =>
        F_X12_best_b96 N (F_X12_best_b66 N n) x1 x2 x3 x4 x5 x6 r5 h6
set_option maxRecDepth 20000 in
set_option maxHeartbeats 4000000 in
theorem T_X12_best_b66 {X : CT} (C : CX X 154 cX12_best 8 RX12 (some .int) 6 141) {r0 : Int32} {h0 : PH} {N : Nat} : ∀ (n : Nat) (x1 : Int32) (x2 : Int32) (x3 : Int32) (x4 : Int32) (x5 : Int32) (x6 : Int32) (h : PH), F_X12_best_b66 N n x1 x2 x3 x4 x5 x6 h = some (r0, h0) → V X (QI X r0 h0) h 66 [some (.ref 103), some (.int x1), some (.int x2), some (.int x3), some (.int x4), some (.int x5), some (.int x6), none] [] := by
  intro n
  induction n with
  | zero =>
    intro x1 x2 x3 x4 x5 x6 h hyp
    cases hyp
  | succ n ih =>
    intro x1 x2 x3 x4 x5 x6 h hyp
    unfold F_X12_best_b66 at hyp
    refine V_iload (pc := 66) C dX12_best_66 rfl ?_
    refine V_iload (pc := 68) C dX12_best_68 rfl ?_
    refine V_icmp_ge (pc := 70) C dX12_best_70 (tgt := 129) (by decide) (fun q1 => ?_) (fun q1 => ?_)
    · replace hyp := (if_pos q1).symm.trans hyp
      refine V_weak (lv' := [none, none, some (.int x2), some (.int x3), some (.int x4), none, none, none]) (lvle_n (lvle_n (lvle_s (lvle_s (lvle_s (lvle_n (lvle_n (lvle_n lvle_0)))))))) ?_
      exact (T_X12_best_b129 C) x2 x3 x4 h hyp
    · replace hyp := (if_neg q1).symm.trans hyp
      refine V_aload_n (pc := 73) C dX12_best_73 rfl ?_
      refine V_iload (pc := 74) C dX12_best_74 rfl ?_
      obtain ⟨h3, eh3, hyp⟩ := bV_n hyp
      refine V_callV (pc := 76) C dX12_best_76 lm_X12_479 mk_X12_runs ok_103 rfl (M_X12_runs _ eh3) rfl pd_X12_runs (by decide) (by decide) (by decide) (As := [.int x6]) (rest := []) rfl (Nat.le_of_ble_eq_true rfl) ?_
      refine V_iload_n (pc := 79) C dX12_best_79 rfl ?_
      refine V_iconst (pc := 80) C dX12_best_80 (v := 2) (by decide) ?_
      refine V_icmp_ne (pc := 81) C dX12_best_81 (tgt := 91) (by decide) (fun q4 => ?_) (fun q4 => ?_)
      · replace hyp := (if_neg q4).symm.trans hyp
        refine V_aload_n (pc := 91) C dX12_best_91 rfl ?_
        refine V_iload_n (pc := 92) C dX12_best_92 rfl ?_
        obtain ⟨r5, h6, eh6, hyp⟩ := bI_n hyp
        refine V_callI (pc := 93) C dX12_best_93 lm_X12_485 mk_X12_waitsBy ok_103 rfl (M_X12_waitsBy _ eh6) rfl pd_X12_waitsBy (by decide) (by decide) (by decide) (As := [.int x1]) (rest := []) rfl (Nat.le_of_ble_eq_true rfl) ?_
        refine V_weak (lv' := [some (.ref 103), some (.int x1), some (.int x2), some (.int x3), some (.int x4), some (.int x5), some (.int x6), none]) (lvle_s (lvle_s (lvle_s (lvle_s (lvle_s (lvle_s (lvle_s (lvle_n lvle_0)))))))) ?_
        exact (T_X12_best_b96 C ih) x1 x2 x3 x4 x5 x6 r5 h6 hyp
      · replace hyp := (if_pos q4).symm.trans hyp
        refine V_aload_n (pc := 84) C dX12_best_84 rfl ?_
        refine V_getI (pc := 85) C dX12_best_85 lf_X12_467 fk_103_74 ?_
        refine V_goto (pc := 88) C dX12_best_88 (tgt := 96) (by decide) ?_
        refine V_weak (lv' := [some (.ref 103), some (.int x1), some (.int x2), some (.int x3), some (.int x4), some (.int x5), some (.int x6), none]) (lvle_s (lvle_s (lvle_s (lvle_s (lvle_s (lvle_s (lvle_s (lvle_n lvle_0)))))))) ?_
        exact (T_X12_best_b96 C ih) x1 x2 x3 x4 x5 x6 (h3.1 103 74) h3 hyp
def F_X12_best_b61 (N : Nat) (x1 : Int32) (x2 : Int32) (x3 : Int32) (x4 : Int32) (s0 : Int32) (h : PH) : Option (Int32 × PH) :=
  F_X12_best_b66 N N x1 x2 x3 x4 s0 (0 : Int32) h
set_option maxRecDepth 20000 in
set_option maxHeartbeats 4000000 in
theorem T_X12_best_b61 {X : CT} (C : CX X 154 cX12_best 8 RX12 (some .int) 6 141) {r0 : Int32} {h0 : PH} {N : Nat} : ∀ (x1 : Int32) (x2 : Int32) (x3 : Int32) (x4 : Int32) (s0 : Int32) (h : PH), F_X12_best_b61 N x1 x2 x3 x4 s0 h = some (r0, h0) → V X (QI X r0 h0) h 61 [some (.ref 103), some (.int x1), some (.int x2), some (.int x3), some (.int x4), none, none, none] [.int s0] := by
  intro x1 x2 x3 x4 s0 h hyp
  unfold F_X12_best_b61 at hyp
  refine V_istore (pc := 61) C dX12_best_61 (by decide) rfl ?_
  refine V_iconst (pc := 63) C dX12_best_63 (v := 0) (by decide) ?_
  refine V_istore (pc := 64) C dX12_best_64 (by decide) rfl ?_
  refine V_weak (lv' := [some (.ref 103), some (.int x1), some (.int x2), some (.int x3), some (.int x4), some (.int s0), some (.int (0 : Int32)), none]) (lvle_s (lvle_s (lvle_s (lvle_s (lvle_s (lvle_s (lvle_s (lvle_n lvle_0)))))))) ?_
  exact (T_X12_best_b66 C) N x1 x2 x3 x4 s0 (0 : Int32) h hyp
def F_X12_best (N : Nat) (a1 : Int32) (a2 : Int32) (h : PH) : Option (Int32 × PH) :=
  hb (hs h 103 0 (0 : Int32)) fun h1 =>
  bI (F_X12_within (h1.1 103 57) (1 : Int32) (8 : Int32) h1) fun r2 h3 =>
  if r2 = 0 then
    some ((-1 : Int32), h3)
  else
    bI (F_X12_within a1 (0 : Int32) (2 : Int32) h3) fun r5 h6 =>
    if r5 = 0 then
      some ((-1 : Int32), h6)
    else
      bI (F_X12_within a2 (0 : Int32) (1 : Int32) h6) fun r8 h9 =>
      if r8 = 0 then
        some ((-1 : Int32), h9)
      else
        if (h9.1 103 53) = (1 : Int32) then
          F_X12_best_b61 N a1 a2 (-1 : Int32) (-1 : Int32) (1 : Int32) h9
        else
          F_X12_best_b61 N a1 a2 (-1 : Int32) (-1 : Int32) ((1 : Int32) <<< ((h9.1 103 57) &&& 31)) h9
set_option maxRecDepth 20000 in
set_option maxHeartbeats 4000000 in
theorem M_X12_best (E : EV) {N : Nat} {a1 : Int32} {a2 : Int32} {r : Int32} {h h2 : PH} (hyp : F_X12_best N a1 a2 h = some (r, h2)) : MI E 154 yX12_best cX12_best 8 (some .int) 6 141 [.ref 103, .int a1, .int a2] h r h2 := by
  refine MI.of 5 (by decide) rfl (fun X e1 C => ?_)
  subst e1
  replace C : CX X 154 cX12_best 8 RX12 (some .int) 6 141 := C
  show V X _ h 0 [some (.ref 103), some (.int a1), some (.int a2), none, none, none, none, none] []
  unfold F_X12_best at hyp
  refine V_aload_n (pc := 0) C dX12_best_0 rfl ?_
  refine V_iconst (pc := 1) C dX12_best_1 (v := 0) (by decide) ?_
  obtain ⟨h1, eh1, hyp⟩ := hb_n hyp
  refine V_putI (pc := 2) C dX12_best_2 lf_X12_180 fk_103_0 rfl rfl eh1 ?_
  refine V_aload_n (pc := 5) C dX12_best_5 rfl ?_
  refine V_getI (pc := 6) C dX12_best_6 lf_X12_424 fk_103_57 ?_
  refine V_iconst (pc := 9) C dX12_best_9 (v := 1) (by decide) ?_
  refine V_bipush (pc := 10) C dX12_best_10 (v := 8) (by decide) ?_
  obtain ⟨r2, h3, eh3, hyp⟩ := bI_n hyp
  refine V_statI (pc := 12) C dX12_best_12 lm_X12_183 ms_X12_within (M_X12_within _ eh3) rfl pd_X12_within (by decide) (by decide) (by decide) (As := [.int (h1.1 103 57), .int (1 : Int32), .int (8 : Int32)]) (rest := []) rfl (Nat.le_of_ble_eq_true rfl) ?_
  refine V_if_eq (pc := 15) C dX12_best_15 (tgt := 36) (by decide) (fun q4 => ?_) (fun q4 => ?_)
  · replace hyp := (if_pos q4).symm.trans hyp
    refine V_iconst (pc := 36) C dX12_best_36 (v := -1) (by decide) ?_
    cases hyp
    exact V_iret C dX12_best_37
  · replace hyp := (if_neg q4).symm.trans hyp
    refine V_iload_n (pc := 18) C dX12_best_18 rfl ?_
    refine V_iconst (pc := 19) C dX12_best_19 (v := 0) (by decide) ?_
    refine V_iconst (pc := 20) C dX12_best_20 (v := 2) (by decide) ?_
    obtain ⟨r5, h6, eh6, hyp⟩ := bI_n hyp
    refine V_statI (pc := 21) C dX12_best_21 lm_X12_183 ms_X12_within (M_X12_within _ eh6) rfl pd_X12_within (by decide) (by decide) (by decide) (As := [.int a1, .int (0 : Int32), .int (2 : Int32)]) (rest := []) rfl (Nat.le_of_ble_eq_true rfl) ?_
    refine V_if_eq (pc := 24) C dX12_best_24 (tgt := 36) (by decide) (fun q7 => ?_) (fun q7 => ?_)
    · replace hyp := (if_pos q7).symm.trans hyp
      refine V_iconst (pc := 36) C dX12_best_36 (v := -1) (by decide) ?_
      cases hyp
      exact V_iret C dX12_best_37
    · replace hyp := (if_neg q7).symm.trans hyp
      refine V_iload_n (pc := 27) C dX12_best_27 rfl ?_
      refine V_iconst (pc := 28) C dX12_best_28 (v := 0) (by decide) ?_
      refine V_iconst (pc := 29) C dX12_best_29 (v := 1) (by decide) ?_
      obtain ⟨r8, h9, eh9, hyp⟩ := bI_n hyp
      refine V_statI (pc := 30) C dX12_best_30 lm_X12_183 ms_X12_within (M_X12_within _ eh9) rfl pd_X12_within (by decide) (by decide) (by decide) (As := [.int a2, .int (0 : Int32), .int (1 : Int32)]) (rest := []) rfl (Nat.le_of_ble_eq_true rfl) ?_
      refine V_if_ne (pc := 33) C dX12_best_33 (tgt := 38) (by decide) (fun q10 => ?_) (fun q10 => ?_)
      · replace hyp := (if_neg q10).symm.trans hyp
        refine V_iconst (pc := 38) C dX12_best_38 (v := -1) (by decide) ?_
        refine V_istore_n (pc := 39) C dX12_best_39 (by decide) rfl ?_
        refine V_iconst (pc := 40) C dX12_best_40 (v := -1) (by decide) ?_
        refine V_istore (pc := 41) C dX12_best_41 (by decide) rfl ?_
        refine V_aload_n (pc := 43) C dX12_best_43 rfl ?_
        refine V_getI (pc := 44) C dX12_best_44 lf_X12_111 fk_103_53 ?_
        refine V_iconst (pc := 47) C dX12_best_47 (v := 1) (by decide) ?_
        refine V_icmp_ne (pc := 48) C dX12_best_48 (tgt := 55) (by decide) (fun q11 => ?_) (fun q11 => ?_)
        · replace hyp := (if_neg q11).symm.trans hyp
          refine V_iconst (pc := 55) C dX12_best_55 (v := 1) (by decide) ?_
          refine V_aload_n (pc := 56) C dX12_best_56 rfl ?_
          refine V_getI (pc := 57) C dX12_best_57 lf_X12_424 fk_103_57 ?_
          refine V_ishl (pc := 60) C dX12_best_60 ?_
          refine V_weak (lv' := [some (.ref 103), some (.int a1), some (.int a2), some (.int (-1 : Int32)), some (.int (-1 : Int32)), none, none, none]) (lvle_s (lvle_s (lvle_s (lvle_s (lvle_s (lvle_n (lvle_n (lvle_n lvle_0)))))))) ?_
          exact (T_X12_best_b61 C) a1 a2 (-1 : Int32) (-1 : Int32) ((1 : Int32) <<< ((h9.1 103 57) &&& 31)) h9 hyp
        · replace hyp := (if_pos q11).symm.trans hyp
          refine V_iconst (pc := 51) C dX12_best_51 (v := 1) (by decide) ?_
          refine V_goto (pc := 52) C dX12_best_52 (tgt := 61) (by decide) ?_
          refine V_weak (lv' := [some (.ref 103), some (.int a1), some (.int a2), some (.int (-1 : Int32)), some (.int (-1 : Int32)), none, none, none]) (lvle_s (lvle_s (lvle_s (lvle_s (lvle_s (lvle_n (lvle_n (lvle_n lvle_0)))))))) ?_
          exact (T_X12_best_b61 C) a1 a2 (-1 : Int32) (-1 : Int32) (1 : Int32) h9 hyp
      · replace hyp := (if_pos q10).symm.trans hyp
        refine V_iconst (pc := 36) C dX12_best_36 (v := -1) (by decide) ?_
        cases hyp
        exact V_iret C dX12_best_37
