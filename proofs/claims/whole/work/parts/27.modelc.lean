theorem dX12_tests_0 : decode cX12_tests 0 = .ok (.aload_n 0, 1) := by decide +kernel
theorem dX12_tests_1 : decode cX12_tests 1 = .ok (.iconst 0, 1) := by decide +kernel
theorem dX12_tests_2 : decode cX12_tests 2 = .ok (.putfield 180, 3) := by decide +kernel
theorem dX12_tests_5 : decode cX12_tests 5 = .ok (.aload_n 0, 1) := by decide +kernel
theorem dX12_tests_6 : decode cX12_tests 6 = .ok (.getfield 197, 3) := by decide +kernel
theorem dX12_tests_9 : decode cX12_tests 9 = .ok (.ifCond .eq 21, 3) := by decide +kernel
theorem dX12_tests_12 : decode cX12_tests 12 = .ok (.aload_n 0, 1) := by decide +kernel
theorem dX12_tests_13 : decode cX12_tests 13 = .ok (.getfield 99, 3) := by decide +kernel
theorem dX12_tests_16 : decode cX12_tests 16 = .ok (.iconst 0, 1) := by decide +kernel
theorem dX12_tests_17 : decode cX12_tests 17 = .ok (.iaload, 1) := by decide +kernel
theorem dX12_tests_18 : decode cX12_tests 18 = .ok (.ifCond .eq 12, 3) := by decide +kernel
theorem dX12_tests_21 : decode cX12_tests 21 = .ok (.iload_n 1, 1) := by decide +kernel
theorem dX12_tests_22 : decode cX12_tests 22 = .ok (.iconst 0, 1) := by decide +kernel
theorem dX12_tests_23 : decode cX12_tests 23 = .ok (.iconst 1, 1) := by decide +kernel
theorem dX12_tests_24 : decode cX12_tests 24 = .ok (.invokestatic 183, 3) := by decide +kernel
theorem dX12_tests_27 : decode cX12_tests 27 = .ok (.ifCond .ne 5, 3) := by decide +kernel
theorem dX12_tests_30 : decode cX12_tests 30 = .ok (.iconst (-1), 1) := by decide +kernel
theorem dX12_tests_31 : decode cX12_tests 31 = .ok (.ireturn, 1) := by decide +kernel
theorem dX12_tests_32 : decode cX12_tests 32 = .ok (.aload_n 0, 1) := by decide +kernel
theorem dX12_tests_33 : decode cX12_tests 33 = .ok (.invokevirtual 393, 3) := by decide +kernel
theorem dX12_tests_36 : decode cX12_tests 36 = .ok (.aload_n 0, 1) := by decide +kernel
theorem dX12_tests_37 : decode cX12_tests 37 = .ok (.iconst 0, 1) := by decide +kernel
theorem dX12_tests_38 : decode cX12_tests 38 = .ok (.invokevirtual 418, 3) := by decide +kernel
theorem dX12_tests_41 : decode cX12_tests 41 = .ok (.ifCond .eq 13, 3) := by decide +kernel
theorem dX12_tests_44 : decode cX12_tests 44 = .ok (.iload_n 1, 1) := by decide +kernel
theorem dX12_tests_45 : decode cX12_tests 45 = .ok (.ifCond .ne 7, 3) := by decide +kernel
theorem dX12_tests_48 : decode cX12_tests 48 = .ok (.iconst 0, 1) := by decide +kernel
theorem dX12_tests_49 : decode cX12_tests 49 = .ok (.goto 4, 3) := by decide +kernel
theorem dX12_tests_52 : decode cX12_tests 52 = .ok (.iconst (-1), 1) := by decide +kernel
theorem dX12_tests_53 : decode cX12_tests 53 = .ok (.ireturn, 1) := by decide +kernel
theorem dX12_tests_54 : decode cX12_tests 54 = .ok (.iconst 1, 1) := by decide +kernel
theorem dX12_tests_55 : decode cX12_tests 55 = .ok (.istore_n 2, 1) := by decide +kernel
theorem dX12_tests_56 : decode cX12_tests 56 = .ok (.iload_n 2, 1) := by decide +kernel
theorem dX12_tests_57 : decode cX12_tests 57 = .ok (.iconst 4, 1) := by decide +kernel
theorem dX12_tests_58 : decode cX12_tests 58 = .ok (.if_icmp .ge 49, 3) := by decide +kernel
theorem dX12_tests_61 : decode cX12_tests 61 = .ok (.iconst (-1), 1) := by decide +kernel
theorem dX12_tests_62 : decode cX12_tests 62 = .ok (.istore_n 3, 1) := by decide +kernel
theorem dX12_tests_63 : decode cX12_tests 63 = .ok (.iload_n 3, 1) := by decide +kernel
theorem dX12_tests_64 : decode cX12_tests 64 = .ok (.aload_n 0, 1) := by decide +kernel
theorem dX12_tests_65 : decode cX12_tests 65 = .ok (.getfield 7, 3) := by decide +kernel
theorem dX12_tests_68 : decode cX12_tests 68 = .ok (.if_icmp .ge 33, 3) := by decide +kernel
theorem dX12_tests_71 : decode cX12_tests 71 = .ok (.aload_n 0, 1) := by decide +kernel
theorem dX12_tests_72 : decode cX12_tests 72 = .ok (.iconst 0, 1) := by decide +kernel
theorem dX12_tests_73 : decode cX12_tests 73 = .ok (.iload_n 3, 1) := by decide +kernel
theorem dX12_tests_74 : decode cX12_tests 74 = .ok (.iload_n 2, 1) := by decide +kernel
theorem dX12_tests_75 : decode cX12_tests 75 = .ok (.iconst 1, 1) := by decide +kernel
theorem dX12_tests_76 : decode cX12_tests 76 = .ok (.isub, 1) := by decide +kernel
theorem dX12_tests_77 : decode cX12_tests 77 = .ok (.invokevirtual 421, 3) := by decide +kernel
theorem dX12_tests_80 : decode cX12_tests 80 = .ok (.ifCond .eq 15, 3) := by decide +kernel
theorem dX12_tests_83 : decode cX12_tests 83 = .ok (.iload_n 1, 1) := by decide +kernel
theorem dX12_tests_84 : decode cX12_tests 84 = .ok (.ifCond .ne 7, 3) := by decide +kernel
theorem dX12_tests_87 : decode cX12_tests 87 = .ok (.iload_n 2, 1) := by decide +kernel
theorem dX12_tests_88 : decode cX12_tests 88 = .ok (.goto 6, 3) := by decide +kernel
theorem dX12_tests_91 : decode cX12_tests 91 = .ok (.iconst 1, 1) := by decide +kernel
theorem dX12_tests_92 : decode cX12_tests 92 = .ok (.iload_n 3, 1) := by decide +kernel
theorem dX12_tests_93 : decode cX12_tests 93 = .ok (.iadd, 1) := by decide +kernel
theorem dX12_tests_94 : decode cX12_tests 94 = .ok (.ireturn, 1) := by decide +kernel
theorem dX12_tests_95 : decode cX12_tests 95 = .ok (.iinc 3 1, 3) := by decide +kernel
theorem dX12_tests_98 : decode cX12_tests 98 = .ok (.goto (-35), 3) := by decide +kernel
theorem dX12_tests_101 : decode cX12_tests 101 = .ok (.iinc 2 1, 3) := by decide +kernel
theorem dX12_tests_104 : decode cX12_tests 104 = .ok (.goto (-48), 3) := by decide +kernel
theorem dX12_tests_107 : decode cX12_tests 107 = .ok (.iconst (-1), 1) := by decide +kernel
theorem dX12_tests_108 : decode cX12_tests 108 = .ok (.ireturn, 1) := by decide +kernel
def F_X12_tests_b83 (N : Nat) (x1 : Int32) (x2 : Int32) (x3 : Int32) (h : PH) : Option (Int32 × PH) :=
  if x1 = 0 then
    some (x2, h)
  else
    some ((1 : Int32) + x3, h)
set_option maxRecDepth 20000 in
set_option maxHeartbeats 4000000 in
theorem T_X12_tests_b83 {X : CT} (C : CX X 154 cX12_tests 4 RX12 (some .int) 25 682) {r0 : Int32} {h0 : PH} {N : Nat} : ∀ (x1 : Int32) (x2 : Int32) (x3 : Int32) (h : PH), F_X12_tests_b83 N x1 x2 x3 h = some (r0, h0) → V X (QI X r0 h0) h 83 [none, some (.int x1), some (.int x2), some (.int x3)] [] := by
  intro x1 x2 x3 h hyp
  unfold F_X12_tests_b83 at hyp
  refine V_iload_n (pc := 83) C dX12_tests_83 rfl ?_
  refine V_if_ne (pc := 84) C dX12_tests_84 (tgt := 91) (by decide) (fun q1 => ?_) (fun q1 => ?_)
  · replace hyp := (if_neg q1).symm.trans hyp
    refine V_iconst (pc := 91) C dX12_tests_91 (v := 1) (by decide) ?_
    refine V_iload_n (pc := 92) C dX12_tests_92 rfl ?_
    refine V_iadd (pc := 93) C dX12_tests_93 ?_
    cases hyp
    exact V_iret C dX12_tests_94
  · replace hyp := (if_pos q1).symm.trans hyp
    refine V_iload_n (pc := 87) C dX12_tests_87 rfl ?_
    refine V_goto (pc := 88) C dX12_tests_88 (tgt := 94) (by decide) ?_
    cases hyp
    exact V_iret C dX12_tests_94
def F_X12_tests_b101 (N : Nat) (rc56 : Int32 → Int32 → PH → Option (Int32 × PH)) (x1 : Int32) (x2 : Int32) (h : PH) : Option (Int32 × PH) :=
  ib (x2 + (1 : Int32)) fun v1 =>
  rc56 x1 v1 h
set_option maxRecDepth 20000 in
set_option maxHeartbeats 4000000 in
theorem T_X12_tests_b101 {X : CT} (C : CX X 154 cX12_tests 4 RX12 (some .int) 25 682) {r0 : Int32} {h0 : PH} {N : Nat} {rc56 : Int32 → Int32 → PH → Option (Int32 × PH)} (hr56 : ∀ (x1 : Int32) (x2 : Int32) (h : PH), rc56 x1 x2 h = some (r0, h0) → V X (QI X r0 h0) h 56 [some (.ref 103), some (.int x1), some (.int x2), none] []) : ∀ (x1 : Int32) (x2 : Int32) (h : PH), F_X12_tests_b101 N rc56 x1 x2 h = some (r0, h0) → V X (QI X r0 h0) h 101 [some (.ref 103), some (.int x1), some (.int x2), none] [] := by
  intro x1 x2 h hyp
  unfold F_X12_tests_b101 at hyp
  obtain ⟨v1, ev1, hyp⟩ := ib_n hyp
  refine V_iinc (pc := 101) C dX12_tests_101 (v := v1) rfl (by rw [ev1]; rfl) (by decide) rfl ?_
  refine V_goto (pc := 104) C dX12_tests_104 (tgt := 56) (by decide) ?_
  refine V_weak (lv' := [some (.ref 103), some (.int x1), some (.int v1), none]) (lvle_s (lvle_s (lvle_s (lvle_n lvle_0)))) ?_
  exact hr56 x1 v1 h hyp
def F_X12_tests_b63 (N : Nat) (rc56 : Int32 → Int32 → PH → Option (Int32 × PH)) : Nat → Int32 → Int32 → Int32 → PH → Option (Int32 × PH)
  | 0, _, _, _, _ => none
  | n + 1, x1, x2, x3, h =>
    if (h.1 103 1) ≤ x3 then
      F_X12_tests_b101 N rc56 x1 x2 h
    else
      bI (G_X12_tells N (0 : Int32) x3 (x2 - (1 : Int32)) h) fun r2 h3 =>
      if r2 = 0 then
        ib (x3 + (1 : Int32)) fun v5 =>
        F_X12_tests_b63 N rc56 n x1 x2 v5 h3
      else
        F_X12_tests_b83 N x1 x2 x3 h3
set_option maxRecDepth 20000 in
set_option maxHeartbeats 4000000 in
theorem T_X12_tests_b63 {X : CT} (C : CX X 154 cX12_tests 4 RX12 (some .int) 25 682) {r0 : Int32} {h0 : PH} {N : Nat} {rc56 : Int32 → Int32 → PH → Option (Int32 × PH)} (hr56 : ∀ (x1 : Int32) (x2 : Int32) (h : PH), rc56 x1 x2 h = some (r0, h0) → V X (QI X r0 h0) h 56 [some (.ref 103), some (.int x1), some (.int x2), none] []) : ∀ (n : Nat) (x1 : Int32) (x2 : Int32) (x3 : Int32) (h : PH), F_X12_tests_b63 N rc56 n x1 x2 x3 h = some (r0, h0) → V X (QI X r0 h0) h 63 [some (.ref 103), some (.int x1), some (.int x2), some (.int x3)] [] := by
  intro n
  induction n with
  | zero =>
    intro x1 x2 x3 h hyp
    cases hyp
  | succ n ih =>
    intro x1 x2 x3 h hyp
    unfold F_X12_tests_b63 at hyp
    refine V_iload_n (pc := 63) C dX12_tests_63 rfl ?_
    refine V_aload_n (pc := 64) C dX12_tests_64 rfl ?_
    refine V_getI (pc := 65) C dX12_tests_65 lf_X12_7 fk_103_1 ?_
    refine V_icmp_ge (pc := 68) C dX12_tests_68 (tgt := 101) (by decide) (fun q1 => ?_) (fun q1 => ?_)
    · replace hyp := (if_pos q1).symm.trans hyp
      refine V_weak (lv' := [some (.ref 103), some (.int x1), some (.int x2), none]) (lvle_s (lvle_s (lvle_s (lvle_n lvle_0)))) ?_
      exact (T_X12_tests_b101 C hr56) x1 x2 h hyp
    · replace hyp := (if_neg q1).symm.trans hyp
      refine V_aload_n (pc := 71) C dX12_tests_71 rfl ?_
      refine V_iconst (pc := 72) C dX12_tests_72 (v := 0) (by decide) ?_
      refine V_iload_n (pc := 73) C dX12_tests_73 rfl ?_
      refine V_iload_n (pc := 74) C dX12_tests_74 rfl ?_
      refine V_iconst (pc := 75) C dX12_tests_75 (v := 1) (by decide) ?_
      refine V_isub (pc := 76) C dX12_tests_76 ?_
      obtain ⟨r2, h3, eh3, hyp⟩ := bI_n hyp
      refine V_callI (pc := 77) C dX12_tests_77 lm_X12_421 mk_X12_tells ok_103 rfl (MG_X12_tells _ eh3) rfl pd_X12_tells (by decide) (by decide) (by decide) (As := [.int (0 : Int32), .int x3, .int (x2 - (1 : Int32))]) (rest := []) rfl (Nat.le_of_ble_eq_true rfl) ?_
      refine V_if_eq (pc := 80) C dX12_tests_80 (tgt := 95) (by decide) (fun q4 => ?_) (fun q4 => ?_)
      · replace hyp := (if_pos q4).symm.trans hyp
        obtain ⟨v5, ev5, hyp⟩ := ib_n hyp
        refine V_iinc (pc := 95) C dX12_tests_95 (v := v5) rfl (by rw [ev5]; rfl) (by decide) rfl ?_
        refine V_goto (pc := 98) C dX12_tests_98 (tgt := 63) (by decide) ?_
        refine V_weak (lv' := [some (.ref 103), some (.int x1), some (.int x2), some (.int v5)]) (lvle_s (lvle_s (lvle_s (lvle_s lvle_0)))) ?_
        exact ih x1 x2 v5 h3 hyp
      · replace hyp := (if_neg q4).symm.trans hyp
        refine V_weak (lv' := [none, some (.int x1), some (.int x2), some (.int x3)]) (lvle_n (lvle_s (lvle_s (lvle_s lvle_0)))) ?_
        exact (T_X12_tests_b83 C) x1 x2 x3 h3 hyp
def F_X12_tests_b56 (N : Nat) : Nat → Int32 → Int32 → PH → Option (Int32 × PH)
  | 0, _, _, _ => none
  | n + 1, x1, x2, h =>
    if (4 : Int32) ≤ x2 then
      some ((-1 : Int32), h)
    else
      F_X12_tests_b63 N (F_X12_tests_b56 N n) N x1 x2 (-1 : Int32) h
set_option maxRecDepth 20000 in
set_option maxHeartbeats 4000000 in
theorem T_X12_tests_b56 {X : CT} (C : CX X 154 cX12_tests 4 RX12 (some .int) 25 682) {r0 : Int32} {h0 : PH} {N : Nat} : ∀ (n : Nat) (x1 : Int32) (x2 : Int32) (h : PH), F_X12_tests_b56 N n x1 x2 h = some (r0, h0) → V X (QI X r0 h0) h 56 [some (.ref 103), some (.int x1), some (.int x2), none] [] := by
  intro n
  induction n with
  | zero =>
    intro x1 x2 h hyp
    cases hyp
  | succ n ih =>
    intro x1 x2 h hyp
    unfold F_X12_tests_b56 at hyp
    refine V_iload_n (pc := 56) C dX12_tests_56 rfl ?_
    refine V_iconst (pc := 57) C dX12_tests_57 (v := 4) (by decide) ?_
    refine V_icmp_ge (pc := 58) C dX12_tests_58 (tgt := 107) (by decide) (fun q1 => ?_) (fun q1 => ?_)
    · replace hyp := (if_pos q1).symm.trans hyp
      refine V_iconst (pc := 107) C dX12_tests_107 (v := -1) (by decide) ?_
      cases hyp
      exact V_iret C dX12_tests_108
    · replace hyp := (if_neg q1).symm.trans hyp
      refine V_iconst (pc := 61) C dX12_tests_61 (v := -1) (by decide) ?_
      refine V_istore_n (pc := 62) C dX12_tests_62 (by decide) rfl ?_
      refine V_weak (lv' := [some (.ref 103), some (.int x1), some (.int x2), some (.int (-1 : Int32))]) (lvle_s (lvle_s (lvle_s (lvle_s lvle_0)))) ?_
      exact (T_X12_tests_b63 C ih) N x1 x2 (-1 : Int32) h hyp
def F_X12_tests (N : Nat) (a1 : Int32) (h : PH) : Option (Int32 × PH) :=
  hb (hs h 103 0 (0 : Int32)) fun h1 =>
  if (h1.1 103 46) = 0 then
    some ((-1 : Int32), h1)
  else
    if inb (0 : Int32) 4 = true then
    if (h1.1 132 (0 : Int32).toNatClampNeg) = 0 then
      some ((-1 : Int32), h1)
    else
      bI (F_X12_within a1 (0 : Int32) (1 : Int32) h1) fun r5 h6 =>
      if r5 = 0 then
        some ((-1 : Int32), h6)
      else
        bV (F_X12_goesThrough N  h6) fun h9 =>
        bI (F_X12_isOne N (0 : Int32) h9) fun r10 h11 =>
        if r10 = 0 then
          F_X12_tests_b56 N N a1 (1 : Int32) h11
        else
          if a1 = 0 then
            some ((0 : Int32), h11)
          else
            some ((-1 : Int32), h11)
    else none
set_option maxRecDepth 20000 in
set_option maxHeartbeats 4000000 in
theorem M_X12_tests (E : EV) {N : Nat} {a1 : Int32} {r : Int32} {h h2 : PH} (hyp : F_X12_tests N a1 h = some (r, h2)) : MI E 154 yX12_tests cX12_tests 4 (some .int) 25 682 [.ref 103, .int a1] h r h2 := by
  refine MI.of 2 (by decide) rfl (fun X e1 C => ?_)
  subst e1
  replace C : CX X 154 cX12_tests 4 RX12 (some .int) 25 682 := C
  show V X _ h 0 [some (.ref 103), some (.int a1), none, none] []
  unfold F_X12_tests at hyp
  refine V_aload_n (pc := 0) C dX12_tests_0 rfl ?_
  refine V_iconst (pc := 1) C dX12_tests_1 (v := 0) (by decide) ?_
  obtain ⟨h1, eh1, hyp⟩ := hb_n hyp
  refine V_putI (pc := 2) C dX12_tests_2 lf_X12_180 fk_103_0 rfl rfl eh1 ?_
  refine V_aload_n (pc := 5) C dX12_tests_5 rfl ?_
  refine V_getI (pc := 6) C dX12_tests_6 lf_X12_197 fk_103_46 ?_
  refine V_if_eq (pc := 9) C dX12_tests_9 (tgt := 30) (by decide) (fun q2 => ?_) (fun q2 => ?_)
  · replace hyp := (if_pos q2).symm.trans hyp
    refine V_iconst (pc := 30) C dX12_tests_30 (v := -1) (by decide) ?_
    cases hyp
    exact V_iret C dX12_tests_31
  · replace hyp := (if_neg q2).symm.trans hyp
    refine V_aload_n (pc := 12) C dX12_tests_12 rfl ?_
    refine V_getR (pc := 13) C dX12_tests_13 lf_X12_99 fk_103_48 ?_
    refine V_iconst (pc := 16) C dX12_tests_16 (v := 0) (by decide) ?_
    obtain ⟨g3, hyp⟩ := gd_n hyp
    refine V_iald (pc := 17) C dX12_tests_17 ak_132 g3 ?_
    refine V_if_eq (pc := 18) C dX12_tests_18 (tgt := 30) (by decide) (fun q4 => ?_) (fun q4 => ?_)
    · replace hyp := (if_pos q4).symm.trans hyp
      refine V_iconst (pc := 30) C dX12_tests_30 (v := -1) (by decide) ?_
      cases hyp
      exact V_iret C dX12_tests_31
    · replace hyp := (if_neg q4).symm.trans hyp
      refine V_iload_n (pc := 21) C dX12_tests_21 rfl ?_
      refine V_iconst (pc := 22) C dX12_tests_22 (v := 0) (by decide) ?_
      refine V_iconst (pc := 23) C dX12_tests_23 (v := 1) (by decide) ?_
      obtain ⟨r5, h6, eh6, hyp⟩ := bI_n hyp
      refine V_statI (pc := 24) C dX12_tests_24 lm_X12_183 ms_X12_within (M_X12_within _ eh6) rfl pd_X12_within (by decide) (by decide) (by decide) (As := [.int a1, .int (0 : Int32), .int (1 : Int32)]) (rest := []) rfl (Nat.le_of_ble_eq_true rfl) ?_
      refine V_if_ne (pc := 27) C dX12_tests_27 (tgt := 32) (by decide) (fun q7 => ?_) (fun q7 => ?_)
      · replace hyp := (if_neg q7).symm.trans hyp
        refine V_aload_n (pc := 32) C dX12_tests_32 rfl ?_
        obtain ⟨h9, eh9, hyp⟩ := bV_n hyp
        refine V_callV (pc := 33) C dX12_tests_33 lm_X12_393 mk_X12_goesThrough ok_103 rfl (M_X12_goesThrough _ eh9) rfl pd_X12_goesThrough (by decide) (by decide) (by decide) (As := []) (rest := []) rfl (Nat.le_of_ble_eq_true rfl) ?_
        refine V_aload_n (pc := 36) C dX12_tests_36 rfl ?_
        refine V_iconst (pc := 37) C dX12_tests_37 (v := 0) (by decide) ?_
        obtain ⟨r10, h11, eh11, hyp⟩ := bI_n hyp
        refine V_callI (pc := 38) C dX12_tests_38 lm_X12_418 mk_X12_isOne ok_103 rfl (M_X12_isOne _ eh11) rfl pd_X12_isOne (by decide) (by decide) (by decide) (As := [.int (0 : Int32)]) (rest := []) rfl (Nat.le_of_ble_eq_true rfl) ?_
        refine V_if_eq (pc := 41) C dX12_tests_41 (tgt := 54) (by decide) (fun q12 => ?_) (fun q12 => ?_)
        · replace hyp := (if_pos q12).symm.trans hyp
          refine V_iconst (pc := 54) C dX12_tests_54 (v := 1) (by decide) ?_
          refine V_istore_n (pc := 55) C dX12_tests_55 (by decide) rfl ?_
          refine V_weak (lv' := [some (.ref 103), some (.int a1), some (.int (1 : Int32)), none]) (lvle_s (lvle_s (lvle_s (lvle_n lvle_0)))) ?_
          exact (T_X12_tests_b56 C) N a1 (1 : Int32) h11 hyp
        · replace hyp := (if_neg q12).symm.trans hyp
          refine V_iload_n (pc := 44) C dX12_tests_44 rfl ?_
          refine V_if_ne (pc := 45) C dX12_tests_45 (tgt := 52) (by decide) (fun q13 => ?_) (fun q13 => ?_)
          · replace hyp := (if_neg q13).symm.trans hyp
            refine V_iconst (pc := 52) C dX12_tests_52 (v := -1) (by decide) ?_
            cases hyp
            exact V_iret C dX12_tests_53
          · replace hyp := (if_pos q13).symm.trans hyp
            refine V_iconst (pc := 48) C dX12_tests_48 (v := 0) (by decide) ?_
            refine V_goto (pc := 49) C dX12_tests_49 (tgt := 53) (by decide) ?_
            cases hyp
            exact V_iret C dX12_tests_53
      · replace hyp := (if_pos q7).symm.trans hyp
        refine V_iconst (pc := 30) C dX12_tests_30 (v := -1) (by decide) ?_
        cases hyp
        exact V_iret C dX12_tests_31
