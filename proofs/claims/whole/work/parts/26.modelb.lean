theorem dX12_tells_0 : decode cX12_tells 0 = .ok (.aload_n 0, 1) := by decide +kernel
theorem dX12_tells_1 : decode cX12_tells 1 = .ok (.getfield 108, 3) := by decide +kernel
theorem dX12_tells_4 : decode cX12_tells 4 = .ok (.iload_n 1, 1) := by decide +kernel
theorem dX12_tells_5 : decode cX12_tells 5 = .ok (.dup2, 1) := by decide +kernel
theorem dX12_tells_6 : decode cX12_tells 6 = .ok (.iaload, 1) := by decide +kernel
theorem dX12_tells_7 : decode cX12_tells 7 = .ok (.iconst 1, 1) := by decide +kernel
theorem dX12_tells_8 : decode cX12_tells 8 = .ok (.iadd, 1) := by decide +kernel
theorem dX12_tells_9 : decode cX12_tells 9 = .ok (.iastore, 1) := by decide +kernel
theorem dX12_tells_10 : decode cX12_tells 10 = .ok (.aload_n 0, 1) := by decide +kernel
theorem dX12_tells_11 : decode cX12_tells 11 = .ok (.getfield 108, 3) := by decide +kernel
theorem dX12_tells_14 : decode cX12_tells 14 = .ok (.iload_n 1, 1) := by decide +kernel
theorem dX12_tells_15 : decode cX12_tells 15 = .ok (.iaload, 1) := by decide +kernel
theorem dX12_tells_16 : decode cX12_tells 16 = .ok (.istore 4, 2) := by decide +kernel
theorem dX12_tells_18 : decode cX12_tells 18 = .ok (.iconst 0, 1) := by decide +kernel
theorem dX12_tells_19 : decode cX12_tells 19 = .ok (.istore 5, 2) := by decide +kernel
theorem dX12_tells_21 : decode cX12_tells 21 = .ok (.iload 5, 2) := by decide +kernel
theorem dX12_tells_23 : decode cX12_tells 23 = .ok (.aload_n 0, 1) := by decide +kernel
theorem dX12_tells_24 : decode cX12_tells 24 = .ok (.getfield 99, 3) := by decide +kernel
theorem dX12_tells_27 : decode cX12_tells 27 = .ok (.iload_n 1, 1) := by decide +kernel
theorem dX12_tells_28 : decode cX12_tells 28 = .ok (.iaload, 1) := by decide +kernel
theorem dX12_tells_29 : decode cX12_tells 29 = .ok (.if_icmp .ge 98, 3) := by decide +kernel
theorem dX12_tells_32 : decode cX12_tells 32 = .ok (.aload_n 0, 1) := by decide +kernel
theorem dX12_tells_33 : decode cX12_tells 33 = .ok (.getfield 93, 3) := by decide +kernel
theorem dX12_tells_36 : decode cX12_tells 36 = .ok (.aload_n 0, 1) := by decide +kernel
theorem dX12_tells_37 : decode cX12_tells 37 = .ok (.getfield 90, 3) := by decide +kernel
theorem dX12_tells_40 : decode cX12_tells 40 = .ok (.bipush 7, 2) := by decide +kernel
theorem dX12_tells_42 : decode cX12_tells 42 = .ok (.aload_n 0, 1) := by decide +kernel
theorem dX12_tells_43 : decode cX12_tells 43 = .ok (.getfield 96, 3) := by decide +kernel
theorem dX12_tells_46 : decode cX12_tells 46 = .ok (.sipush 3072, 3) := by decide +kernel
theorem dX12_tells_49 : decode cX12_tells 49 = .ok (.iload_n 1, 1) := by decide +kernel
theorem dX12_tells_50 : decode cX12_tells 50 = .ok (.imul, 1) := by decide +kernel
theorem dX12_tells_51 : decode cX12_tells 51 = .ok (.iload 5, 2) := by decide +kernel
theorem dX12_tells_53 : decode cX12_tells 53 = .ok (.iadd, 1) := by decide +kernel
theorem dX12_tells_54 : decode cX12_tells 54 = .ok (.iaload, 1) := by decide +kernel
theorem dX12_tells_55 : decode cX12_tells 55 = .ok (.imul, 1) := by decide +kernel
theorem dX12_tells_56 : decode cX12_tells 56 = .ok (.iconst 1, 1) := by decide +kernel
theorem dX12_tells_57 : decode cX12_tells 57 = .ok (.iadd, 1) := by decide +kernel
theorem dX12_tells_58 : decode cX12_tells 58 = .ok (.iload_n 2, 1) := by decide +kernel
theorem dX12_tells_59 : decode cX12_tells 59 = .ok (.iadd, 1) := by decide +kernel
theorem dX12_tells_60 : decode cX12_tells 60 = .ok (.iaload, 1) := by decide +kernel
theorem dX12_tells_61 : decode cX12_tells 61 = .ok (.iaload, 1) := by decide +kernel
theorem dX12_tells_62 : decode cX12_tells 62 = .ok (.istore 6, 2) := by decide +kernel
theorem dX12_tells_64 : decode cX12_tells 64 = .ok (.aload_n 0, 1) := by decide +kernel
theorem dX12_tells_65 : decode cX12_tells 65 = .ok (.getfield 105, 3) := by decide +kernel
theorem dX12_tells_68 : decode cX12_tells 68 = .ok (.sipush 256, 3) := by decide +kernel
theorem dX12_tells_71 : decode cX12_tells 71 = .ok (.iload_n 1, 1) := by decide +kernel
theorem dX12_tells_72 : decode cX12_tells 72 = .ok (.imul, 1) := by decide +kernel
theorem dX12_tells_73 : decode cX12_tells 73 = .ok (.iload 6, 2) := by decide +kernel
theorem dX12_tells_75 : decode cX12_tells 75 = .ok (.iadd, 1) := by decide +kernel
theorem dX12_tells_76 : decode cX12_tells 76 = .ok (.iaload, 1) := by decide +kernel
theorem dX12_tells_77 : decode cX12_tells 77 = .ok (.iload 4, 2) := by decide +kernel
theorem dX12_tells_79 : decode cX12_tells 79 = .ok (.if_icmp .ne 6, 3) := by decide +kernel
theorem dX12_tells_82 : decode cX12_tells 82 = .ok (.goto 39, 3) := by decide +kernel
theorem dX12_tells_85 : decode cX12_tells 85 = .ok (.aload_n 0, 1) := by decide +kernel
theorem dX12_tells_86 : decode cX12_tells 86 = .ok (.getfield 105, 3) := by decide +kernel
theorem dX12_tells_89 : decode cX12_tells 89 = .ok (.sipush 256, 3) := by decide +kernel
theorem dX12_tells_92 : decode cX12_tells 92 = .ok (.iload_n 1, 1) := by decide +kernel
theorem dX12_tells_93 : decode cX12_tells 93 = .ok (.imul, 1) := by decide +kernel
theorem dX12_tells_94 : decode cX12_tells 94 = .ok (.iload 6, 2) := by decide +kernel
theorem dX12_tells_96 : decode cX12_tells 96 = .ok (.iadd, 1) := by decide +kernel
theorem dX12_tells_97 : decode cX12_tells 97 = .ok (.iload 4, 2) := by decide +kernel
theorem dX12_tells_99 : decode cX12_tells 99 = .ok (.iastore, 1) := by decide +kernel
theorem dX12_tells_100 : decode cX12_tells 100 = .ok (.aload_n 0, 1) := by decide +kernel
theorem dX12_tells_101 : decode cX12_tells 101 = .ok (.iload_n 1, 1) := by decide +kernel
theorem dX12_tells_102 : decode cX12_tells 102 = .ok (.iload_n 2, 1) := by decide +kernel
theorem dX12_tells_103 : decode cX12_tells 103 = .ok (.iload 6, 2) := by decide +kernel
theorem dX12_tells_105 : decode cX12_tells 105 = .ok (.invokevirtual 411, 3) := by decide +kernel
theorem dX12_tells_108 : decode cX12_tells 108 = .ok (.aload_n 0, 1) := by decide +kernel
theorem dX12_tells_109 : decode cX12_tells 109 = .ok (.iload_n 1, 1) := by decide +kernel
theorem dX12_tells_110 : decode cX12_tells 110 = .ok (.iconst 1, 1) := by decide +kernel
theorem dX12_tells_111 : decode cX12_tells 111 = .ok (.iadd, 1) := by decide +kernel
theorem dX12_tells_112 : decode cX12_tells 112 = .ok (.iload_n 3, 1) := by decide +kernel
theorem dX12_tells_113 : decode cX12_tells 113 = .ok (.invokevirtual 414, 3) := by decide +kernel
theorem dX12_tells_116 : decode cX12_tells 116 = .ok (.ifCond .ne 5, 3) := by decide +kernel
theorem dX12_tells_119 : decode cX12_tells 119 = .ok (.iconst 0, 1) := by decide +kernel
theorem dX12_tells_120 : decode cX12_tells 120 = .ok (.ireturn, 1) := by decide +kernel
theorem dX12_tells_121 : decode cX12_tells 121 = .ok (.iinc 5 1, 3) := by decide +kernel
theorem dX12_tells_124 : decode cX12_tells 124 = .ok (.goto (-103), 3) := by decide +kernel
theorem dX12_tells_127 : decode cX12_tells 127 = .ok (.iconst 1, 1) := by decide +kernel
theorem dX12_tells_128 : decode cX12_tells 128 = .ok (.ireturn, 1) := by decide +kernel
def F_X12_tells_b121 (N : Nat) (c_X12_tells : Int32 → Int32 → Int32 → PH → Option (Int32 × PH)) (c_X12_isTold : Int32 → Int32 → PH → Option (Int32 × PH)) (rc21 : Int32 → Int32 → Int32 → Int32 → Int32 → PH → Option (Int32 × PH)) (x1 : Int32) (x2 : Int32) (x3 : Int32) (x4 : Int32) (x5 : Int32) (h : PH) : Option (Int32 × PH) :=
  ib (x5 + (1 : Int32)) fun v1 =>
  rc21 x1 x2 x3 x4 v1 h
set_option maxRecDepth 20000 in
set_option maxHeartbeats 4000000 in
theorem T_X12_tells_b121 {X : CT} {gf gl : Nat} (C : CX X 154 cX12_tells 7 RX12 (some .boolean) (gf + 1 + 2) (gl + 40 + 42)) {r0 : Int32} {h0 : PH} {N : Nat} {c_X12_tells : Int32 → Int32 → Int32 → PH → Option (Int32 × PH)} {c_X12_isTold : Int32 → Int32 → PH → Option (Int32 × PH)} (hc_X12_tells : ∀ (a1 : Int32) (a2 : Int32) (a3 : Int32) (h : PH) (r : Int32) (h2 : PH), c_X12_tells a1 a2 a3 h = some (r, h2) → MI (xE X) 154 yX12_tells cX12_tells 7 (some .boolean) gf gl [.ref 103, .int a1, .int a2, .int a3] h r h2) (hc_X12_isTold : ∀ (a1 : Int32) (a2 : Int32) (h : PH) (r : Int32) (h2 : PH), c_X12_isTold a1 a2 h = some (r, h2) → MI (xE X) 154 yX12_isTold cX12_isTold 4 (some .boolean) gf gl [.ref 103, .int a1, .int a2] h r h2) {rc21 : Int32 → Int32 → Int32 → Int32 → Int32 → PH → Option (Int32 × PH)} (hr21 : ∀ (x1 : Int32) (x2 : Int32) (x3 : Int32) (x4 : Int32) (x5 : Int32) (h : PH), rc21 x1 x2 x3 x4 x5 h = some (r0, h0) → V X (QI X r0 h0) h 21 [some (.ref 103), some (.int x1), some (.int x2), some (.int x3), some (.int x4), some (.int x5), none] []) : ∀ (x1 : Int32) (x2 : Int32) (x3 : Int32) (x4 : Int32) (x5 : Int32) (h : PH), F_X12_tells_b121 N c_X12_tells c_X12_isTold rc21 x1 x2 x3 x4 x5 h = some (r0, h0) → V X (QI X r0 h0) h 121 [some (.ref 103), some (.int x1), some (.int x2), some (.int x3), some (.int x4), some (.int x5), none] [] := by
  intro x1 x2 x3 x4 x5 h hyp
  unfold F_X12_tells_b121 at hyp
  obtain ⟨v1, ev1, hyp⟩ := ib_n hyp
  refine V_iinc (pc := 121) C dX12_tells_121 (v := v1) rfl (by rw [ev1]; rfl) (by decide) rfl ?_
  refine V_goto (pc := 124) C dX12_tells_124 (tgt := 21) (by decide) ?_
  refine V_weak (lv' := [some (.ref 103), some (.int x1), some (.int x2), some (.int x3), some (.int x4), some (.int v1), none]) (lvle_s (lvle_s (lvle_s (lvle_s (lvle_s (lvle_s (lvle_n lvle_0))))))) ?_
  exact hr21 x1 x2 x3 x4 v1 h hyp
def F_X12_tells_b21 (N : Nat) (c_X12_tells : Int32 → Int32 → Int32 → PH → Option (Int32 × PH)) (c_X12_isTold : Int32 → Int32 → PH → Option (Int32 × PH)) : Nat → Int32 → Int32 → Int32 → Int32 → Int32 → PH → Option (Int32 × PH)
  | 0, _, _, _, _, _, _ => none
  | n + 1, x1, x2, x3, x4, x5, h =>
    if inb x1 4 = true then
    if (h.1 132 x1.toNatClampNeg) ≤ x5 then
      some ((1 : Int32), h)
    else
      if inb (((3072 : Int32) * x1) + x5) 12288 = true then
      if inb ((((7 : Int32) * (h.1 131 (((3072 : Int32) * x1) + x5).toNatClampNeg)) + (1 : Int32)) + x2) 21504 = true then
      if inb (h.1 129 ((((7 : Int32) * (h.1 131 (((3072 : Int32) * x1) + x5).toNatClampNeg)) + (1 : Int32)) + x2).toNatClampNeg) 3072 = true then
      ib (h.1 130 (h.1 129 ((((7 : Int32) * (h.1 131 (((3072 : Int32) * x1) + x5).toNatClampNeg)) + (1 : Int32)) + x2).toNatClampNeg).toNatClampNeg) fun v6 =>
      if inb (((256 : Int32) * x1) + v6) 1024 = true then
      if (h.1 134 (((256 : Int32) * x1) + v6).toNatClampNeg) = x4 then
        F_X12_tells_b121 N c_X12_tells c_X12_isTold (F_X12_tells_b21 N c_X12_tells c_X12_isTold n) x1 x2 x3 x4 x5 h
      else
        if inb (((256 : Int32) * x1) + v6) 1024 = true then
        hb (hs h 134 (((256 : Int32) * x1) + v6).toNatClampNeg x4) fun h10 =>
        bV (F_X12_narrows N x1 x2 v6 h10) fun h12 =>
        bI (c_X12_isTold (x1 + (1 : Int32)) x3 h12) fun r13 h14 =>
        if r13 = 0 then
          some ((0 : Int32), h14)
        else
          F_X12_tells_b121 N c_X12_tells c_X12_isTold (F_X12_tells_b21 N c_X12_tells c_X12_isTold n) x1 x2 x3 x4 x5 h14
        else none
      else none
      else none
      else none
      else none
    else none
set_option maxRecDepth 20000 in
set_option maxHeartbeats 4000000 in
theorem T_X12_tells_b21 {X : CT} {gf gl : Nat} (C : CX X 154 cX12_tells 7 RX12 (some .boolean) (gf + 1 + 2) (gl + 40 + 42)) {r0 : Int32} {h0 : PH} {N : Nat} {c_X12_tells : Int32 → Int32 → Int32 → PH → Option (Int32 × PH)} {c_X12_isTold : Int32 → Int32 → PH → Option (Int32 × PH)} (hc_X12_tells : ∀ (a1 : Int32) (a2 : Int32) (a3 : Int32) (h : PH) (r : Int32) (h2 : PH), c_X12_tells a1 a2 a3 h = some (r, h2) → MI (xE X) 154 yX12_tells cX12_tells 7 (some .boolean) gf gl [.ref 103, .int a1, .int a2, .int a3] h r h2) (hc_X12_isTold : ∀ (a1 : Int32) (a2 : Int32) (h : PH) (r : Int32) (h2 : PH), c_X12_isTold a1 a2 h = some (r, h2) → MI (xE X) 154 yX12_isTold cX12_isTold 4 (some .boolean) gf gl [.ref 103, .int a1, .int a2] h r h2) : ∀ (n : Nat) (x1 : Int32) (x2 : Int32) (x3 : Int32) (x4 : Int32) (x5 : Int32) (h : PH), F_X12_tells_b21 N c_X12_tells c_X12_isTold n x1 x2 x3 x4 x5 h = some (r0, h0) → V X (QI X r0 h0) h 21 [some (.ref 103), some (.int x1), some (.int x2), some (.int x3), some (.int x4), some (.int x5), none] [] := by
  intro n
  induction n with
  | zero =>
    intro x1 x2 x3 x4 x5 h hyp
    cases hyp
  | succ n ih =>
    intro x1 x2 x3 x4 x5 h hyp
    unfold F_X12_tells_b21 at hyp
    refine V_iload (pc := 21) C dX12_tells_21 rfl ?_
    refine V_aload_n (pc := 23) C dX12_tells_23 rfl ?_
    refine V_getR (pc := 24) C dX12_tells_24 lf_X12_99 fk_103_48 ?_
    refine V_iload_n (pc := 27) C dX12_tells_27 rfl ?_
    obtain ⟨g1, hyp⟩ := gd_n hyp
    refine V_iald (pc := 28) C dX12_tells_28 ak_132 g1 ?_
    refine V_icmp_ge (pc := 29) C dX12_tells_29 (tgt := 127) (by decide) (fun q2 => ?_) (fun q2 => ?_)
    · replace hyp := (if_pos q2).symm.trans hyp
      refine V_iconst (pc := 127) C dX12_tells_127 (v := 1) (by decide) ?_
      cases hyp
      exact V_zret C dX12_tells_128 rfl
    · replace hyp := (if_neg q2).symm.trans hyp
      refine V_aload_n (pc := 32) C dX12_tells_32 rfl ?_
      refine V_getR (pc := 33) C dX12_tells_33 lf_X12_93 fk_103_45 ?_
      refine V_aload_n (pc := 36) C dX12_tells_36 rfl ?_
      refine V_getR (pc := 37) C dX12_tells_37 lf_X12_90 fk_103_44 ?_
      refine V_bipush (pc := 40) C dX12_tells_40 (v := 7) (by decide) ?_
      refine V_aload_n (pc := 42) C dX12_tells_42 rfl ?_
      refine V_getR (pc := 43) C dX12_tells_43 lf_X12_96 fk_103_47 ?_
      refine V_sipush (pc := 46) C dX12_tells_46 (v := 3072) (by decide) ?_
      refine V_iload_n (pc := 49) C dX12_tells_49 rfl ?_
      refine V_imul (pc := 50) C dX12_tells_50 ?_
      refine V_iload (pc := 51) C dX12_tells_51 rfl ?_
      refine V_iadd (pc := 53) C dX12_tells_53 ?_
      obtain ⟨g3, hyp⟩ := gd_n hyp
      refine V_iald (pc := 54) C dX12_tells_54 ak_131 g3 ?_
      refine V_imul (pc := 55) C dX12_tells_55 ?_
      refine V_iconst (pc := 56) C dX12_tells_56 (v := 1) (by decide) ?_
      refine V_iadd (pc := 57) C dX12_tells_57 ?_
      refine V_iload_n (pc := 58) C dX12_tells_58 rfl ?_
      refine V_iadd (pc := 59) C dX12_tells_59 ?_
      obtain ⟨g4, hyp⟩ := gd_n hyp
      refine V_iald (pc := 60) C dX12_tells_60 ak_129 g4 ?_
      obtain ⟨g5, hyp⟩ := gd_n hyp
      refine V_iald (pc := 61) C dX12_tells_61 ak_130 g5 ?_
      obtain ⟨v6, ev6, hyp⟩ := ib_n hyp
      refine V_topI ev6 ?_
      refine V_istore (pc := 62) C dX12_tells_62 (by decide) rfl ?_
      refine V_aload_n (pc := 64) C dX12_tells_64 rfl ?_
      refine V_getR (pc := 65) C dX12_tells_65 lf_X12_105 fk_103_51 ?_
      refine V_sipush (pc := 68) C dX12_tells_68 (v := 256) (by decide) ?_
      refine V_iload_n (pc := 71) C dX12_tells_71 rfl ?_
      refine V_imul (pc := 72) C dX12_tells_72 ?_
      refine V_iload (pc := 73) C dX12_tells_73 rfl ?_
      refine V_iadd (pc := 75) C dX12_tells_75 ?_
      obtain ⟨g7, hyp⟩ := gd_n hyp
      refine V_iald (pc := 76) C dX12_tells_76 ak_134 g7 ?_
      refine V_iload (pc := 77) C dX12_tells_77 rfl ?_
      refine V_icmp_ne (pc := 79) C dX12_tells_79 (tgt := 85) (by decide) (fun q8 => ?_) (fun q8 => ?_)
      · replace hyp := (if_neg q8).symm.trans hyp
        refine V_aload_n (pc := 85) C dX12_tells_85 rfl ?_
        refine V_getR (pc := 86) C dX12_tells_86 lf_X12_105 fk_103_51 ?_
        refine V_sipush (pc := 89) C dX12_tells_89 (v := 256) (by decide) ?_
        refine V_iload_n (pc := 92) C dX12_tells_92 rfl ?_
        refine V_imul (pc := 93) C dX12_tells_93 ?_
        refine V_iload (pc := 94) C dX12_tells_94 rfl ?_
        refine V_iadd (pc := 96) C dX12_tells_96 ?_
        refine V_iload (pc := 97) C dX12_tells_97 rfl ?_
        obtain ⟨g9, hyp⟩ := gd_n hyp
        obtain ⟨h10, eh10, hyp⟩ := hb_n hyp
        refine V_iast (pc := 99) C dX12_tells_99 ak_134 g9 eh10 ?_
        refine V_aload_n (pc := 100) C dX12_tells_100 rfl ?_
        refine V_iload_n (pc := 101) C dX12_tells_101 rfl ?_
        refine V_iload_n (pc := 102) C dX12_tells_102 rfl ?_
        refine V_iload (pc := 103) C dX12_tells_103 rfl ?_
        obtain ⟨h12, eh12, hyp⟩ := bV_n hyp
        refine V_callV (pc := 105) C dX12_tells_105 lm_X12_411 mk_X12_narrows ok_103 rfl (M_X12_narrows _ eh12) rfl pd_X12_narrows (by decide) (by omega) (by omega) (As := [.int x1, .int x2, .int v6]) (rest := []) rfl (Nat.le_of_ble_eq_true rfl) ?_
        refine V_aload_n (pc := 108) C dX12_tells_108 rfl ?_
        refine V_iload_n (pc := 109) C dX12_tells_109 rfl ?_
        refine V_iconst (pc := 110) C dX12_tells_110 (v := 1) (by decide) ?_
        refine V_iadd (pc := 111) C dX12_tells_111 ?_
        refine V_iload_n (pc := 112) C dX12_tells_112 rfl ?_
        obtain ⟨r13, h14, eh14, hyp⟩ := bI_n hyp
        refine V_callI (pc := 113) C dX12_tells_113 lm_X12_414 mk_X12_isTold ok_103 rfl (hc_X12_isTold _ _ _ _ _ eh14) rfl pd_X12_isTold (by decide) (by omega) (by omega) (As := [.int (x1 + (1 : Int32)), .int x3]) (rest := []) rfl (Nat.le_of_ble_eq_true rfl) ?_
        refine V_if_ne (pc := 116) C dX12_tells_116 (tgt := 121) (by decide) (fun q15 => ?_) (fun q15 => ?_)
        · replace hyp := (if_neg q15).symm.trans hyp
          refine V_weak (lv' := [some (.ref 103), some (.int x1), some (.int x2), some (.int x3), some (.int x4), some (.int x5), none]) (lvle_s (lvle_s (lvle_s (lvle_s (lvle_s (lvle_s (lvle_n lvle_0))))))) ?_
          exact (T_X12_tells_b121 C hc_X12_tells hc_X12_isTold ih) x1 x2 x3 x4 x5 h14 hyp
        · replace hyp := (if_pos q15).symm.trans hyp
          refine V_iconst (pc := 119) C dX12_tells_119 (v := 0) (by decide) ?_
          cases hyp
          exact V_zret C dX12_tells_120 rfl
      · replace hyp := (if_pos q8).symm.trans hyp
        refine V_goto (pc := 82) C dX12_tells_82 (tgt := 121) (by decide) ?_
        refine V_weak (lv' := [some (.ref 103), some (.int x1), some (.int x2), some (.int x3), some (.int x4), some (.int x5), none]) (lvle_s (lvle_s (lvle_s (lvle_s (lvle_s (lvle_s (lvle_n lvle_0))))))) ?_
        exact (T_X12_tells_b121 C hc_X12_tells hc_X12_isTold ih) x1 x2 x3 x4 x5 h hyp
def F_X12_tells (N : Nat) (c_X12_tells : Int32 → Int32 → Int32 → PH → Option (Int32 × PH)) (c_X12_isTold : Int32 → Int32 → PH → Option (Int32 × PH)) (a1 : Int32) (a2 : Int32) (a3 : Int32) (h : PH) : Option (Int32 × PH) :=
  if inb a1 4 = true then
  hb (hs h 135 a1.toNatClampNeg ((h.1 135 a1.toNatClampNeg) + (1 : Int32))) fun h2 =>
  ib (h2.1 135 a1.toNatClampNeg) fun v3 =>
  F_X12_tells_b21 N c_X12_tells c_X12_isTold N a1 a2 a3 v3 (0 : Int32) h2
  else none
set_option maxRecDepth 20000 in
set_option maxHeartbeats 4000000 in
theorem M_X12_tells (E : EV) {gf gl : Nat} {N : Nat} {c_X12_tells : Int32 → Int32 → Int32 → PH → Option (Int32 × PH)} {c_X12_isTold : Int32 → Int32 → PH → Option (Int32 × PH)} {a1 : Int32} {a2 : Int32} {a3 : Int32} (hc_X12_tells : ∀ (a1 : Int32) (a2 : Int32) (a3 : Int32) (h : PH) (r : Int32) (h2 : PH), c_X12_tells a1 a2 a3 h = some (r, h2) → MI E 154 yX12_tells cX12_tells 7 (some .boolean) gf gl [.ref 103, .int a1, .int a2, .int a3] h r h2) (hc_X12_isTold : ∀ (a1 : Int32) (a2 : Int32) (h : PH) (r : Int32) (h2 : PH), c_X12_isTold a1 a2 h = some (r, h2) → MI E 154 yX12_isTold cX12_isTold 4 (some .boolean) gf gl [.ref 103, .int a1, .int a2] h r h2)  {r : Int32} {h h2 : PH} (hyp : F_X12_tells N c_X12_tells c_X12_isTold a1 a2 a3 h = some (r, h2)) : MI E 154 yX12_tells cX12_tells 7 (some .boolean) (gf + 1 + 2) (gl + 40 + 42) [.ref 103, .int a1, .int a2, .int a3] h r h2 := by
  refine MI.of 3 (by decide) rfl (fun X e1 C => ?_)
  subst e1
  replace C : CX X 154 cX12_tells 7 RX12 (some .boolean) (gf + 1 + 2) (gl + 40 + 42) := C
  show V X _ h 0 [some (.ref 103), some (.int a1), some (.int a2), some (.int a3), none, none, none] []
  unfold F_X12_tells at hyp
  refine V_aload_n (pc := 0) C dX12_tells_0 rfl ?_
  refine V_getR (pc := 1) C dX12_tells_1 lf_X12_108 fk_103_52 ?_
  refine V_iload_n (pc := 4) C dX12_tells_4 rfl ?_
  refine V_dup2 (pc := 5) C dX12_tells_5 rfl rfl ?_
  obtain ⟨g1, hyp⟩ := gd_n hyp
  refine V_iald (pc := 6) C dX12_tells_6 ak_135 g1 ?_
  refine V_iconst (pc := 7) C dX12_tells_7 (v := 1) (by decide) ?_
  refine V_iadd (pc := 8) C dX12_tells_8 ?_
  obtain ⟨h2, eh2, hyp⟩ := hb_n hyp
  refine V_iast (pc := 9) C dX12_tells_9 ak_135 g1 eh2 ?_
  refine V_aload_n (pc := 10) C dX12_tells_10 rfl ?_
  refine V_getR (pc := 11) C dX12_tells_11 lf_X12_108 fk_103_52 ?_
  refine V_iload_n (pc := 14) C dX12_tells_14 rfl ?_
  refine V_iald (pc := 15) C dX12_tells_15 ak_135 g1 ?_
  obtain ⟨v3, ev3, hyp⟩ := ib_n hyp
  refine V_topI ev3 ?_
  refine V_istore (pc := 16) C dX12_tells_16 (by decide) rfl ?_
  refine V_iconst (pc := 18) C dX12_tells_18 (v := 0) (by decide) ?_
  refine V_istore (pc := 19) C dX12_tells_19 (by decide) rfl ?_
  refine V_weak (lv' := [some (.ref 103), some (.int a1), some (.int a2), some (.int a3), some (.int v3), some (.int (0 : Int32)), none]) (lvle_s (lvle_s (lvle_s (lvle_s (lvle_s (lvle_s (lvle_n lvle_0))))))) ?_
  exact (T_X12_tells_b21 C hc_X12_tells hc_X12_isTold) N a1 a2 a3 v3 (0 : Int32) h2 hyp
theorem dX12_isTold_0 : decode cX12_isTold 0 = .ok (.aload_n 0, 1) := by decide +kernel
theorem dX12_isTold_1 : decode cX12_isTold 1 = .ok (.iload_n 1, 1) := by decide +kernel
theorem dX12_isTold_2 : decode cX12_isTold 2 = .ok (.invokevirtual 418, 3) := by decide +kernel
theorem dX12_isTold_5 : decode cX12_isTold 5 = .ok (.ifCond .eq 5, 3) := by decide +kernel
theorem dX12_isTold_8 : decode cX12_isTold 8 = .ok (.iconst 1, 1) := by decide +kernel
theorem dX12_isTold_9 : decode cX12_isTold 9 = .ok (.ireturn, 1) := by decide +kernel
theorem dX12_isTold_10 : decode cX12_isTold 10 = .ok (.iconst (-1), 1) := by decide +kernel
theorem dX12_isTold_11 : decode cX12_isTold 11 = .ok (.istore_n 3, 1) := by decide +kernel
theorem dX12_isTold_12 : decode cX12_isTold 12 = .ok (.iload_n 3, 1) := by decide +kernel
theorem dX12_isTold_13 : decode cX12_isTold 13 = .ok (.aload_n 0, 1) := by decide +kernel
theorem dX12_isTold_14 : decode cX12_isTold 14 = .ok (.getfield 7, 3) := by decide +kernel
theorem dX12_isTold_17 : decode cX12_isTold 17 = .ok (.if_icmp .ge 27, 3) := by decide +kernel
theorem dX12_isTold_20 : decode cX12_isTold 20 = .ok (.iload_n 2, 1) := by decide +kernel
theorem dX12_isTold_21 : decode cX12_isTold 21 = .ok (.ifCond .le 23, 3) := by decide +kernel
theorem dX12_isTold_24 : decode cX12_isTold 24 = .ok (.aload_n 0, 1) := by decide +kernel
theorem dX12_isTold_25 : decode cX12_isTold 25 = .ok (.iload_n 1, 1) := by decide +kernel
theorem dX12_isTold_26 : decode cX12_isTold 26 = .ok (.iload_n 3, 1) := by decide +kernel
theorem dX12_isTold_27 : decode cX12_isTold 27 = .ok (.iload_n 2, 1) := by decide +kernel
theorem dX12_isTold_28 : decode cX12_isTold 28 = .ok (.iconst 1, 1) := by decide +kernel
theorem dX12_isTold_29 : decode cX12_isTold 29 = .ok (.isub, 1) := by decide +kernel
theorem dX12_isTold_30 : decode cX12_isTold 30 = .ok (.invokevirtual 421, 3) := by decide +kernel
theorem dX12_isTold_33 : decode cX12_isTold 33 = .ok (.ifCond .eq 5, 3) := by decide +kernel
theorem dX12_isTold_36 : decode cX12_isTold 36 = .ok (.iconst 1, 1) := by decide +kernel
theorem dX12_isTold_37 : decode cX12_isTold 37 = .ok (.ireturn, 1) := by decide +kernel
theorem dX12_isTold_38 : decode cX12_isTold 38 = .ok (.iinc 3 1, 3) := by decide +kernel
theorem dX12_isTold_41 : decode cX12_isTold 41 = .ok (.goto (-29), 3) := by decide +kernel
theorem dX12_isTold_44 : decode cX12_isTold 44 = .ok (.iconst 0, 1) := by decide +kernel
theorem dX12_isTold_45 : decode cX12_isTold 45 = .ok (.ireturn, 1) := by decide +kernel
def F_X12_isTold_b12 (N : Nat) (c_X12_tells : Int32 → Int32 → Int32 → PH → Option (Int32 × PH)) (c_X12_isTold : Int32 → Int32 → PH → Option (Int32 × PH)) : Nat → Int32 → Int32 → Int32 → PH → Option (Int32 × PH)
  | 0, _, _, _, _ => none
  | n + 1, x1, x2, x3, h =>
    if (h.1 103 1) ≤ x3 then
      some ((0 : Int32), h)
    else
      if x2 ≤ 0 then
        some ((0 : Int32), h)
      else
        bI (c_X12_tells x1 x3 (x2 - (1 : Int32)) h) fun r3 h4 =>
        if r3 = 0 then
          ib (x3 + (1 : Int32)) fun v6 =>
          F_X12_isTold_b12 N c_X12_tells c_X12_isTold n x1 x2 v6 h4
        else
          some ((1 : Int32), h4)
set_option maxRecDepth 20000 in
set_option maxHeartbeats 4000000 in
theorem T_X12_isTold_b12 {X : CT} {gf gl : Nat} (C : CX X 154 cX12_isTold 4 RX12 (some .boolean) (gf + 1 + 2) (gl + 40 + 42)) {r0 : Int32} {h0 : PH} {N : Nat} {c_X12_tells : Int32 → Int32 → Int32 → PH → Option (Int32 × PH)} {c_X12_isTold : Int32 → Int32 → PH → Option (Int32 × PH)} (hc_X12_tells : ∀ (a1 : Int32) (a2 : Int32) (a3 : Int32) (h : PH) (r : Int32) (h2 : PH), c_X12_tells a1 a2 a3 h = some (r, h2) → MI (xE X) 154 yX12_tells cX12_tells 7 (some .boolean) gf gl [.ref 103, .int a1, .int a2, .int a3] h r h2) (hc_X12_isTold : ∀ (a1 : Int32) (a2 : Int32) (h : PH) (r : Int32) (h2 : PH), c_X12_isTold a1 a2 h = some (r, h2) → MI (xE X) 154 yX12_isTold cX12_isTold 4 (some .boolean) gf gl [.ref 103, .int a1, .int a2] h r h2) : ∀ (n : Nat) (x1 : Int32) (x2 : Int32) (x3 : Int32) (h : PH), F_X12_isTold_b12 N c_X12_tells c_X12_isTold n x1 x2 x3 h = some (r0, h0) → V X (QI X r0 h0) h 12 [some (.ref 103), some (.int x1), some (.int x2), some (.int x3)] [] := by
  intro n
  induction n with
  | zero =>
    intro x1 x2 x3 h hyp
    cases hyp
  | succ n ih =>
    intro x1 x2 x3 h hyp
    unfold F_X12_isTold_b12 at hyp
    refine V_iload_n (pc := 12) C dX12_isTold_12 rfl ?_
    refine V_aload_n (pc := 13) C dX12_isTold_13 rfl ?_
    refine V_getI (pc := 14) C dX12_isTold_14 lf_X12_7 fk_103_1 ?_
    refine V_icmp_ge (pc := 17) C dX12_isTold_17 (tgt := 44) (by decide) (fun q1 => ?_) (fun q1 => ?_)
    · replace hyp := (if_pos q1).symm.trans hyp
      refine V_iconst (pc := 44) C dX12_isTold_44 (v := 0) (by decide) ?_
      cases hyp
      exact V_zret C dX12_isTold_45 rfl
    · replace hyp := (if_neg q1).symm.trans hyp
      refine V_iload_n (pc := 20) C dX12_isTold_20 rfl ?_
      refine V_if_le (pc := 21) C dX12_isTold_21 (tgt := 44) (by decide) (fun q2 => ?_) (fun q2 => ?_)
      · replace hyp := (if_pos q2).symm.trans hyp
        refine V_iconst (pc := 44) C dX12_isTold_44 (v := 0) (by decide) ?_
        cases hyp
        exact V_zret C dX12_isTold_45 rfl
      · replace hyp := (if_neg q2).symm.trans hyp
        refine V_aload_n (pc := 24) C dX12_isTold_24 rfl ?_
        refine V_iload_n (pc := 25) C dX12_isTold_25 rfl ?_
        refine V_iload_n (pc := 26) C dX12_isTold_26 rfl ?_
        refine V_iload_n (pc := 27) C dX12_isTold_27 rfl ?_
        refine V_iconst (pc := 28) C dX12_isTold_28 (v := 1) (by decide) ?_
        refine V_isub (pc := 29) C dX12_isTold_29 ?_
        obtain ⟨r3, h4, eh4, hyp⟩ := bI_n hyp
        refine V_callI (pc := 30) C dX12_isTold_30 lm_X12_421 mk_X12_tells ok_103 rfl (hc_X12_tells _ _ _ _ _ _ eh4) rfl pd_X12_tells (by decide) (by omega) (by omega) (As := [.int x1, .int x3, .int (x2 - (1 : Int32))]) (rest := []) rfl (Nat.le_of_ble_eq_true rfl) ?_
        refine V_if_eq (pc := 33) C dX12_isTold_33 (tgt := 38) (by decide) (fun q5 => ?_) (fun q5 => ?_)
        · replace hyp := (if_pos q5).symm.trans hyp
          obtain ⟨v6, ev6, hyp⟩ := ib_n hyp
          refine V_iinc (pc := 38) C dX12_isTold_38 (v := v6) rfl (by rw [ev6]; rfl) (by decide) rfl ?_
          refine V_goto (pc := 41) C dX12_isTold_41 (tgt := 12) (by decide) ?_
          refine V_weak (lv' := [some (.ref 103), some (.int x1), some (.int x2), some (.int v6)]) (lvle_s (lvle_s (lvle_s (lvle_s lvle_0)))) ?_
          exact ih x1 x2 v6 h4 hyp
        · replace hyp := (if_neg q5).symm.trans hyp
          refine V_iconst (pc := 36) C dX12_isTold_36 (v := 1) (by decide) ?_
          cases hyp
          exact V_zret C dX12_isTold_37 rfl
def F_X12_isTold (N : Nat) (c_X12_tells : Int32 → Int32 → Int32 → PH → Option (Int32 × PH)) (c_X12_isTold : Int32 → Int32 → PH → Option (Int32 × PH)) (a1 : Int32) (a2 : Int32) (h : PH) : Option (Int32 × PH) :=
  bI (F_X12_isOne N a1 h) fun r1 h2 =>
  if r1 = 0 then
    F_X12_isTold_b12 N c_X12_tells c_X12_isTold N a1 a2 (-1 : Int32) h2
  else
    some ((1 : Int32), h2)
set_option maxRecDepth 20000 in
set_option maxHeartbeats 4000000 in
theorem M_X12_isTold (E : EV) {gf gl : Nat} {N : Nat} {c_X12_tells : Int32 → Int32 → Int32 → PH → Option (Int32 × PH)} {c_X12_isTold : Int32 → Int32 → PH → Option (Int32 × PH)} {a1 : Int32} {a2 : Int32} (hc_X12_tells : ∀ (a1 : Int32) (a2 : Int32) (a3 : Int32) (h : PH) (r : Int32) (h2 : PH), c_X12_tells a1 a2 a3 h = some (r, h2) → MI E 154 yX12_tells cX12_tells 7 (some .boolean) gf gl [.ref 103, .int a1, .int a2, .int a3] h r h2) (hc_X12_isTold : ∀ (a1 : Int32) (a2 : Int32) (h : PH) (r : Int32) (h2 : PH), c_X12_isTold a1 a2 h = some (r, h2) → MI E 154 yX12_isTold cX12_isTold 4 (some .boolean) gf gl [.ref 103, .int a1, .int a2] h r h2)  {r : Int32} {h h2 : PH} (hyp : F_X12_isTold N c_X12_tells c_X12_isTold a1 a2 h = some (r, h2)) : MI E 154 yX12_isTold cX12_isTold 4 (some .boolean) (gf + 1 + 2) (gl + 40 + 42) [.ref 103, .int a1, .int a2] h r h2 := by
  refine MI.of 1 (by decide) rfl (fun X e1 C => ?_)
  subst e1
  replace C : CX X 154 cX12_isTold 4 RX12 (some .boolean) (gf + 1 + 2) (gl + 40 + 42) := C
  show V X _ h 0 [some (.ref 103), some (.int a1), some (.int a2), none] []
  unfold F_X12_isTold at hyp
  refine V_aload_n (pc := 0) C dX12_isTold_0 rfl ?_
  refine V_iload_n (pc := 1) C dX12_isTold_1 rfl ?_
  obtain ⟨r1, h2, eh2, hyp⟩ := bI_n hyp
  refine V_callI (pc := 2) C dX12_isTold_2 lm_X12_418 mk_X12_isOne ok_103 rfl (M_X12_isOne _ eh2) rfl pd_X12_isOne (by decide) (by omega) (by omega) (As := [.int a1]) (rest := []) rfl (Nat.le_of_ble_eq_true rfl) ?_
  refine V_if_eq (pc := 5) C dX12_isTold_5 (tgt := 10) (by decide) (fun q3 => ?_) (fun q3 => ?_)
  · replace hyp := (if_pos q3).symm.trans hyp
    refine V_iconst (pc := 10) C dX12_isTold_10 (v := -1) (by decide) ?_
    refine V_istore_n (pc := 11) C dX12_isTold_11 (by decide) rfl ?_
    refine V_weak (lv' := [some (.ref 103), some (.int a1), some (.int a2), some (.int (-1 : Int32))]) (lvle_s (lvle_s (lvle_s (lvle_s lvle_0)))) ?_
    exact (T_X12_isTold_b12 C hc_X12_tells hc_X12_isTold) N a1 a2 (-1 : Int32) h2 hyp
  · replace hyp := (if_neg q3).symm.trans hyp
    refine V_iconst (pc := 8) C dX12_isTold_8 (v := 1) (by decide) ?_
    cases hyp
    exact V_zret C dX12_isTold_9 rfl
def MT (N : Nat) : Nat → (Int32 → Int32 → Int32 → PH → Option (Int32 × PH)) × (Int32 → Int32 → PH → Option (Int32 × PH))
  | 0 => (fun _ _ _ _ => none, fun _ _ _ => none)
  | d + 1 => (F_X12_tells N ((MT N d).1) ((MT N d).2), F_X12_isTold N ((MT N d).1) ((MT N d).2))
set_option maxRecDepth 20000 in
set_option maxHeartbeats 4000000 in
theorem MT_ok (E : EV) (N : Nat) : ∀ d : Nat, (∀ (a1 : Int32) (a2 : Int32) (a3 : Int32) (h : PH) (r : Int32) (h2 : PH), (MT N d).1 a1 a2 a3 h = some (r, h2) → MI E 154 yX12_tells cX12_tells 7 (some .boolean) (d * 3) (d * 82) [.ref 103, .int a1, .int a2, .int a3] h r h2) ∧ (∀ (a1 : Int32) (a2 : Int32) (h : PH) (r : Int32) (h2 : PH), (MT N d).2 a1 a2 h = some (r, h2) → MI E 154 yX12_isTold cX12_isTold 4 (some .boolean) (d * 3) (d * 82) [.ref 103, .int a1, .int a2] h r h2) := by
  intro d
  induction d with
  | zero => refine ⟨(by intros; rename_i e; cases e), (by intros; rename_i e; cases e)⟩
  | succ d ih =>
    have e1 : (d + 1) * 3 = d * 3 + 1 + 2 := by omega
    have e2 : (d + 1) * 82 = d * 82 + 40 + 42 := by omega
    rw [e1, e2]
    refine ⟨fun a1 a2 a3 h r h2 hyp => M_X12_tells E ih.1 ih.2  hyp, fun a1 a2 h r h2 hyp => M_X12_isTold E ih.1 ih.2  hyp⟩
def G_X12_tells (N : Nat) (a1 : Int32) (a2 : Int32) (a3 : Int32) (h : PH) : Option (Int32 × PH) := (MT N 8).1 a1 a2 a3 h
theorem MG_X12_tells (E : EV) {N : Nat} {a1 : Int32} {a2 : Int32} {a3 : Int32} {r : Int32} {h h2 : PH} (hyp : G_X12_tells N a1 a2 a3 h = some (r, h2)) : MI E 154 yX12_tells cX12_tells 7 (some .boolean) 24 656 [.ref 103, .int a1, .int a2, .int a3] h r h2 := (MT_ok E N 8).1 a1 a2 a3 h r h2  hyp
def G_X12_isTold (N : Nat) (a1 : Int32) (a2 : Int32) (h : PH) : Option (Int32 × PH) := (MT N 8).2 a1 a2 h
theorem MG_X12_isTold (E : EV) {N : Nat} {a1 : Int32} {a2 : Int32} {r : Int32} {h h2 : PH} (hyp : G_X12_isTold N a1 a2 h = some (r, h2)) : MI E 154 yX12_isTold cX12_isTold 4 (some .boolean) 24 656 [.ref 103, .int a1, .int a2] h r h2 := (MT_ok E N 8).2 a1 a2 h r h2  hyp
