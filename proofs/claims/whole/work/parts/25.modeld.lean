theorem dX12_behind_0 : decode cX12_behind 0 = .ok (.aload_n 0, 1) := by decide +kernel
theorem dX12_behind_1 : decode cX12_behind 1 = .ok (.iconst 0, 1) := by decide +kernel
theorem dX12_behind_2 : decode cX12_behind 2 = .ok (.putfield 366, 3) := by decide +kernel
theorem dX12_behind_5 : decode cX12_behind 5 = .ok (.aload_n 0, 1) := by decide +kernel
theorem dX12_behind_6 : decode cX12_behind 6 = .ok (.iload_n 1, 1) := by decide +kernel
theorem dX12_behind_7 : decode cX12_behind 7 = .ok (.iload_n 1, 1) := by decide +kernel
theorem dX12_behind_8 : decode cX12_behind 8 = .ok (.sipush 255, 3) := by decide +kernel
theorem dX12_behind_11 : decode cX12_behind 11 = .ok (.iand, 1) := by decide +kernel
theorem dX12_behind_12 : decode cX12_behind 12 = .ok (.iload_n 2, 1) := by decide +kernel
theorem dX12_behind_13 : decode cX12_behind 13 = .ok (.invokevirtual 369, 3) := by decide +kernel
theorem dX12_behind_16 : decode cX12_behind 16 = .ok (.iconst 0, 1) := by decide +kernel
theorem dX12_behind_17 : decode cX12_behind 17 = .ok (.istore_n 3, 1) := by decide +kernel
theorem dX12_behind_18 : decode cX12_behind 18 = .ok (.iconst 0, 1) := by decide +kernel
theorem dX12_behind_19 : decode cX12_behind 19 = .ok (.istore 4, 2) := by decide +kernel
theorem dX12_behind_21 : decode cX12_behind 21 = .ok (.iload 4, 2) := by decide +kernel
theorem dX12_behind_23 : decode cX12_behind 23 = .ok (.bipush 8, 2) := by decide +kernel
theorem dX12_behind_25 : decode cX12_behind 25 = .ok (.if_icmp .ge 29, 3) := by decide +kernel
theorem dX12_behind_28 : decode cX12_behind 28 = .ok (.iload_n 3, 1) := by decide +kernel
theorem dX12_behind_29 : decode cX12_behind 29 = .ok (.aload_n 0, 1) := by decide +kernel
theorem dX12_behind_30 : decode cX12_behind 30 = .ok (.iload 4, 2) := by decide +kernel
theorem dX12_behind_32 : decode cX12_behind 32 = .ok (.invokevirtual 373, 3) := by decide +kernel
theorem dX12_behind_35 : decode cX12_behind 35 = .ok (.ifCond .eq 10, 3) := by decide +kernel
theorem dX12_behind_38 : decode cX12_behind 38 = .ok (.iconst 1, 1) := by decide +kernel
theorem dX12_behind_39 : decode cX12_behind 39 = .ok (.iload 4, 2) := by decide +kernel
theorem dX12_behind_41 : decode cX12_behind 41 = .ok (.ishl, 1) := by decide +kernel
theorem dX12_behind_42 : decode cX12_behind 42 = .ok (.goto 4, 3) := by decide +kernel
theorem dX12_behind_45 : decode cX12_behind 45 = .ok (.iconst 0, 1) := by decide +kernel
theorem dX12_behind_46 : decode cX12_behind 46 = .ok (.ior, 1) := by decide +kernel
theorem dX12_behind_47 : decode cX12_behind 47 = .ok (.istore_n 3, 1) := by decide +kernel
theorem dX12_behind_48 : decode cX12_behind 48 = .ok (.iinc 4 1, 3) := by decide +kernel
theorem dX12_behind_51 : decode cX12_behind 51 = .ok (.goto (-30), 3) := by decide +kernel
theorem dX12_behind_54 : decode cX12_behind 54 = .ok (.aload_n 0, 1) := by decide +kernel
theorem dX12_behind_55 : decode cX12_behind 55 = .ok (.iload_n 1, 1) := by decide +kernel
theorem dX12_behind_56 : decode cX12_behind 56 = .ok (.iload_n 3, 1) := by decide +kernel
theorem dX12_behind_57 : decode cX12_behind 57 = .ok (.iload_n 2, 1) := by decide +kernel
theorem dX12_behind_58 : decode cX12_behind 58 = .ok (.invokevirtual 369, 3) := by decide +kernel
theorem dX12_behind_61 : decode cX12_behind 61 = .ok (.aload_n 0, 1) := by decide +kernel
theorem dX12_behind_62 : decode cX12_behind 62 = .ok (.bipush 8, 2) := by decide +kernel
theorem dX12_behind_64 : decode cX12_behind 64 = .ok (.invokevirtual 373, 3) := by decide +kernel
theorem dX12_behind_67 : decode cX12_behind 67 = .ok (.istore 4, 2) := by decide +kernel
theorem dX12_behind_69 : decode cX12_behind 69 = .ok (.aload_n 0, 1) := by decide +kernel
theorem dX12_behind_70 : decode cX12_behind 70 = .ok (.bipush 9, 2) := by decide +kernel
theorem dX12_behind_72 : decode cX12_behind 72 = .ok (.invokevirtual 373, 3) := by decide +kernel
theorem dX12_behind_75 : decode cX12_behind 75 = .ok (.istore 5, 2) := by decide +kernel
theorem dX12_behind_77 : decode cX12_behind 77 = .ok (.aload_n 0, 1) := by decide +kernel
theorem dX12_behind_78 : decode cX12_behind 78 = .ok (.bipush 10, 2) := by decide +kernel
theorem dX12_behind_80 : decode cX12_behind 80 = .ok (.invokevirtual 373, 3) := by decide +kernel
theorem dX12_behind_83 : decode cX12_behind 83 = .ok (.istore 6, 2) := by decide +kernel
theorem dX12_behind_85 : decode cX12_behind 85 = .ok (.iload_n 1, 1) := by decide +kernel
theorem dX12_behind_86 : decode cX12_behind 86 = .ok (.invokestatic 363, 3) := by decide +kernel
theorem dX12_behind_89 : decode cX12_behind 89 = .ok (.istore 7, 2) := by decide +kernel
theorem dX12_behind_91 : decode cX12_behind 91 = .ok (.iload_n 1, 1) := by decide +kernel
theorem dX12_behind_92 : decode cX12_behind 92 = .ok (.invokestatic 360, 3) := by decide +kernel
theorem dX12_behind_95 : decode cX12_behind 95 = .ok (.istore 8, 2) := by decide +kernel
theorem dX12_behind_97 : decode cX12_behind 97 = .ok (.iload 8, 2) := by decide +kernel
theorem dX12_behind_99 : decode cX12_behind 99 = .ok (.ifCond .eq 10, 3) := by decide +kernel
theorem dX12_behind_102 : decode cX12_behind 102 = .ok (.iload 6, 2) := by decide +kernel
theorem dX12_behind_104 : decode cX12_behind 104 = .ok (.istore 8, 2) := by decide +kernel
theorem dX12_behind_106 : decode cX12_behind 106 = .ok (.goto 56, 3) := by decide +kernel
theorem dX12_behind_109 : decode cX12_behind 109 = .ok (.iload 4, 2) := by decide +kernel
theorem dX12_behind_111 : decode cX12_behind 111 = .ok (.iload 5, 2) := by decide +kernel
theorem dX12_behind_113 : decode cX12_behind 113 = .ok (.if_icmp .eq 45, 3) := by decide +kernel
theorem dX12_behind_116 : decode cX12_behind 116 = .ok (.iload 4, 2) := by decide +kernel
theorem dX12_behind_118 : decode cX12_behind 118 = .ok (.ifCond .eq 10, 3) := by decide +kernel
theorem dX12_behind_121 : decode cX12_behind 121 = .ok (.iload 7, 2) := by decide +kernel
theorem dX12_behind_123 : decode cX12_behind 123 = .ok (.iconst 1, 1) := by decide +kernel
theorem dX12_behind_124 : decode cX12_behind 124 = .ok (.iadd, 1) := by decide +kernel
theorem dX12_behind_125 : decode cX12_behind 125 = .ok (.goto 7, 3) := by decide +kernel
theorem dX12_behind_128 : decode cX12_behind 128 = .ok (.iload 7, 2) := by decide +kernel
theorem dX12_behind_130 : decode cX12_behind 130 = .ok (.iconst 1, 1) := by decide +kernel
theorem dX12_behind_131 : decode cX12_behind 131 = .ok (.isub, 1) := by decide +kernel
theorem dX12_behind_132 : decode cX12_behind 132 = .ok (.istore 9, 2) := by decide +kernel
theorem dX12_behind_134 : decode cX12_behind 134 = .ok (.aload_n 0, 1) := by decide +kernel
theorem dX12_behind_135 : decode cX12_behind 135 = .ok (.iload 9, 2) := by decide +kernel
theorem dX12_behind_137 : decode cX12_behind 137 = .ok (.invokevirtual 376, 3) := by decide +kernel
theorem dX12_behind_140 : decode cX12_behind 140 = .ok (.ifCond .eq 10, 3) := by decide +kernel
theorem dX12_behind_143 : decode cX12_behind 143 = .ok (.iload 9, 2) := by decide +kernel
theorem dX12_behind_145 : decode cX12_behind 145 = .ok (.istore 7, 2) := by decide +kernel
theorem dX12_behind_147 : decode cX12_behind 147 = .ok (.goto 8, 3) := by decide +kernel
theorem dX12_behind_150 : decode cX12_behind 150 = .ok (.aload_n 0, 1) := by decide +kernel
theorem dX12_behind_151 : decode cX12_behind 151 = .ok (.iconst 1, 1) := by decide +kernel
theorem dX12_behind_152 : decode cX12_behind 152 = .ok (.putfield 366, 3) := by decide +kernel
theorem dX12_behind_155 : decode cX12_behind 155 = .ok (.goto 7, 3) := by decide +kernel
theorem dX12_behind_158 : decode cX12_behind 158 = .ok (.iload 6, 2) := by decide +kernel
theorem dX12_behind_160 : decode cX12_behind 160 = .ok (.istore 8, 2) := by decide +kernel
theorem dX12_behind_162 : decode cX12_behind 162 = .ok (.iload_n 3, 1) := by decide +kernel
theorem dX12_behind_163 : decode cX12_behind 163 = .ok (.sipush 256, 3) := by decide +kernel
theorem dX12_behind_166 : decode cX12_behind 166 = .ok (.iload 7, 2) := by decide +kernel
theorem dX12_behind_168 : decode cX12_behind 168 = .ok (.imul, 1) := by decide +kernel
theorem dX12_behind_169 : decode cX12_behind 169 = .ok (.iadd, 1) := by decide +kernel
theorem dX12_behind_170 : decode cX12_behind 170 = .ok (.iload 8, 2) := by decide +kernel
theorem dX12_behind_172 : decode cX12_behind 172 = .ok (.ifCond .eq 9, 3) := by decide +kernel
theorem dX12_behind_175 : decode cX12_behind 175 = .ok (.sipush 1536, 3) := by decide +kernel
theorem dX12_behind_178 : decode cX12_behind 178 = .ok (.goto 4, 3) := by decide +kernel
theorem dX12_behind_181 : decode cX12_behind 181 = .ok (.iconst 0, 1) := by decide +kernel
theorem dX12_behind_182 : decode cX12_behind 182 = .ok (.iadd, 1) := by decide +kernel
theorem dX12_behind_183 : decode cX12_behind 183 = .ok (.ireturn, 1) := by decide +kernel
def F_X12_behind_b46 (N : Nat) (rc21 : Int32 → Int32 → Int32 → Int32 → PH → Option (Int32 × PH)) (x1 : Int32) (x2 : Int32) (x4 : Int32) (s0 : Int32) (s1 : Int32) (h : PH) : Option (Int32 × PH) :=
  ib (s1 ||| s0) fun v1 =>
  ib (x4 + (1 : Int32)) fun v2 =>
  rc21 x1 x2 v1 v2 h
set_option maxRecDepth 20000 in
set_option maxHeartbeats 4000000 in
theorem T_X12_behind_b46 {X : CT} (C : CX X 154 cX12_behind 10 RX12 (some .int) 4 89) {r0 : Int32} {h0 : PH} {N : Nat} {rc21 : Int32 → Int32 → Int32 → Int32 → PH → Option (Int32 × PH)} (hr21 : ∀ (x1 : Int32) (x2 : Int32) (x3 : Int32) (x4 : Int32) (h : PH), rc21 x1 x2 x3 x4 h = some (r0, h0) → V X (QI X r0 h0) h 21 [some (.ref 103), some (.int x1), some (.int x2), some (.int x3), some (.int x4), none, none, none, none, none] []) : ∀ (x1 : Int32) (x2 : Int32) (x4 : Int32) (s0 : Int32) (s1 : Int32) (h : PH), F_X12_behind_b46 N rc21 x1 x2 x4 s0 s1 h = some (r0, h0) → V X (QI X r0 h0) h 46 [some (.ref 103), some (.int x1), some (.int x2), none, some (.int x4), none, none, none, none, none] [.int s0, .int s1] := by
  intro x1 x2 x4 s0 s1 h hyp
  unfold F_X12_behind_b46 at hyp
  refine V_ior (pc := 46) C dX12_behind_46 ?_
  obtain ⟨v1, ev1, hyp⟩ := ib_n hyp
  refine V_topI ev1 ?_
  refine V_istore_n (pc := 47) C dX12_behind_47 (by decide) rfl ?_
  obtain ⟨v2, ev2, hyp⟩ := ib_n hyp
  refine V_iinc (pc := 48) C dX12_behind_48 (v := v2) rfl (by rw [ev2]; rfl) (by decide) rfl ?_
  refine V_goto (pc := 51) C dX12_behind_51 (tgt := 21) (by decide) ?_
  refine V_weak (lv' := [some (.ref 103), some (.int x1), some (.int x2), some (.int v1), some (.int v2), none, none, none, none, none]) (lvle_s (lvle_s (lvle_s (lvle_s (lvle_s (lvle_n (lvle_n (lvle_n (lvle_n (lvle_n lvle_0)))))))))) ?_
  exact hr21 x1 x2 v1 v2 h hyp
def F_X12_behind_b182 (N : Nat) (s0 : Int32) (s1 : Int32) (h : PH) : Option (Int32 × PH) :=
  some (s1 + s0, h)
set_option maxRecDepth 20000 in
set_option maxHeartbeats 4000000 in
theorem T_X12_behind_b182 {X : CT} (C : CX X 154 cX12_behind 10 RX12 (some .int) 4 89) {r0 : Int32} {h0 : PH} {N : Nat} : ∀ (s0 : Int32) (s1 : Int32) (h : PH), F_X12_behind_b182 N s0 s1 h = some (r0, h0) → V X (QI X r0 h0) h 182 [none, none, none, none, none, none, none, none, none, none] [.int s0, .int s1] := by
  intro s0 s1 h hyp
  unfold F_X12_behind_b182 at hyp
  refine V_iadd (pc := 182) C dX12_behind_182 ?_
  cases hyp
  exact V_iret C dX12_behind_183
def F_X12_behind_b162 (N : Nat) (x3 : Int32) (x7 : Int32) (x8 : Int32) (h : PH) : Option (Int32 × PH) :=
  if x8 = 0 then
    F_X12_behind_b182 N (0 : Int32) (x3 + ((256 : Int32) * x7)) h
  else
    F_X12_behind_b182 N (1536 : Int32) (x3 + ((256 : Int32) * x7)) h
set_option maxRecDepth 20000 in
set_option maxHeartbeats 4000000 in
theorem T_X12_behind_b162 {X : CT} (C : CX X 154 cX12_behind 10 RX12 (some .int) 4 89) {r0 : Int32} {h0 : PH} {N : Nat} : ∀ (x3 : Int32) (x7 : Int32) (x8 : Int32) (h : PH), F_X12_behind_b162 N x3 x7 x8 h = some (r0, h0) → V X (QI X r0 h0) h 162 [none, none, none, some (.int x3), none, none, none, some (.int x7), some (.int x8), none] [] := by
  intro x3 x7 x8 h hyp
  unfold F_X12_behind_b162 at hyp
  refine V_iload_n (pc := 162) C dX12_behind_162 rfl ?_
  refine V_sipush (pc := 163) C dX12_behind_163 (v := 256) (by decide) ?_
  refine V_iload (pc := 166) C dX12_behind_166 rfl ?_
  refine V_imul (pc := 168) C dX12_behind_168 ?_
  refine V_iadd (pc := 169) C dX12_behind_169 ?_
  refine V_iload (pc := 170) C dX12_behind_170 rfl ?_
  refine V_if_eq (pc := 172) C dX12_behind_172 (tgt := 181) (by decide) (fun q1 => ?_) (fun q1 => ?_)
  · replace hyp := (if_pos q1).symm.trans hyp
    refine V_iconst (pc := 181) C dX12_behind_181 (v := 0) (by decide) ?_
    refine V_weak (lv' := [none, none, none, none, none, none, none, none, none, none]) (lvle_n (lvle_n (lvle_n (lvle_n (lvle_n (lvle_n (lvle_n (lvle_n (lvle_n (lvle_n lvle_0)))))))))) ?_
    exact (T_X12_behind_b182 C) (0 : Int32) (x3 + ((256 : Int32) * x7)) h hyp
  · replace hyp := (if_neg q1).symm.trans hyp
    refine V_sipush (pc := 175) C dX12_behind_175 (v := 1536) (by decide) ?_
    refine V_goto (pc := 178) C dX12_behind_178 (tgt := 182) (by decide) ?_
    refine V_weak (lv' := [none, none, none, none, none, none, none, none, none, none]) (lvle_n (lvle_n (lvle_n (lvle_n (lvle_n (lvle_n (lvle_n (lvle_n (lvle_n (lvle_n lvle_0)))))))))) ?_
    exact (T_X12_behind_b182 C) (1536 : Int32) (x3 + ((256 : Int32) * x7)) h hyp
def F_X12_behind_b155 (N : Nat) (x3 : Int32) (x7 : Int32) (x8 : Int32) (h : PH) : Option (Int32 × PH) :=
  F_X12_behind_b162 N x3 x7 x8 h
set_option maxRecDepth 20000 in
set_option maxHeartbeats 4000000 in
theorem T_X12_behind_b155 {X : CT} (C : CX X 154 cX12_behind 10 RX12 (some .int) 4 89) {r0 : Int32} {h0 : PH} {N : Nat} : ∀ (x3 : Int32) (x7 : Int32) (x8 : Int32) (h : PH), F_X12_behind_b155 N x3 x7 x8 h = some (r0, h0) → V X (QI X r0 h0) h 155 [none, none, none, some (.int x3), none, none, none, some (.int x7), some (.int x8), none] [] := by
  intro x3 x7 x8 h hyp
  unfold F_X12_behind_b155 at hyp
  refine V_goto (pc := 155) C dX12_behind_155 (tgt := 162) (by decide) ?_
  refine V_weak (lv' := [none, none, none, some (.int x3), none, none, none, some (.int x7), some (.int x8), none]) (lvle_n (lvle_n (lvle_n (lvle_s (lvle_n (lvle_n (lvle_n (lvle_s (lvle_s (lvle_n lvle_0)))))))))) ?_
  exact (T_X12_behind_b162 C) x3 x7 x8 h hyp
def F_X12_behind_b132 (N : Nat) (x3 : Int32) (x7 : Int32) (x8 : Int32) (s0 : Int32) (h : PH) : Option (Int32 × PH) :=
  bI (F_X12_isFloor s0 h) fun r1 h2 =>
  if r1 = 0 then
    hb (hs h2 103 36 (1 : Int32)) fun h4 =>
    F_X12_behind_b155 N x3 x7 x8 h4
  else
    F_X12_behind_b155 N x3 s0 x8 h2
set_option maxRecDepth 20000 in
set_option maxHeartbeats 4000000 in
theorem T_X12_behind_b132 {X : CT} (C : CX X 154 cX12_behind 10 RX12 (some .int) 4 89) {r0 : Int32} {h0 : PH} {N : Nat} : ∀ (x3 : Int32) (x7 : Int32) (x8 : Int32) (s0 : Int32) (h : PH), F_X12_behind_b132 N x3 x7 x8 s0 h = some (r0, h0) → V X (QI X r0 h0) h 132 [some (.ref 103), none, none, some (.int x3), none, none, none, some (.int x7), some (.int x8), none] [.int s0] := by
  intro x3 x7 x8 s0 h hyp
  unfold F_X12_behind_b132 at hyp
  refine V_istore (pc := 132) C dX12_behind_132 (by decide) rfl ?_
  refine V_aload_n (pc := 134) C dX12_behind_134 rfl ?_
  refine V_iload (pc := 135) C dX12_behind_135 rfl ?_
  obtain ⟨r1, h2, eh2, hyp⟩ := bI_n hyp
  refine V_callI (pc := 137) C dX12_behind_137 lm_X12_376 mk_X12_isFloor ok_103 rfl (M_X12_isFloor _ eh2) rfl pd_X12_isFloor (by decide) (by decide) (by decide) (As := [.int s0]) (rest := []) rfl (Nat.le_of_ble_eq_true rfl) ?_
  refine V_if_eq (pc := 140) C dX12_behind_140 (tgt := 150) (by decide) (fun q3 => ?_) (fun q3 => ?_)
  · replace hyp := (if_pos q3).symm.trans hyp
    refine V_aload_n (pc := 150) C dX12_behind_150 rfl ?_
    refine V_iconst (pc := 151) C dX12_behind_151 (v := 1) (by decide) ?_
    obtain ⟨h4, eh4, hyp⟩ := hb_n hyp
    refine V_putI (pc := 152) C dX12_behind_152 lf_X12_366 fk_103_36 rfl rfl eh4 ?_
    refine V_weak (lv' := [none, none, none, some (.int x3), none, none, none, some (.int x7), some (.int x8), none]) (lvle_n (lvle_n (lvle_n (lvle_s (lvle_n (lvle_n (lvle_n (lvle_s (lvle_s (lvle_n lvle_0)))))))))) ?_
    exact (T_X12_behind_b155 C) x3 x7 x8 h4 hyp
  · replace hyp := (if_neg q3).symm.trans hyp
    refine V_iload (pc := 143) C dX12_behind_143 rfl ?_
    refine V_istore (pc := 145) C dX12_behind_145 (by decide) rfl ?_
    refine V_goto (pc := 147) C dX12_behind_147 (tgt := 155) (by decide) ?_
    refine V_weak (lv' := [none, none, none, some (.int x3), none, none, none, some (.int s0), some (.int x8), none]) (lvle_n (lvle_n (lvle_n (lvle_s (lvle_n (lvle_n (lvle_n (lvle_s (lvle_s (lvle_n lvle_0)))))))))) ?_
    exact (T_X12_behind_b155 C) x3 s0 x8 h2 hyp
def F_X12_behind_b54 (N : Nat) (x1 : Int32) (x2 : Int32) (x3 : Int32) (h : PH) : Option (Int32 × PH) :=
  bV (F_X12_sets N x1 x3 x2 h) fun h2 =>
  bI (F_X12_isSo N (8 : Int32) h2) fun r3 h4 =>
  bI (F_X12_isSo N (9 : Int32) h4) fun r5 h6 =>
  bI (F_X12_isSo N (10 : Int32) h6) fun r7 h8 =>
  bI (F_X12_floorOf x1 h8) fun r9 h10 =>
  bI (F_X12_isOpen x1 h10) fun r11 h12 =>
  if r11 = 0 then
    if r3 = r5 then
      F_X12_behind_b162 N x3 r9 r7 h12
    else
      if r3 = 0 then
        F_X12_behind_b132 N x3 r9 r11 (r9 - (1 : Int32)) h12
      else
        F_X12_behind_b132 N x3 r9 r11 (r9 + (1 : Int32)) h12
  else
    F_X12_behind_b162 N x3 r9 r7 h12
set_option maxRecDepth 20000 in
set_option maxHeartbeats 4000000 in
theorem T_X12_behind_b54 {X : CT} (C : CX X 154 cX12_behind 10 RX12 (some .int) 4 89) {r0 : Int32} {h0 : PH} {N : Nat} : ∀ (x1 : Int32) (x2 : Int32) (x3 : Int32) (h : PH), F_X12_behind_b54 N x1 x2 x3 h = some (r0, h0) → V X (QI X r0 h0) h 54 [some (.ref 103), some (.int x1), some (.int x2), some (.int x3), none, none, none, none, none, none] [] := by
  intro x1 x2 x3 h hyp
  unfold F_X12_behind_b54 at hyp
  refine V_aload_n (pc := 54) C dX12_behind_54 rfl ?_
  refine V_iload_n (pc := 55) C dX12_behind_55 rfl ?_
  refine V_iload_n (pc := 56) C dX12_behind_56 rfl ?_
  refine V_iload_n (pc := 57) C dX12_behind_57 rfl ?_
  obtain ⟨h2, eh2, hyp⟩ := bV_n hyp
  refine V_callV (pc := 58) C dX12_behind_58 lm_X12_369 mk_X12_sets ok_103 rfl (M_X12_sets _ eh2) rfl pd_X12_sets (by decide) (by decide) (by decide) (As := [.int x1, .int x3, .int x2]) (rest := []) rfl (Nat.le_of_ble_eq_true rfl) ?_
  refine V_aload_n (pc := 61) C dX12_behind_61 rfl ?_
  refine V_bipush (pc := 62) C dX12_behind_62 (v := 8) (by decide) ?_
  obtain ⟨r3, h4, eh4, hyp⟩ := bI_n hyp
  refine V_callI (pc := 64) C dX12_behind_64 lm_X12_373 mk_X12_isSo ok_103 rfl (M_X12_isSo _ eh4) rfl pd_X12_isSo (by decide) (by decide) (by decide) (As := [.int (8 : Int32)]) (rest := []) rfl (Nat.le_of_ble_eq_true rfl) ?_
  refine V_istore (pc := 67) C dX12_behind_67 (by decide) rfl ?_
  refine V_aload_n (pc := 69) C dX12_behind_69 rfl ?_
  refine V_bipush (pc := 70) C dX12_behind_70 (v := 9) (by decide) ?_
  obtain ⟨r5, h6, eh6, hyp⟩ := bI_n hyp
  refine V_callI (pc := 72) C dX12_behind_72 lm_X12_373 mk_X12_isSo ok_103 rfl (M_X12_isSo _ eh6) rfl pd_X12_isSo (by decide) (by decide) (by decide) (As := [.int (9 : Int32)]) (rest := []) rfl (Nat.le_of_ble_eq_true rfl) ?_
  refine V_istore (pc := 75) C dX12_behind_75 (by decide) rfl ?_
  refine V_aload_n (pc := 77) C dX12_behind_77 rfl ?_
  refine V_bipush (pc := 78) C dX12_behind_78 (v := 10) (by decide) ?_
  obtain ⟨r7, h8, eh8, hyp⟩ := bI_n hyp
  refine V_callI (pc := 80) C dX12_behind_80 lm_X12_373 mk_X12_isSo ok_103 rfl (M_X12_isSo _ eh8) rfl pd_X12_isSo (by decide) (by decide) (by decide) (As := [.int (10 : Int32)]) (rest := []) rfl (Nat.le_of_ble_eq_true rfl) ?_
  refine V_istore (pc := 83) C dX12_behind_83 (by decide) rfl ?_
  refine V_iload_n (pc := 85) C dX12_behind_85 rfl ?_
  obtain ⟨r9, h10, eh10, hyp⟩ := bI_n hyp
  refine V_statI (pc := 86) C dX12_behind_86 lm_X12_363 ms_X12_floorOf (M_X12_floorOf _ eh10) rfl pd_X12_floorOf (by decide) (by decide) (by decide) (As := [.int x1]) (rest := []) rfl (Nat.le_of_ble_eq_true rfl) ?_
  refine V_istore (pc := 89) C dX12_behind_89 (by decide) rfl ?_
  refine V_iload_n (pc := 91) C dX12_behind_91 rfl ?_
  obtain ⟨r11, h12, eh12, hyp⟩ := bI_n hyp
  refine V_statI (pc := 92) C dX12_behind_92 lm_X12_360 ms_X12_isOpen (M_X12_isOpen _ eh12) rfl pd_X12_isOpen (by decide) (by decide) (by decide) (As := [.int x1]) (rest := []) rfl (Nat.le_of_ble_eq_true rfl) ?_
  refine V_istore (pc := 95) C dX12_behind_95 (by decide) rfl ?_
  refine V_iload (pc := 97) C dX12_behind_97 rfl ?_
  refine V_if_eq (pc := 99) C dX12_behind_99 (tgt := 109) (by decide) (fun q13 => ?_) (fun q13 => ?_)
  · replace hyp := (if_pos q13).symm.trans hyp
    refine V_iload (pc := 109) C dX12_behind_109 rfl ?_
    refine V_iload (pc := 111) C dX12_behind_111 rfl ?_
    refine V_icmp_eq (pc := 113) C dX12_behind_113 (tgt := 158) (by decide) (fun q14 => ?_) (fun q14 => ?_)
    · replace hyp := (if_pos q14).symm.trans hyp
      refine V_iload (pc := 158) C dX12_behind_158 rfl ?_
      refine V_istore (pc := 160) C dX12_behind_160 (by decide) rfl ?_
      refine V_weak (lv' := [none, none, none, some (.int x3), none, none, none, some (.int r9), some (.int r7), none]) (lvle_n (lvle_n (lvle_n (lvle_s (lvle_n (lvle_n (lvle_n (lvle_s (lvle_s (lvle_n lvle_0)))))))))) ?_
      exact (T_X12_behind_b162 C) x3 r9 r7 h12 hyp
    · replace hyp := (if_neg q14).symm.trans hyp
      refine V_iload (pc := 116) C dX12_behind_116 rfl ?_
      refine V_if_eq (pc := 118) C dX12_behind_118 (tgt := 128) (by decide) (fun q15 => ?_) (fun q15 => ?_)
      · replace hyp := (if_pos q15).symm.trans hyp
        refine V_iload (pc := 128) C dX12_behind_128 rfl ?_
        refine V_iconst (pc := 130) C dX12_behind_130 (v := 1) (by decide) ?_
        refine V_isub (pc := 131) C dX12_behind_131 ?_
        refine V_weak (lv' := [some (.ref 103), none, none, some (.int x3), none, none, none, some (.int r9), some (.int r11), none]) (lvle_s (lvle_n (lvle_n (lvle_s (lvle_n (lvle_n (lvle_n (lvle_s (lvle_s (lvle_n lvle_0)))))))))) ?_
        exact (T_X12_behind_b132 C) x3 r9 r11 (r9 - (1 : Int32)) h12 hyp
      · replace hyp := (if_neg q15).symm.trans hyp
        refine V_iload (pc := 121) C dX12_behind_121 rfl ?_
        refine V_iconst (pc := 123) C dX12_behind_123 (v := 1) (by decide) ?_
        refine V_iadd (pc := 124) C dX12_behind_124 ?_
        refine V_goto (pc := 125) C dX12_behind_125 (tgt := 132) (by decide) ?_
        refine V_weak (lv' := [some (.ref 103), none, none, some (.int x3), none, none, none, some (.int r9), some (.int r11), none]) (lvle_s (lvle_n (lvle_n (lvle_s (lvle_n (lvle_n (lvle_n (lvle_s (lvle_s (lvle_n lvle_0)))))))))) ?_
        exact (T_X12_behind_b132 C) x3 r9 r11 (r9 + (1 : Int32)) h12 hyp
  · replace hyp := (if_neg q13).symm.trans hyp
    refine V_iload (pc := 102) C dX12_behind_102 rfl ?_
    refine V_istore (pc := 104) C dX12_behind_104 (by decide) rfl ?_
    refine V_goto (pc := 106) C dX12_behind_106 (tgt := 162) (by decide) ?_
    refine V_weak (lv' := [none, none, none, some (.int x3), none, none, none, some (.int r9), some (.int r7), none]) (lvle_n (lvle_n (lvle_n (lvle_s (lvle_n (lvle_n (lvle_n (lvle_s (lvle_s (lvle_n lvle_0)))))))))) ?_
    exact (T_X12_behind_b162 C) x3 r9 r7 h12 hyp
def F_X12_behind_b21 (N : Nat) : Nat → Int32 → Int32 → Int32 → Int32 → PH → Option (Int32 × PH)
  | 0, _, _, _, _, _ => none
  | n + 1, x1, x2, x3, x4, h =>
    if (8 : Int32) ≤ x4 then
      F_X12_behind_b54 N x1 x2 x3 h
    else
      bI (F_X12_isSo N x4 h) fun r2 h3 =>
      if r2 = 0 then
        F_X12_behind_b46 N (F_X12_behind_b21 N n) x1 x2 x4 (0 : Int32) x3 h3
      else
        F_X12_behind_b46 N (F_X12_behind_b21 N n) x1 x2 x4 ((1 : Int32) <<< (x4 &&& 31)) x3 h3
set_option maxRecDepth 20000 in
set_option maxHeartbeats 4000000 in
theorem T_X12_behind_b21 {X : CT} (C : CX X 154 cX12_behind 10 RX12 (some .int) 4 89) {r0 : Int32} {h0 : PH} {N : Nat} : ∀ (n : Nat) (x1 : Int32) (x2 : Int32) (x3 : Int32) (x4 : Int32) (h : PH), F_X12_behind_b21 N n x1 x2 x3 x4 h = some (r0, h0) → V X (QI X r0 h0) h 21 [some (.ref 103), some (.int x1), some (.int x2), some (.int x3), some (.int x4), none, none, none, none, none] [] := by
  intro n
  induction n with
  | zero =>
    intro x1 x2 x3 x4 h hyp
    cases hyp
  | succ n ih =>
    intro x1 x2 x3 x4 h hyp
    unfold F_X12_behind_b21 at hyp
    refine V_iload (pc := 21) C dX12_behind_21 rfl ?_
    refine V_bipush (pc := 23) C dX12_behind_23 (v := 8) (by decide) ?_
    refine V_icmp_ge (pc := 25) C dX12_behind_25 (tgt := 54) (by decide) (fun q1 => ?_) (fun q1 => ?_)
    · replace hyp := (if_pos q1).symm.trans hyp
      refine V_weak (lv' := [some (.ref 103), some (.int x1), some (.int x2), some (.int x3), none, none, none, none, none, none]) (lvle_s (lvle_s (lvle_s (lvle_s (lvle_n (lvle_n (lvle_n (lvle_n (lvle_n (lvle_n lvle_0)))))))))) ?_
      exact (T_X12_behind_b54 C) x1 x2 x3 h hyp
    · replace hyp := (if_neg q1).symm.trans hyp
      refine V_iload_n (pc := 28) C dX12_behind_28 rfl ?_
      refine V_aload_n (pc := 29) C dX12_behind_29 rfl ?_
      refine V_iload (pc := 30) C dX12_behind_30 rfl ?_
      obtain ⟨r2, h3, eh3, hyp⟩ := bI_n hyp
      refine V_callI (pc := 32) C dX12_behind_32 lm_X12_373 mk_X12_isSo ok_103 rfl (M_X12_isSo _ eh3) rfl pd_X12_isSo (by decide) (by decide) (by decide) (As := [.int x4]) (rest := [.int x3]) rfl (Nat.le_of_ble_eq_true rfl) ?_
      refine V_if_eq (pc := 35) C dX12_behind_35 (tgt := 45) (by decide) (fun q4 => ?_) (fun q4 => ?_)
      · replace hyp := (if_pos q4).symm.trans hyp
        refine V_iconst (pc := 45) C dX12_behind_45 (v := 0) (by decide) ?_
        refine V_weak (lv' := [some (.ref 103), some (.int x1), some (.int x2), none, some (.int x4), none, none, none, none, none]) (lvle_s (lvle_s (lvle_s (lvle_n (lvle_s (lvle_n (lvle_n (lvle_n (lvle_n (lvle_n lvle_0)))))))))) ?_
        exact (T_X12_behind_b46 C ih) x1 x2 x4 (0 : Int32) x3 h3 hyp
      · replace hyp := (if_neg q4).symm.trans hyp
        refine V_iconst (pc := 38) C dX12_behind_38 (v := 1) (by decide) ?_
        refine V_iload (pc := 39) C dX12_behind_39 rfl ?_
        refine V_ishl (pc := 41) C dX12_behind_41 ?_
        refine V_goto (pc := 42) C dX12_behind_42 (tgt := 46) (by decide) ?_
        refine V_weak (lv' := [some (.ref 103), some (.int x1), some (.int x2), none, some (.int x4), none, none, none, none, none]) (lvle_s (lvle_s (lvle_s (lvle_n (lvle_s (lvle_n (lvle_n (lvle_n (lvle_n (lvle_n lvle_0)))))))))) ?_
        exact (T_X12_behind_b46 C ih) x1 x2 x4 ((1 : Int32) <<< (x4 &&& 31)) x3 h3 hyp
def F_X12_behind (N : Nat) (a1 : Int32) (a2 : Int32) (h : PH) : Option (Int32 × PH) :=
  hb (hs h 103 36 (0 : Int32)) fun h1 =>
  bV (F_X12_sets N a1 (a1 &&& (255 : Int32)) a2 h1) fun h3 =>
  F_X12_behind_b21 N N a1 a2 (0 : Int32) (0 : Int32) h3
set_option maxRecDepth 20000 in
set_option maxHeartbeats 4000000 in
theorem M_X12_behind (E : EV) {N : Nat} {a1 : Int32} {a2 : Int32} {r : Int32} {h h2 : PH} (hyp : F_X12_behind N a1 a2 h = some (r, h2)) : MI E 154 yX12_behind cX12_behind 10 (some .int) 4 89 [.ref 103, .int a1, .int a2] h r h2 := by
  refine MI.of 7 (by decide) rfl (fun X e1 C => ?_)
  subst e1
  replace C : CX X 154 cX12_behind 10 RX12 (some .int) 4 89 := C
  show V X _ h 0 [some (.ref 103), some (.int a1), some (.int a2), none, none, none, none, none, none, none] []
  unfold F_X12_behind at hyp
  refine V_aload_n (pc := 0) C dX12_behind_0 rfl ?_
  refine V_iconst (pc := 1) C dX12_behind_1 (v := 0) (by decide) ?_
  obtain ⟨h1, eh1, hyp⟩ := hb_n hyp
  refine V_putI (pc := 2) C dX12_behind_2 lf_X12_366 fk_103_36 rfl rfl eh1 ?_
  refine V_aload_n (pc := 5) C dX12_behind_5 rfl ?_
  refine V_iload_n (pc := 6) C dX12_behind_6 rfl ?_
  refine V_iload_n (pc := 7) C dX12_behind_7 rfl ?_
  refine V_sipush (pc := 8) C dX12_behind_8 (v := 255) (by decide) ?_
  refine V_iand (pc := 11) C dX12_behind_11 ?_
  refine V_iload_n (pc := 12) C dX12_behind_12 rfl ?_
  obtain ⟨h3, eh3, hyp⟩ := bV_n hyp
  refine V_callV (pc := 13) C dX12_behind_13 lm_X12_369 mk_X12_sets ok_103 rfl (M_X12_sets _ eh3) rfl pd_X12_sets (by decide) (by decide) (by decide) (As := [.int a1, .int (a1 &&& (255 : Int32)), .int a2]) (rest := []) rfl (Nat.le_of_ble_eq_true rfl) ?_
  refine V_iconst (pc := 16) C dX12_behind_16 (v := 0) (by decide) ?_
  refine V_istore_n (pc := 17) C dX12_behind_17 (by decide) rfl ?_
  refine V_iconst (pc := 18) C dX12_behind_18 (v := 0) (by decide) ?_
  refine V_istore (pc := 19) C dX12_behind_19 (by decide) rfl ?_
  refine V_weak (lv' := [some (.ref 103), some (.int a1), some (.int a2), some (.int (0 : Int32)), some (.int (0 : Int32)), none, none, none, none, none]) (lvle_s (lvle_s (lvle_s (lvle_s (lvle_s (lvle_n (lvle_n (lvle_n (lvle_n (lvle_n lvle_0)))))))))) ?_
  exact (T_X12_behind_b21 C) N a1 a2 (0 : Int32) (0 : Int32) h3 hyp
theorem dX12_lampsOf_0 : decode cX12_lampsOf 0 = .ok (.aload_n 0, 1) := by decide +kernel
theorem dX12_lampsOf_1 : decode cX12_lampsOf 1 = .ok (.iload_n 1, 1) := by decide +kernel
theorem dX12_lampsOf_2 : decode cX12_lampsOf 2 = .ok (.iload_n 1, 1) := by decide +kernel
theorem dX12_lampsOf_3 : decode cX12_lampsOf 3 = .ok (.sipush 255, 3) := by decide +kernel
theorem dX12_lampsOf_6 : decode cX12_lampsOf 6 = .ok (.iand, 1) := by decide +kernel
theorem dX12_lampsOf_7 : decode cX12_lampsOf 7 = .ok (.iconst (-1), 1) := by decide +kernel
theorem dX12_lampsOf_8 : decode cX12_lampsOf 8 = .ok (.invokevirtual 369, 3) := by decide +kernel
theorem dX12_lampsOf_11 : decode cX12_lampsOf 11 = .ok (.iconst 0, 1) := by decide +kernel
theorem dX12_lampsOf_12 : decode cX12_lampsOf 12 = .ok (.istore_n 2, 1) := by decide +kernel
theorem dX12_lampsOf_13 : decode cX12_lampsOf 13 = .ok (.iconst 0, 1) := by decide +kernel
theorem dX12_lampsOf_14 : decode cX12_lampsOf 14 = .ok (.istore_n 3, 1) := by decide +kernel
theorem dX12_lampsOf_15 : decode cX12_lampsOf 15 = .ok (.iload_n 3, 1) := by decide +kernel
theorem dX12_lampsOf_16 : decode cX12_lampsOf 16 = .ok (.bipush 8, 2) := by decide +kernel
theorem dX12_lampsOf_18 : decode cX12_lampsOf 18 = .ok (.if_icmp .ge 30, 3) := by decide +kernel
theorem dX12_lampsOf_21 : decode cX12_lampsOf 21 = .ok (.iload_n 2, 1) := by decide +kernel
theorem dX12_lampsOf_22 : decode cX12_lampsOf 22 = .ok (.aload_n 0, 1) := by decide +kernel
theorem dX12_lampsOf_23 : decode cX12_lampsOf 23 = .ok (.bipush 11, 2) := by decide +kernel
theorem dX12_lampsOf_25 : decode cX12_lampsOf 25 = .ok (.iload_n 3, 1) := by decide +kernel
theorem dX12_lampsOf_26 : decode cX12_lampsOf 26 = .ok (.iadd, 1) := by decide +kernel
theorem dX12_lampsOf_27 : decode cX12_lampsOf 27 = .ok (.invokevirtual 373, 3) := by decide +kernel
theorem dX12_lampsOf_30 : decode cX12_lampsOf 30 = .ok (.ifCond .eq 9, 3) := by decide +kernel
theorem dX12_lampsOf_33 : decode cX12_lampsOf 33 = .ok (.iconst 1, 1) := by decide +kernel
theorem dX12_lampsOf_34 : decode cX12_lampsOf 34 = .ok (.iload_n 3, 1) := by decide +kernel
theorem dX12_lampsOf_35 : decode cX12_lampsOf 35 = .ok (.ishl, 1) := by decide +kernel
theorem dX12_lampsOf_36 : decode cX12_lampsOf 36 = .ok (.goto 4, 3) := by decide +kernel
theorem dX12_lampsOf_39 : decode cX12_lampsOf 39 = .ok (.iconst 0, 1) := by decide +kernel
theorem dX12_lampsOf_40 : decode cX12_lampsOf 40 = .ok (.ior, 1) := by decide +kernel
theorem dX12_lampsOf_41 : decode cX12_lampsOf 41 = .ok (.istore_n 2, 1) := by decide +kernel
theorem dX12_lampsOf_42 : decode cX12_lampsOf 42 = .ok (.iinc 3 1, 3) := by decide +kernel
theorem dX12_lampsOf_45 : decode cX12_lampsOf 45 = .ok (.goto (-30), 3) := by decide +kernel
theorem dX12_lampsOf_48 : decode cX12_lampsOf 48 = .ok (.iload_n 2, 1) := by decide +kernel
theorem dX12_lampsOf_49 : decode cX12_lampsOf 49 = .ok (.ireturn, 1) := by decide +kernel
def F_X12_lampsOf_b40 (N : Nat) (rc15 : Int32 → Int32 → PH → Option (Int32 × PH)) (x3 : Int32) (s0 : Int32) (s1 : Int32) (h : PH) : Option (Int32 × PH) :=
  ib (s1 ||| s0) fun v1 =>
  ib (x3 + (1 : Int32)) fun v2 =>
  rc15 v1 v2 h
set_option maxRecDepth 20000 in
set_option maxHeartbeats 4000000 in
theorem T_X12_lampsOf_b40 {X : CT} (C : CX X 154 cX12_lampsOf 4 RX12 (some .int) 4 89) {r0 : Int32} {h0 : PH} {N : Nat} {rc15 : Int32 → Int32 → PH → Option (Int32 × PH)} (hr15 : ∀ (x2 : Int32) (x3 : Int32) (h : PH), rc15 x2 x3 h = some (r0, h0) → V X (QI X r0 h0) h 15 [some (.ref 103), none, some (.int x2), some (.int x3)] []) : ∀ (x3 : Int32) (s0 : Int32) (s1 : Int32) (h : PH), F_X12_lampsOf_b40 N rc15 x3 s0 s1 h = some (r0, h0) → V X (QI X r0 h0) h 40 [some (.ref 103), none, none, some (.int x3)] [.int s0, .int s1] := by
  intro x3 s0 s1 h hyp
  unfold F_X12_lampsOf_b40 at hyp
  refine V_ior (pc := 40) C dX12_lampsOf_40 ?_
  obtain ⟨v1, ev1, hyp⟩ := ib_n hyp
  refine V_topI ev1 ?_
  refine V_istore_n (pc := 41) C dX12_lampsOf_41 (by decide) rfl ?_
  obtain ⟨v2, ev2, hyp⟩ := ib_n hyp
  refine V_iinc (pc := 42) C dX12_lampsOf_42 (v := v2) rfl (by rw [ev2]; rfl) (by decide) rfl ?_
  refine V_goto (pc := 45) C dX12_lampsOf_45 (tgt := 15) (by decide) ?_
  refine V_weak (lv' := [some (.ref 103), none, some (.int v1), some (.int v2)]) (lvle_s (lvle_n (lvle_s (lvle_s lvle_0)))) ?_
  exact hr15 v1 v2 h hyp
def F_X12_lampsOf_b15 (N : Nat) : Nat → Int32 → Int32 → PH → Option (Int32 × PH)
  | 0, _, _, _ => none
  | n + 1, x2, x3, h =>
    if (8 : Int32) ≤ x3 then
      some (x2, h)
    else
      bI (F_X12_isSo N ((11 : Int32) + x3) h) fun r2 h3 =>
      if r2 = 0 then
        F_X12_lampsOf_b40 N (F_X12_lampsOf_b15 N n) x3 (0 : Int32) x2 h3
      else
        F_X12_lampsOf_b40 N (F_X12_lampsOf_b15 N n) x3 ((1 : Int32) <<< (x3 &&& 31)) x2 h3
set_option maxRecDepth 20000 in
set_option maxHeartbeats 4000000 in
theorem T_X12_lampsOf_b15 {X : CT} (C : CX X 154 cX12_lampsOf 4 RX12 (some .int) 4 89) {r0 : Int32} {h0 : PH} {N : Nat} : ∀ (n : Nat) (x2 : Int32) (x3 : Int32) (h : PH), F_X12_lampsOf_b15 N n x2 x3 h = some (r0, h0) → V X (QI X r0 h0) h 15 [some (.ref 103), none, some (.int x2), some (.int x3)] [] := by
  intro n
  induction n with
  | zero =>
    intro x2 x3 h hyp
    cases hyp
  | succ n ih =>
    intro x2 x3 h hyp
    unfold F_X12_lampsOf_b15 at hyp
    refine V_iload_n (pc := 15) C dX12_lampsOf_15 rfl ?_
    refine V_bipush (pc := 16) C dX12_lampsOf_16 (v := 8) (by decide) ?_
    refine V_icmp_ge (pc := 18) C dX12_lampsOf_18 (tgt := 48) (by decide) (fun q1 => ?_) (fun q1 => ?_)
    · replace hyp := (if_pos q1).symm.trans hyp
      refine V_iload_n (pc := 48) C dX12_lampsOf_48 rfl ?_
      cases hyp
      exact V_iret C dX12_lampsOf_49
    · replace hyp := (if_neg q1).symm.trans hyp
      refine V_iload_n (pc := 21) C dX12_lampsOf_21 rfl ?_
      refine V_aload_n (pc := 22) C dX12_lampsOf_22 rfl ?_
      refine V_bipush (pc := 23) C dX12_lampsOf_23 (v := 11) (by decide) ?_
      refine V_iload_n (pc := 25) C dX12_lampsOf_25 rfl ?_
      refine V_iadd (pc := 26) C dX12_lampsOf_26 ?_
      obtain ⟨r2, h3, eh3, hyp⟩ := bI_n hyp
      refine V_callI (pc := 27) C dX12_lampsOf_27 lm_X12_373 mk_X12_isSo ok_103 rfl (M_X12_isSo _ eh3) rfl pd_X12_isSo (by decide) (by decide) (by decide) (As := [.int ((11 : Int32) + x3)]) (rest := [.int x2]) rfl (Nat.le_of_ble_eq_true rfl) ?_
      refine V_if_eq (pc := 30) C dX12_lampsOf_30 (tgt := 39) (by decide) (fun q4 => ?_) (fun q4 => ?_)
      · replace hyp := (if_pos q4).symm.trans hyp
        refine V_iconst (pc := 39) C dX12_lampsOf_39 (v := 0) (by decide) ?_
        refine V_weak (lv' := [some (.ref 103), none, none, some (.int x3)]) (lvle_s (lvle_n (lvle_n (lvle_s lvle_0)))) ?_
        exact (T_X12_lampsOf_b40 C ih) x3 (0 : Int32) x2 h3 hyp
      · replace hyp := (if_neg q4).symm.trans hyp
        refine V_iconst (pc := 33) C dX12_lampsOf_33 (v := 1) (by decide) ?_
        refine V_iload_n (pc := 34) C dX12_lampsOf_34 rfl ?_
        refine V_ishl (pc := 35) C dX12_lampsOf_35 ?_
        refine V_goto (pc := 36) C dX12_lampsOf_36 (tgt := 40) (by decide) ?_
        refine V_weak (lv' := [some (.ref 103), none, none, some (.int x3)]) (lvle_s (lvle_n (lvle_n (lvle_s lvle_0)))) ?_
        exact (T_X12_lampsOf_b40 C ih) x3 ((1 : Int32) <<< (x3 &&& 31)) x2 h3 hyp
def F_X12_lampsOf (N : Nat) (a1 : Int32) (h : PH) : Option (Int32 × PH) :=
  bV (F_X12_sets N a1 (a1 &&& (255 : Int32)) (-1 : Int32) h) fun h2 =>
  F_X12_lampsOf_b15 N N (0 : Int32) (0 : Int32) h2
set_option maxRecDepth 20000 in
set_option maxHeartbeats 4000000 in
theorem M_X12_lampsOf (E : EV) {N : Nat} {a1 : Int32} {r : Int32} {h h2 : PH} (hyp : F_X12_lampsOf N a1 h = some (r, h2)) : MI E 154 yX12_lampsOf cX12_lampsOf 4 (some .int) 4 89 [.ref 103, .int a1] h r h2 := by
  refine MI.of 2 (by decide) rfl (fun X e1 C => ?_)
  subst e1
  replace C : CX X 154 cX12_lampsOf 4 RX12 (some .int) 4 89 := C
  show V X _ h 0 [some (.ref 103), some (.int a1), none, none] []
  unfold F_X12_lampsOf at hyp
  refine V_aload_n (pc := 0) C dX12_lampsOf_0 rfl ?_
  refine V_iload_n (pc := 1) C dX12_lampsOf_1 rfl ?_
  refine V_iload_n (pc := 2) C dX12_lampsOf_2 rfl ?_
  refine V_sipush (pc := 3) C dX12_lampsOf_3 (v := 255) (by decide) ?_
  refine V_iand (pc := 6) C dX12_lampsOf_6 ?_
  refine V_iconst (pc := 7) C dX12_lampsOf_7 (v := -1) (by decide) ?_
  obtain ⟨h2, eh2, hyp⟩ := bV_n hyp
  refine V_callV (pc := 8) C dX12_lampsOf_8 lm_X12_369 mk_X12_sets ok_103 rfl (M_X12_sets _ eh2) rfl pd_X12_sets (by decide) (by decide) (by decide) (As := [.int a1, .int (a1 &&& (255 : Int32)), .int (-1 : Int32)]) (rest := []) rfl (Nat.le_of_ble_eq_true rfl) ?_
  refine V_iconst (pc := 11) C dX12_lampsOf_11 (v := 0) (by decide) ?_
  refine V_istore_n (pc := 12) C dX12_lampsOf_12 (by decide) rfl ?_
  refine V_iconst (pc := 13) C dX12_lampsOf_13 (v := 0) (by decide) ?_
  refine V_istore_n (pc := 14) C dX12_lampsOf_14 (by decide) rfl ?_
  refine V_weak (lv' := [some (.ref 103), none, some (.int (0 : Int32)), some (.int (0 : Int32))]) (lvle_s (lvle_n (lvle_s (lvle_s lvle_0)))) ?_
  exact (T_X12_lampsOf_b15 C) N (0 : Int32) (0 : Int32) h2 hyp
theorem dX12_press_0 : decode cX12_press 0 = .ok (.aload_n 0, 1) := by decide +kernel
theorem dX12_press_1 : decode cX12_press 1 = .ok (.iconst 0, 1) := by decide +kernel
theorem dX12_press_2 : decode cX12_press 2 = .ok (.putfield 180, 3) := by decide +kernel
theorem dX12_press_5 : decode cX12_press 5 = .ok (.iload_n 1, 1) := by decide +kernel
theorem dX12_press_6 : decode cX12_press 6 = .ok (.iconst (-1), 1) := by decide +kernel
theorem dX12_press_7 : decode cX12_press 7 = .ok (.if_icmp .eq 13, 3) := by decide +kernel
theorem dX12_press_10 : decode cX12_press 10 = .ok (.aload_n 0, 1) := by decide +kernel
theorem dX12_press_11 : decode cX12_press 11 = .ok (.iload_n 1, 1) := by decide +kernel
theorem dX12_press_12 : decode cX12_press 12 = .ok (.invokevirtual 376, 3) := by decide +kernel
theorem dX12_press_15 : decode cX12_press 15 = .ok (.ifCond .ne 5, 3) := by decide +kernel
theorem dX12_press_18 : decode cX12_press 18 = .ok (.iconst (-1), 1) := by decide +kernel
theorem dX12_press_19 : decode cX12_press 19 = .ok (.ireturn, 1) := by decide +kernel
theorem dX12_press_20 : decode cX12_press 20 = .ok (.aload_n 0, 1) := by decide +kernel
theorem dX12_press_21 : decode cX12_press 21 = .ok (.aload_n 0, 1) := by decide +kernel
theorem dX12_press_22 : decode cX12_press 22 = .ok (.aload_n 0, 1) := by decide +kernel
theorem dX12_press_23 : decode cX12_press 23 = .ok (.getfield 348, 3) := by decide +kernel
theorem dX12_press_26 : decode cX12_press 26 = .ok (.iload_n 1, 1) := by decide +kernel
theorem dX12_press_27 : decode cX12_press 27 = .ok (.invokevirtual 379, 3) := by decide +kernel
theorem dX12_press_30 : decode cX12_press 30 = .ok (.putfield 348, 3) := by decide +kernel
theorem dX12_press_33 : decode cX12_press 33 = .ok (.aload_n 0, 1) := by decide +kernel
theorem dX12_press_34 : decode cX12_press 34 = .ok (.dup, 1) := by decide +kernel
theorem dX12_press_35 : decode cX12_press 35 = .ok (.getfield 351, 3) := by decide +kernel
theorem dX12_press_38 : decode cX12_press 38 = .ok (.aload_n 0, 1) := by decide +kernel
theorem dX12_press_39 : decode cX12_press 39 = .ok (.getfield 366, 3) := by decide +kernel
theorem dX12_press_42 : decode cX12_press 42 = .ok (.iadd, 1) := by decide +kernel
theorem dX12_press_43 : decode cX12_press 43 = .ok (.putfield 351, 3) := by decide +kernel
theorem dX12_press_46 : decode cX12_press 46 = .ok (.aload_n 0, 1) := by decide +kernel
theorem dX12_press_47 : decode cX12_press 47 = .ok (.dup, 1) := by decide +kernel
theorem dX12_press_48 : decode cX12_press 48 = .ok (.getfield 354, 3) := by decide +kernel
theorem dX12_press_51 : decode cX12_press 51 = .ok (.iconst 1, 1) := by decide +kernel
theorem dX12_press_52 : decode cX12_press 52 = .ok (.iadd, 1) := by decide +kernel
theorem dX12_press_53 : decode cX12_press 53 = .ok (.putfield 354, 3) := by decide +kernel
theorem dX12_press_56 : decode cX12_press 56 = .ok (.aload_n 0, 1) := by decide +kernel
theorem dX12_press_57 : decode cX12_press 57 = .ok (.aload_n 0, 1) := by decide +kernel
theorem dX12_press_58 : decode cX12_press 58 = .ok (.getfield 348, 3) := by decide +kernel
theorem dX12_press_61 : decode cX12_press 61 = .ok (.invokevirtual 383, 3) := by decide +kernel
theorem dX12_press_64 : decode cX12_press 64 = .ok (.ireturn, 1) := by decide +kernel
def F_X12_press_b20 (N : Nat) (x1 : Int32) (h : PH) : Option (Int32 × PH) :=
  bI (F_X12_behind N (h.1 103 33) x1 h) fun r1 h2 =>
  hb (hs h2 103 33 r1) fun h3 =>
  hb (hs h3 103 34 ((h3.1 103 34) + (h3.1 103 36))) fun h4 =>
  hb (hs h4 103 35 ((h4.1 103 35) + (1 : Int32))) fun h5 =>
  bI (F_X12_lampsOf N (h5.1 103 33) h5) fun r6 h7 =>
  some (r6, h7)
set_option maxRecDepth 20000 in
set_option maxHeartbeats 4000000 in
theorem T_X12_press_b20 {X : CT} (C : CX X 154 cX12_press 2 RX12 (some .int) 5 118) {r0 : Int32} {h0 : PH} {N : Nat} : ∀ (x1 : Int32) (h : PH), F_X12_press_b20 N x1 h = some (r0, h0) → V X (QI X r0 h0) h 20 [some (.ref 103), some (.int x1)] [] := by
  intro x1 h hyp
  unfold F_X12_press_b20 at hyp
  refine V_aload_n (pc := 20) C dX12_press_20 rfl ?_
  refine V_aload_n (pc := 21) C dX12_press_21 rfl ?_
  refine V_aload_n (pc := 22) C dX12_press_22 rfl ?_
  refine V_getI (pc := 23) C dX12_press_23 lf_X12_348 fk_103_33 ?_
  refine V_iload_n (pc := 26) C dX12_press_26 rfl ?_
  obtain ⟨r1, h2, eh2, hyp⟩ := bI_n hyp
  refine V_callI (pc := 27) C dX12_press_27 lm_X12_379 mk_X12_behind ok_103 rfl (M_X12_behind _ eh2) rfl pd_X12_behind (by decide) (by decide) (by decide) (As := [.int (h.1 103 33), .int x1]) (rest := [.ref 103]) rfl (Nat.le_of_ble_eq_true rfl) ?_
  obtain ⟨h3, eh3, hyp⟩ := hb_n hyp
  refine V_putI (pc := 30) C dX12_press_30 lf_X12_348 fk_103_33 rfl rfl eh3 ?_
  refine V_aload_n (pc := 33) C dX12_press_33 rfl ?_
  refine V_dup (pc := 34) C dX12_press_34 rfl ?_
  refine V_getI (pc := 35) C dX12_press_35 lf_X12_351 fk_103_34 ?_
  refine V_aload_n (pc := 38) C dX12_press_38 rfl ?_
  refine V_getI (pc := 39) C dX12_press_39 lf_X12_366 fk_103_36 ?_
  refine V_iadd (pc := 42) C dX12_press_42 ?_
  obtain ⟨h4, eh4, hyp⟩ := hb_n hyp
  refine V_putI (pc := 43) C dX12_press_43 lf_X12_351 fk_103_34 rfl rfl eh4 ?_
  refine V_aload_n (pc := 46) C dX12_press_46 rfl ?_
  refine V_dup (pc := 47) C dX12_press_47 rfl ?_
  refine V_getI (pc := 48) C dX12_press_48 lf_X12_354 fk_103_35 ?_
  refine V_iconst (pc := 51) C dX12_press_51 (v := 1) (by decide) ?_
  refine V_iadd (pc := 52) C dX12_press_52 ?_
  obtain ⟨h5, eh5, hyp⟩ := hb_n hyp
  refine V_putI (pc := 53) C dX12_press_53 lf_X12_354 fk_103_35 rfl rfl eh5 ?_
  refine V_aload_n (pc := 56) C dX12_press_56 rfl ?_
  refine V_aload_n (pc := 57) C dX12_press_57 rfl ?_
  refine V_getI (pc := 58) C dX12_press_58 lf_X12_348 fk_103_33 ?_
  obtain ⟨r6, h7, eh7, hyp⟩ := bI_n hyp
  refine V_callI (pc := 61) C dX12_press_61 lm_X12_383 mk_X12_lampsOf ok_103 rfl (M_X12_lampsOf _ eh7) rfl pd_X12_lampsOf (by decide) (by decide) (by decide) (As := [.int (h5.1 103 33)]) (rest := []) rfl (Nat.le_of_ble_eq_true rfl) ?_
  cases hyp
  exact V_iret C dX12_press_64
def F_X12_press (N : Nat) (a1 : Int32) (h : PH) : Option (Int32 × PH) :=
  hb (hs h 103 0 (0 : Int32)) fun h1 =>
  if a1 = (-1 : Int32) then
    F_X12_press_b20 N a1 h1
  else
    bI (F_X12_isFloor a1 h1) fun r3 h4 =>
    if r3 = 0 then
      some ((-1 : Int32), h4)
    else
      F_X12_press_b20 N a1 h4
set_option maxRecDepth 20000 in
set_option maxHeartbeats 4000000 in
theorem M_X12_press (E : EV) {N : Nat} {a1 : Int32} {r : Int32} {h h2 : PH} (hyp : F_X12_press N a1 h = some (r, h2)) : MI E 154 yX12_press cX12_press 2 (some .int) 5 118 [.ref 103, .int a1] h r h2 := by
  refine MI.of 0 (by decide) rfl (fun X e1 C => ?_)
  subst e1
  replace C : CX X 154 cX12_press 2 RX12 (some .int) 5 118 := C
  show V X _ h 0 [some (.ref 103), some (.int a1)] []
  unfold F_X12_press at hyp
  refine V_aload_n (pc := 0) C dX12_press_0 rfl ?_
  refine V_iconst (pc := 1) C dX12_press_1 (v := 0) (by decide) ?_
  obtain ⟨h1, eh1, hyp⟩ := hb_n hyp
  refine V_putI (pc := 2) C dX12_press_2 lf_X12_180 fk_103_0 rfl rfl eh1 ?_
  refine V_iload_n (pc := 5) C dX12_press_5 rfl ?_
  refine V_iconst (pc := 6) C dX12_press_6 (v := -1) (by decide) ?_
  refine V_icmp_eq (pc := 7) C dX12_press_7 (tgt := 20) (by decide) (fun q2 => ?_) (fun q2 => ?_)
  · replace hyp := (if_pos q2).symm.trans hyp
    refine V_weak (lv' := [some (.ref 103), some (.int a1)]) (lvle_s (lvle_s lvle_0)) ?_
    exact (T_X12_press_b20 C) a1 h1 hyp
  · replace hyp := (if_neg q2).symm.trans hyp
    refine V_aload_n (pc := 10) C dX12_press_10 rfl ?_
    refine V_iload_n (pc := 11) C dX12_press_11 rfl ?_
    obtain ⟨r3, h4, eh4, hyp⟩ := bI_n hyp
    refine V_callI (pc := 12) C dX12_press_12 lm_X12_376 mk_X12_isFloor ok_103 rfl (M_X12_isFloor _ eh4) rfl pd_X12_isFloor (by decide) (by decide) (by decide) (As := [.int a1]) (rest := []) rfl (Nat.le_of_ble_eq_true rfl) ?_
    refine V_if_ne (pc := 15) C dX12_press_15 (tgt := 20) (by decide) (fun q5 => ?_) (fun q5 => ?_)
    · replace hyp := (if_neg q5).symm.trans hyp
      refine V_weak (lv' := [some (.ref 103), some (.int a1)]) (lvle_s (lvle_s lvle_0)) ?_
      exact (T_X12_press_b20 C) a1 h4 hyp
    · replace hyp := (if_pos q5).symm.trans hyp
      refine V_iconst (pc := 18) C dX12_press_18 (v := -1) (by decide) ?_
      cases hyp
      exact V_iret C dX12_press_19
theorem dX12_again_0 : decode cX12_again 0 = .ok (.aload_n 0, 1) := by decide +kernel
theorem dX12_again_1 : decode cX12_again 1 = .ok (.iconst 0, 1) := by decide +kernel
theorem dX12_again_2 : decode cX12_again 2 = .ok (.putfield 180, 3) := by decide +kernel
theorem dX12_again_5 : decode cX12_again 5 = .ok (.aload_n 0, 1) := by decide +kernel
theorem dX12_again_6 : decode cX12_again 6 = .ok (.invokevirtual 191, 3) := by decide +kernel
theorem dX12_again_9 : decode cX12_again 9 = .ok (.iconst 1, 1) := by decide +kernel
theorem dX12_again_10 : decode cX12_again 10 = .ok (.ireturn, 1) := by decide +kernel
def F_X12_again (h : PH) : Option (Int32 × PH) :=
  hb (hs h 103 0 (0 : Int32)) fun h1 =>
  bV (F_X12_begins  h1) fun h3 =>
  some ((1 : Int32), h3)
set_option maxRecDepth 20000 in
set_option maxHeartbeats 4000000 in
theorem M_X12_again (E : EV) {r : Int32} {h h2 : PH} (hyp : F_X12_again  h = some (r, h2)) : MI E 154 yX12_again cX12_again 1 (some .boolean) 1 20 [.ref 103] h r h2 := by
  refine MI.of 0 (by decide) rfl (fun X e1 C => ?_)
  subst e1
  replace C : CX X 154 cX12_again 1 RX12 (some .boolean) 1 20 := C
  show V X _ h 0 [some (.ref 103)] []
  unfold F_X12_again at hyp
  refine V_aload_n (pc := 0) C dX12_again_0 rfl ?_
  refine V_iconst (pc := 1) C dX12_again_1 (v := 0) (by decide) ?_
  obtain ⟨h1, eh1, hyp⟩ := hb_n hyp
  refine V_putI (pc := 2) C dX12_again_2 lf_X12_180 fk_103_0 rfl rfl eh1 ?_
  refine V_aload_n (pc := 5) C dX12_again_5 rfl ?_
  obtain ⟨h3, eh3, hyp⟩ := bV_n hyp
  refine V_callV (pc := 6) C dX12_again_6 lm_X12_191 mk_X12_begins ok_103 rfl (M_X12_begins _ eh3) rfl pd_X12_begins (by decide) (by decide) (by decide) (As := []) (rest := []) rfl (Nat.le_of_ble_eq_true rfl) ?_
  refine V_iconst (pc := 9) C dX12_again_9 (v := 1) (by decide) ?_
  cases hyp
  exact V_zret C dX12_again_10 rfl
theorem dX12_look_0 : decode cX12_look 0 = .ok (.aload_n 0, 1) := by decide +kernel
theorem dX12_look_1 : decode cX12_look 1 = .ok (.iload_n 1, 1) := by decide +kernel
theorem dX12_look_2 : decode cX12_look 2 = .ok (.iconst 0, 1) := by decide +kernel
theorem dX12_look_3 : decode cX12_look 3 = .ok (.iconst 5, 1) := by decide +kernel
theorem dX12_look_4 : decode cX12_look 4 = .ok (.invokestatic 183, 3) := by decide +kernel
theorem dX12_look_7 : decode cX12_look 7 = .ok (.ifCond .eq 7, 3) := by decide +kernel
theorem dX12_look_10 : decode cX12_look 10 = .ok (.iconst 0, 1) := by decide +kernel
theorem dX12_look_11 : decode cX12_look 11 = .ok (.goto 4, 3) := by decide +kernel
theorem dX12_look_14 : decode cX12_look 14 = .ok (.iconst 1, 1) := by decide +kernel
theorem dX12_look_15 : decode cX12_look 15 = .ok (.putfield 180, 3) := by decide +kernel
theorem dX12_look_18 : decode cX12_look 18 = .ok (.aload_n 0, 1) := by decide +kernel
theorem dX12_look_19 : decode cX12_look 19 = .ok (.getfield 180, 3) := by decide +kernel
theorem dX12_look_22 : decode cX12_look 22 = .ok (.iconst 1, 1) := by decide +kernel
theorem dX12_look_23 : decode cX12_look 23 = .ok (.if_icmp .ne 5, 3) := by decide +kernel
theorem dX12_look_26 : decode cX12_look 26 = .ok (.iconst 0, 1) := by decide +kernel
theorem dX12_look_27 : decode cX12_look 27 = .ok (.ireturn, 1) := by decide +kernel
theorem dX12_look_28 : decode cX12_look 28 = .ok (.iload_n 1, 1) := by decide +kernel
theorem dX12_look_29 : decode cX12_look 29 = .ok (.iconst 3, 1) := by decide +kernel
theorem dX12_look_30 : decode cX12_look 30 = .ok (.if_icmp .ge 49, 3) := by decide +kernel
theorem dX12_look_33 : decode cX12_look 33 = .ok (.iload_n 1, 1) := by decide +kernel
theorem dX12_look_34 : decode cX12_look 34 = .ok (.ifCond .ne 14, 3) := by decide +kernel
theorem dX12_look_37 : decode cX12_look 37 = .ok (.aload_n 0, 1) := by decide +kernel
theorem dX12_look_38 : decode cX12_look 38 = .ok (.getfield 348, 3) := by decide +kernel
theorem dX12_look_41 : decode cX12_look 41 = .ok (.sipush 255, 3) := by decide +kernel
theorem dX12_look_44 : decode cX12_look 44 = .ok (.iand, 1) := by decide +kernel
theorem dX12_look_45 : decode cX12_look 45 = .ok (.goto 33, 3) := by decide +kernel
theorem dX12_look_48 : decode cX12_look 48 = .ok (.iload_n 1, 1) := by decide +kernel
theorem dX12_look_49 : decode cX12_look 49 = .ok (.iconst 1, 1) := by decide +kernel
theorem dX12_look_50 : decode cX12_look 50 = .ok (.if_icmp .ne 13, 3) := by decide +kernel
theorem dX12_look_53 : decode cX12_look 53 = .ok (.aload_n 0, 1) := by decide +kernel
theorem dX12_look_54 : decode cX12_look 54 = .ok (.getfield 348, 3) := by decide +kernel
theorem dX12_look_57 : decode cX12_look 57 = .ok (.invokestatic 363, 3) := by decide +kernel
theorem dX12_look_60 : decode cX12_look 60 = .ok (.goto 18, 3) := by decide +kernel
theorem dX12_look_63 : decode cX12_look 63 = .ok (.aload_n 0, 1) := by decide +kernel
theorem dX12_look_64 : decode cX12_look 64 = .ok (.getfield 348, 3) := by decide +kernel
theorem dX12_look_67 : decode cX12_look 67 = .ok (.invokestatic 360, 3) := by decide +kernel
theorem dX12_look_70 : decode cX12_look 70 = .ok (.ifCond .eq 7, 3) := by decide +kernel
theorem dX12_look_73 : decode cX12_look 73 = .ok (.iconst 1, 1) := by decide +kernel
theorem dX12_look_74 : decode cX12_look 74 = .ok (.goto 4, 3) := by decide +kernel
theorem dX12_look_77 : decode cX12_look 77 = .ok (.iconst 0, 1) := by decide +kernel
theorem dX12_look_78 : decode cX12_look 78 = .ok (.ireturn, 1) := by decide +kernel
theorem dX12_look_79 : decode cX12_look 79 = .ok (.iload_n 1, 1) := by decide +kernel
theorem dX12_look_80 : decode cX12_look 80 = .ok (.iconst 3, 1) := by decide +kernel
theorem dX12_look_81 : decode cX12_look 81 = .ok (.if_icmp .ne 14, 3) := by decide +kernel
theorem dX12_look_84 : decode cX12_look 84 = .ok (.aload_n 0, 1) := by decide +kernel
theorem dX12_look_85 : decode cX12_look 85 = .ok (.aload_n 0, 1) := by decide +kernel
theorem dX12_look_86 : decode cX12_look 86 = .ok (.getfield 348, 3) := by decide +kernel
theorem dX12_look_89 : decode cX12_look 89 = .ok (.invokevirtual 383, 3) := by decide +kernel
theorem dX12_look_92 : decode cX12_look 92 = .ok (.goto 19, 3) := by decide +kernel
theorem dX12_look_95 : decode cX12_look 95 = .ok (.iload_n 1, 1) := by decide +kernel
theorem dX12_look_96 : decode cX12_look 96 = .ok (.iconst 4, 1) := by decide +kernel
theorem dX12_look_97 : decode cX12_look 97 = .ok (.if_icmp .ne 10, 3) := by decide +kernel
theorem dX12_look_100 : decode cX12_look 100 = .ok (.aload_n 0, 1) := by decide +kernel
theorem dX12_look_101 : decode cX12_look 101 = .ok (.getfield 351, 3) := by decide +kernel
theorem dX12_look_104 : decode cX12_look 104 = .ok (.goto 7, 3) := by decide +kernel
theorem dX12_look_107 : decode cX12_look 107 = .ok (.aload_n 0, 1) := by decide +kernel
theorem dX12_look_108 : decode cX12_look 108 = .ok (.getfield 354, 3) := by decide +kernel
theorem dX12_look_111 : decode cX12_look 111 = .ok (.ireturn, 1) := by decide +kernel
def F_X12_look_b15 (N : Nat) (x1 : Int32) (s0 : Int32) (h : PH) : Option (Int32 × PH) :=
  hb (hs h 103 0 s0) fun h1 =>
  if (h1.1 103 0) = (1 : Int32) then
    some ((0 : Int32), h1)
  else
    if (3 : Int32) ≤ x1 then
      if x1 = (3 : Int32) then
        bI (F_X12_lampsOf N (h1.1 103 33) h1) fun r6 h7 =>
        some (r6, h7)
      else
        if x1 = (4 : Int32) then
          some (h1.1 103 34, h1)
        else
          some (h1.1 103 35, h1)
    else
      if x1 = 0 then
        some ((h1.1 103 33) &&& (255 : Int32), h1)
      else
        if x1 = (1 : Int32) then
          bI (F_X12_floorOf (h1.1 103 33) h1) fun r13 h14 =>
          some (r13, h14)
        else
          bI (F_X12_isOpen (h1.1 103 33) h1) fun r10 h11 =>
          if r10 = 0 then
            some ((0 : Int32), h11)
          else
            some ((1 : Int32), h11)
set_option maxRecDepth 20000 in
set_option maxHeartbeats 4000000 in
theorem T_X12_look_b15 {X : CT} (C : CX X 154 cX12_look 2 RX12 (some .int) 5 112) {r0 : Int32} {h0 : PH} {N : Nat} : ∀ (x1 : Int32) (s0 : Int32) (h : PH), F_X12_look_b15 N x1 s0 h = some (r0, h0) → V X (QI X r0 h0) h 15 [some (.ref 103), some (.int x1)] [.int s0, .ref 103] := by
  intro x1 s0 h hyp
  unfold F_X12_look_b15 at hyp
  obtain ⟨h1, eh1, hyp⟩ := hb_n hyp
  refine V_putI (pc := 15) C dX12_look_15 lf_X12_180 fk_103_0 rfl rfl eh1 ?_
  refine V_aload_n (pc := 18) C dX12_look_18 rfl ?_
  refine V_getI (pc := 19) C dX12_look_19 lf_X12_180 fk_103_0 ?_
  refine V_iconst (pc := 22) C dX12_look_22 (v := 1) (by decide) ?_
  refine V_icmp_ne (pc := 23) C dX12_look_23 (tgt := 28) (by decide) (fun q2 => ?_) (fun q2 => ?_)
  · replace hyp := (if_neg q2).symm.trans hyp
    refine V_iload_n (pc := 28) C dX12_look_28 rfl ?_
    refine V_iconst (pc := 29) C dX12_look_29 (v := 3) (by decide) ?_
    refine V_icmp_ge (pc := 30) C dX12_look_30 (tgt := 79) (by decide) (fun q3 => ?_) (fun q3 => ?_)
    · replace hyp := (if_pos q3).symm.trans hyp
      refine V_iload_n (pc := 79) C dX12_look_79 rfl ?_
      refine V_iconst (pc := 80) C dX12_look_80 (v := 3) (by decide) ?_
      refine V_icmp_ne (pc := 81) C dX12_look_81 (tgt := 95) (by decide) (fun q4 => ?_) (fun q4 => ?_)
      · replace hyp := (if_neg q4).symm.trans hyp
        refine V_iload_n (pc := 95) C dX12_look_95 rfl ?_
        refine V_iconst (pc := 96) C dX12_look_96 (v := 4) (by decide) ?_
        refine V_icmp_ne (pc := 97) C dX12_look_97 (tgt := 107) (by decide) (fun q5 => ?_) (fun q5 => ?_)
        · replace hyp := (if_neg q5).symm.trans hyp
          refine V_aload_n (pc := 107) C dX12_look_107 rfl ?_
          refine V_getI (pc := 108) C dX12_look_108 lf_X12_354 fk_103_35 ?_
          cases hyp
          exact V_iret C dX12_look_111
        · replace hyp := (if_pos q5).symm.trans hyp
          refine V_aload_n (pc := 100) C dX12_look_100 rfl ?_
          refine V_getI (pc := 101) C dX12_look_101 lf_X12_351 fk_103_34 ?_
          refine V_goto (pc := 104) C dX12_look_104 (tgt := 111) (by decide) ?_
          cases hyp
          exact V_iret C dX12_look_111
      · replace hyp := (if_pos q4).symm.trans hyp
        refine V_aload_n (pc := 84) C dX12_look_84 rfl ?_
        refine V_aload_n (pc := 85) C dX12_look_85 rfl ?_
        refine V_getI (pc := 86) C dX12_look_86 lf_X12_348 fk_103_33 ?_
        obtain ⟨r6, h7, eh7, hyp⟩ := bI_n hyp
        refine V_callI (pc := 89) C dX12_look_89 lm_X12_383 mk_X12_lampsOf ok_103 rfl (M_X12_lampsOf _ eh7) rfl pd_X12_lampsOf (by decide) (by decide) (by decide) (As := [.int (h1.1 103 33)]) (rest := []) rfl (Nat.le_of_ble_eq_true rfl) ?_
        refine V_goto (pc := 92) C dX12_look_92 (tgt := 111) (by decide) ?_
        cases hyp
        exact V_iret C dX12_look_111
    · replace hyp := (if_neg q3).symm.trans hyp
      refine V_iload_n (pc := 33) C dX12_look_33 rfl ?_
      refine V_if_ne (pc := 34) C dX12_look_34 (tgt := 48) (by decide) (fun q8 => ?_) (fun q8 => ?_)
      · replace hyp := (if_neg q8).symm.trans hyp
        refine V_iload_n (pc := 48) C dX12_look_48 rfl ?_
        refine V_iconst (pc := 49) C dX12_look_49 (v := 1) (by decide) ?_
        refine V_icmp_ne (pc := 50) C dX12_look_50 (tgt := 63) (by decide) (fun q9 => ?_) (fun q9 => ?_)
        · replace hyp := (if_neg q9).symm.trans hyp
          refine V_aload_n (pc := 63) C dX12_look_63 rfl ?_
          refine V_getI (pc := 64) C dX12_look_64 lf_X12_348 fk_103_33 ?_
          obtain ⟨r10, h11, eh11, hyp⟩ := bI_n hyp
          refine V_statI (pc := 67) C dX12_look_67 lm_X12_360 ms_X12_isOpen (M_X12_isOpen _ eh11) rfl pd_X12_isOpen (by decide) (by decide) (by decide) (As := [.int (h1.1 103 33)]) (rest := []) rfl (Nat.le_of_ble_eq_true rfl) ?_
          refine V_if_eq (pc := 70) C dX12_look_70 (tgt := 77) (by decide) (fun q12 => ?_) (fun q12 => ?_)
          · replace hyp := (if_pos q12).symm.trans hyp
            refine V_iconst (pc := 77) C dX12_look_77 (v := 0) (by decide) ?_
            cases hyp
            exact V_iret C dX12_look_78
          · replace hyp := (if_neg q12).symm.trans hyp
            refine V_iconst (pc := 73) C dX12_look_73 (v := 1) (by decide) ?_
            refine V_goto (pc := 74) C dX12_look_74 (tgt := 78) (by decide) ?_
            cases hyp
            exact V_iret C dX12_look_78
        · replace hyp := (if_pos q9).symm.trans hyp
          refine V_aload_n (pc := 53) C dX12_look_53 rfl ?_
          refine V_getI (pc := 54) C dX12_look_54 lf_X12_348 fk_103_33 ?_
          obtain ⟨r13, h14, eh14, hyp⟩ := bI_n hyp
          refine V_statI (pc := 57) C dX12_look_57 lm_X12_363 ms_X12_floorOf (M_X12_floorOf _ eh14) rfl pd_X12_floorOf (by decide) (by decide) (by decide) (As := [.int (h1.1 103 33)]) (rest := []) rfl (Nat.le_of_ble_eq_true rfl) ?_
          refine V_goto (pc := 60) C dX12_look_60 (tgt := 78) (by decide) ?_
          cases hyp
          exact V_iret C dX12_look_78
      · replace hyp := (if_pos q8).symm.trans hyp
        refine V_aload_n (pc := 37) C dX12_look_37 rfl ?_
        refine V_getI (pc := 38) C dX12_look_38 lf_X12_348 fk_103_33 ?_
        refine V_sipush (pc := 41) C dX12_look_41 (v := 255) (by decide) ?_
        refine V_iand (pc := 44) C dX12_look_44 ?_
        refine V_goto (pc := 45) C dX12_look_45 (tgt := 78) (by decide) ?_
        cases hyp
        exact V_iret C dX12_look_78
  · replace hyp := (if_pos q2).symm.trans hyp
    refine V_iconst (pc := 26) C dX12_look_26 (v := 0) (by decide) ?_
    cases hyp
    exact V_iret C dX12_look_27
def F_X12_look (N : Nat) (a1 : Int32) (h : PH) : Option (Int32 × PH) :=
  bI (F_X12_within a1 (0 : Int32) (5 : Int32) h) fun r1 h2 =>
  if r1 = 0 then
    F_X12_look_b15 N a1 (1 : Int32) h2
  else
    F_X12_look_b15 N a1 (0 : Int32) h2
set_option maxRecDepth 20000 in
set_option maxHeartbeats 4000000 in
theorem M_X12_look (E : EV) {N : Nat} {a1 : Int32} {r : Int32} {h h2 : PH} (hyp : F_X12_look N a1 h = some (r, h2)) : MI E 154 yX12_look cX12_look 2 (some .int) 5 112 [.ref 103, .int a1] h r h2 := by
  refine MI.of 0 (by decide) rfl (fun X e1 C => ?_)
  subst e1
  replace C : CX X 154 cX12_look 2 RX12 (some .int) 5 112 := C
  show V X _ h 0 [some (.ref 103), some (.int a1)] []
  unfold F_X12_look at hyp
  refine V_aload_n (pc := 0) C dX12_look_0 rfl ?_
  refine V_iload_n (pc := 1) C dX12_look_1 rfl ?_
  refine V_iconst (pc := 2) C dX12_look_2 (v := 0) (by decide) ?_
  refine V_iconst (pc := 3) C dX12_look_3 (v := 5) (by decide) ?_
  obtain ⟨r1, h2, eh2, hyp⟩ := bI_n hyp
  refine V_statI (pc := 4) C dX12_look_4 lm_X12_183 ms_X12_within (M_X12_within _ eh2) rfl pd_X12_within (by decide) (by decide) (by decide) (As := [.int a1, .int (0 : Int32), .int (5 : Int32)]) (rest := [.ref 103]) rfl (Nat.le_of_ble_eq_true rfl) ?_
  refine V_if_eq (pc := 7) C dX12_look_7 (tgt := 14) (by decide) (fun q3 => ?_) (fun q3 => ?_)
  · replace hyp := (if_pos q3).symm.trans hyp
    refine V_iconst (pc := 14) C dX12_look_14 (v := 1) (by decide) ?_
    refine V_weak (lv' := [some (.ref 103), some (.int a1)]) (lvle_s (lvle_s lvle_0)) ?_
    exact (T_X12_look_b15 C) a1 (1 : Int32) h2 hyp
  · replace hyp := (if_neg q3).symm.trans hyp
    refine V_iconst (pc := 10) C dX12_look_10 (v := 0) (by decide) ?_
    refine V_goto (pc := 11) C dX12_look_11 (tgt := 15) (by decide) ?_
    refine V_weak (lv' := [some (.ref 103), some (.int a1)]) (lvle_s (lvle_s lvle_0)) ?_
    exact (T_X12_look_b15 C) a1 (0 : Int32) h2 hyp
theorem dX12_meets_0 : decode cX12_meets 0 = .ok (.aload_n 0, 1) := by decide +kernel
theorem dX12_meets_1 : decode cX12_meets 1 = .ok (.getfield 87, 3) := by decide +kernel
theorem dX12_meets_4 : decode cX12_meets 4 = .ok (.iload_n 1, 1) := by decide +kernel
theorem dX12_meets_5 : decode cX12_meets 5 = .ok (.baload, 1) := by decide +kernel
theorem dX12_meets_6 : decode cX12_meets 6 = .ok (.ifCond .eq 4, 3) := by decide +kernel
theorem dX12_meets_9 : decode cX12_meets 9 = .ok (.return_, 1) := by decide +kernel
theorem dX12_meets_10 : decode cX12_meets 10 = .ok (.aload_n 0, 1) := by decide +kernel
theorem dX12_meets_11 : decode cX12_meets 11 = .ok (.getfield 87, 3) := by decide +kernel
theorem dX12_meets_14 : decode cX12_meets 14 = .ok (.iload_n 1, 1) := by decide +kernel
theorem dX12_meets_15 : decode cX12_meets 15 = .ok (.iconst 1, 1) := by decide +kernel
theorem dX12_meets_16 : decode cX12_meets 16 = .ok (.bastore, 1) := by decide +kernel
theorem dX12_meets_17 : decode cX12_meets 17 = .ok (.aload_n 0, 1) := by decide +kernel
theorem dX12_meets_18 : decode cX12_meets 18 = .ok (.getfield 75, 3) := by decide +kernel
theorem dX12_meets_21 : decode cX12_meets 21 = .ok (.aload_n 0, 1) := by decide +kernel
theorem dX12_meets_22 : decode cX12_meets 22 = .ok (.getfield 386, 3) := by decide +kernel
theorem dX12_meets_25 : decode cX12_meets 25 = .ok (.iload_n 1, 1) := by decide +kernel
theorem dX12_meets_26 : decode cX12_meets 26 = .ok (.iastore, 1) := by decide +kernel
theorem dX12_meets_27 : decode cX12_meets 27 = .ok (.aload_n 0, 1) := by decide +kernel
theorem dX12_meets_28 : decode cX12_meets 28 = .ok (.getfield 78, 3) := by decide +kernel
theorem dX12_meets_31 : decode cX12_meets 31 = .ok (.iload_n 1, 1) := by decide +kernel
theorem dX12_meets_32 : decode cX12_meets 32 = .ok (.iload_n 2, 1) := by decide +kernel
theorem dX12_meets_33 : decode cX12_meets 33 = .ok (.iastore, 1) := by decide +kernel
theorem dX12_meets_34 : decode cX12_meets 34 = .ok (.aload_n 0, 1) := by decide +kernel
theorem dX12_meets_35 : decode cX12_meets 35 = .ok (.getfield 81, 3) := by decide +kernel
theorem dX12_meets_38 : decode cX12_meets 38 = .ok (.iload_n 1, 1) := by decide +kernel
theorem dX12_meets_39 : decode cX12_meets 39 = .ok (.iload_n 3, 1) := by decide +kernel
theorem dX12_meets_40 : decode cX12_meets 40 = .ok (.iastore, 1) := by decide +kernel
theorem dX12_meets_41 : decode cX12_meets 41 = .ok (.aload_n 0, 1) := by decide +kernel
theorem dX12_meets_42 : decode cX12_meets 42 = .ok (.getfield 84, 3) := by decide +kernel
theorem dX12_meets_45 : decode cX12_meets 45 = .ok (.iload_n 1, 1) := by decide +kernel
theorem dX12_meets_46 : decode cX12_meets 46 = .ok (.iload 4, 2) := by decide +kernel
theorem dX12_meets_48 : decode cX12_meets 48 = .ok (.iastore, 1) := by decide +kernel
theorem dX12_meets_49 : decode cX12_meets 49 = .ok (.aload_n 0, 1) := by decide +kernel
theorem dX12_meets_50 : decode cX12_meets 50 = .ok (.getfield 93, 3) := by decide +kernel
theorem dX12_meets_53 : decode cX12_meets 53 = .ok (.iload_n 1, 1) := by decide +kernel
theorem dX12_meets_54 : decode cX12_meets 54 = .ok (.aload_n 0, 1) := by decide +kernel
theorem dX12_meets_55 : decode cX12_meets 55 = .ok (.iload_n 1, 1) := by decide +kernel
theorem dX12_meets_56 : decode cX12_meets 56 = .ok (.invokevirtual 383, 3) := by decide +kernel
theorem dX12_meets_59 : decode cX12_meets 59 = .ok (.iastore, 1) := by decide +kernel
theorem dX12_meets_60 : decode cX12_meets 60 = .ok (.aload_n 0, 1) := by decide +kernel
theorem dX12_meets_61 : decode cX12_meets 61 = .ok (.dup, 1) := by decide +kernel
theorem dX12_meets_62 : decode cX12_meets 62 = .ok (.getfield 386, 3) := by decide +kernel
theorem dX12_meets_65 : decode cX12_meets 65 = .ok (.iconst 1, 1) := by decide +kernel
theorem dX12_meets_66 : decode cX12_meets 66 = .ok (.iadd, 1) := by decide +kernel
theorem dX12_meets_67 : decode cX12_meets 67 = .ok (.putfield 386, 3) := by decide +kernel
theorem dX12_meets_70 : decode cX12_meets 70 = .ok (.return_, 1) := by decide +kernel
def F_X12_meets (N : Nat) (a1 : Int32) (a2 : Int32) (a3 : Int32) (a4 : Int32) (h : PH) : Option PH :=
  if inb a1 3072 = true then
  if (h.1 128 a1.toNatClampNeg) = 0 then
    if inb a1 3072 = true then
    hb (hs h 128 a1.toNatClampNeg (vp_nar .boolean (1 : Int32))) fun h4 =>
    if inb (h4.1 103 38) 3072 = true then
    hb (hs h4 124 (h4.1 103 38).toNatClampNeg a1) fun h6 =>
    hb (hs h6 125 a1.toNatClampNeg a2) fun h7 =>
    hb (hs h7 126 a1.toNatClampNeg a3) fun h8 =>
    hb (hs h8 127 a1.toNatClampNeg a4) fun h9 =>
    bI (F_X12_lampsOf N a1 h9) fun r10 h11 =>
    hb (hs h11 130 a1.toNatClampNeg r10) fun h12 =>
    hb (hs h12 103 38 ((h12.1 103 38) + (1 : Int32))) fun h13 =>
    some h13
    else none
    else none
  else
    some h
  else none
set_option maxRecDepth 20000 in
set_option maxHeartbeats 4000000 in
theorem M_X12_meets (E : EV) {N : Nat} {a1 : Int32} {a2 : Int32} {a3 : Int32} {a4 : Int32} {h h2 : PH} (hyp : F_X12_meets N a1 a2 a3 a4 h = some h2) : MV E 154 yX12_meets cX12_meets 5 none 5 112 [.ref 103, .int a1, .int a2, .int a3, .int a4] h h2 := by
  refine MV.of 0 (by decide) rfl (fun X e1 C => ?_)
  subst e1
  replace C : CX X 154 cX12_meets 5 RX12 none 5 112 := C
  show V X _ h 0 [some (.ref 103), some (.int a1), some (.int a2), some (.int a3), some (.int a4)] []
  unfold F_X12_meets at hyp
  refine V_aload_n (pc := 0) C dX12_meets_0 rfl ?_
  refine V_getR (pc := 1) C dX12_meets_1 lf_X12_87 fk_103_43 ?_
  refine V_iload_n (pc := 4) C dX12_meets_4 rfl ?_
  obtain ⟨g1, hyp⟩ := gd_n hyp
  refine V_zald (pc := 5) C dX12_meets_5 ak_128 g1 ?_
  refine V_if_eq (pc := 6) C dX12_meets_6 (tgt := 10) (by decide) (fun q2 => ?_) (fun q2 => ?_)
  · replace hyp := (if_pos q2).symm.trans hyp
    refine V_aload_n (pc := 10) C dX12_meets_10 rfl ?_
    refine V_getR (pc := 11) C dX12_meets_11 lf_X12_87 fk_103_43 ?_
    refine V_iload_n (pc := 14) C dX12_meets_14 rfl ?_
    refine V_iconst (pc := 15) C dX12_meets_15 (v := 1) (by decide) ?_
    obtain ⟨g3, hyp⟩ := gd_n hyp
    obtain ⟨h4, eh4, hyp⟩ := hb_n hyp
    refine V_zast (pc := 16) C dX12_meets_16 ak_128 g3 eh4 ?_
    refine V_aload_n (pc := 17) C dX12_meets_17 rfl ?_
    refine V_getR (pc := 18) C dX12_meets_18 lf_X12_75 fk_103_39 ?_
    refine V_aload_n (pc := 21) C dX12_meets_21 rfl ?_
    refine V_getI (pc := 22) C dX12_meets_22 lf_X12_386 fk_103_38 ?_
    refine V_iload_n (pc := 25) C dX12_meets_25 rfl ?_
    obtain ⟨g5, hyp⟩ := gd_n hyp
    obtain ⟨h6, eh6, hyp⟩ := hb_n hyp
    refine V_iast (pc := 26) C dX12_meets_26 ak_124 g5 eh6 ?_
    refine V_aload_n (pc := 27) C dX12_meets_27 rfl ?_
    refine V_getR (pc := 28) C dX12_meets_28 lf_X12_78 fk_103_40 ?_
    refine V_iload_n (pc := 31) C dX12_meets_31 rfl ?_
    refine V_iload_n (pc := 32) C dX12_meets_32 rfl ?_
    obtain ⟨h7, eh7, hyp⟩ := hb_n hyp
    refine V_iast (pc := 33) C dX12_meets_33 ak_125 g3 eh7 ?_
    refine V_aload_n (pc := 34) C dX12_meets_34 rfl ?_
    refine V_getR (pc := 35) C dX12_meets_35 lf_X12_81 fk_103_41 ?_
    refine V_iload_n (pc := 38) C dX12_meets_38 rfl ?_
    refine V_iload_n (pc := 39) C dX12_meets_39 rfl ?_
    obtain ⟨h8, eh8, hyp⟩ := hb_n hyp
    refine V_iast (pc := 40) C dX12_meets_40 ak_126 g3 eh8 ?_
    refine V_aload_n (pc := 41) C dX12_meets_41 rfl ?_
    refine V_getR (pc := 42) C dX12_meets_42 lf_X12_84 fk_103_42 ?_
    refine V_iload_n (pc := 45) C dX12_meets_45 rfl ?_
    refine V_iload (pc := 46) C dX12_meets_46 rfl ?_
    obtain ⟨h9, eh9, hyp⟩ := hb_n hyp
    refine V_iast (pc := 48) C dX12_meets_48 ak_127 g3 eh9 ?_
    refine V_aload_n (pc := 49) C dX12_meets_49 rfl ?_
    refine V_getR (pc := 50) C dX12_meets_50 lf_X12_93 fk_103_45 ?_
    refine V_iload_n (pc := 53) C dX12_meets_53 rfl ?_
    refine V_aload_n (pc := 54) C dX12_meets_54 rfl ?_
    refine V_iload_n (pc := 55) C dX12_meets_55 rfl ?_
    obtain ⟨r10, h11, eh11, hyp⟩ := bI_n hyp
    refine V_callI (pc := 56) C dX12_meets_56 lm_X12_383 mk_X12_lampsOf ok_103 rfl (M_X12_lampsOf _ eh11) rfl pd_X12_lampsOf (by decide) (by decide) (by decide) (As := [.int a1]) (rest := [.int a1, .ref 130]) rfl (Nat.le_of_ble_eq_true rfl) ?_
    obtain ⟨h12, eh12, hyp⟩ := hb_n hyp
    refine V_iast (pc := 59) C dX12_meets_59 ak_130 g3 eh12 ?_
    refine V_aload_n (pc := 60) C dX12_meets_60 rfl ?_
    refine V_dup (pc := 61) C dX12_meets_61 rfl ?_
    refine V_getI (pc := 62) C dX12_meets_62 lf_X12_386 fk_103_38 ?_
    refine V_iconst (pc := 65) C dX12_meets_65 (v := 1) (by decide) ?_
    refine V_iadd (pc := 66) C dX12_meets_66 ?_
    obtain ⟨h13, eh13, hyp⟩ := hb_n hyp
    refine V_putI (pc := 67) C dX12_meets_67 lf_X12_386 fk_103_38 rfl rfl eh13 ?_
    cases hyp
    exact V_vret C dX12_meets_70
  · replace hyp := (if_neg q2).symm.trans hyp
    cases hyp
    exact V_vret C dX12_meets_9
theorem dX12_goesThrough_0 : decode cX12_goesThrough 0 = .ok (.aload_n 0, 1) := by decide +kernel
theorem dX12_goesThrough_1 : decode cX12_goesThrough 1 = .ok (.getfield 194, 3) := by decide +kernel
theorem dX12_goesThrough_4 : decode cX12_goesThrough 4 = .ok (.ifCond .eq 4, 3) := by decide +kernel
theorem dX12_goesThrough_7 : decode cX12_goesThrough 7 = .ok (.return_, 1) := by decide +kernel
theorem dX12_goesThrough_8 : decode cX12_goesThrough 8 = .ok (.aload_n 0, 1) := by decide +kernel
theorem dX12_goesThrough_9 : decode cX12_goesThrough 9 = .ok (.iconst 1, 1) := by decide +kernel
theorem dX12_goesThrough_10 : decode cX12_goesThrough 10 = .ok (.putfield 194, 3) := by decide +kernel
theorem dX12_goesThrough_13 : decode cX12_goesThrough 13 = .ok (.aload_n 0, 1) := by decide +kernel
theorem dX12_goesThrough_14 : decode cX12_goesThrough 14 = .ok (.iconst 0, 1) := by decide +kernel
theorem dX12_goesThrough_15 : decode cX12_goesThrough 15 = .ok (.putfield 386, 3) := by decide +kernel
theorem dX12_goesThrough_18 : decode cX12_goesThrough 18 = .ok (.iconst 0, 1) := by decide +kernel
theorem dX12_goesThrough_19 : decode cX12_goesThrough 19 = .ok (.istore_n 1, 1) := by decide +kernel
theorem dX12_goesThrough_20 : decode cX12_goesThrough 20 = .ok (.iload_n 1, 1) := by decide +kernel
theorem dX12_goesThrough_21 : decode cX12_goesThrough 21 = .ok (.sipush 3072, 3) := by decide +kernel
theorem dX12_goesThrough_24 : decode cX12_goesThrough 24 = .ok (.if_icmp .ge 16, 3) := by decide +kernel
theorem dX12_goesThrough_27 : decode cX12_goesThrough 27 = .ok (.aload_n 0, 1) := by decide +kernel
theorem dX12_goesThrough_28 : decode cX12_goesThrough 28 = .ok (.getfield 87, 3) := by decide +kernel
theorem dX12_goesThrough_31 : decode cX12_goesThrough 31 = .ok (.iload_n 1, 1) := by decide +kernel
theorem dX12_goesThrough_32 : decode cX12_goesThrough 32 = .ok (.iconst 0, 1) := by decide +kernel
theorem dX12_goesThrough_33 : decode cX12_goesThrough 33 = .ok (.bastore, 1) := by decide +kernel
theorem dX12_goesThrough_34 : decode cX12_goesThrough 34 = .ok (.iinc 1 1, 3) := by decide +kernel
theorem dX12_goesThrough_37 : decode cX12_goesThrough 37 = .ok (.goto (-17), 3) := by decide +kernel
theorem dX12_goesThrough_40 : decode cX12_goesThrough 40 = .ok (.aload_n 0, 1) := by decide +kernel
theorem dX12_goesThrough_41 : decode cX12_goesThrough 41 = .ok (.iconst 0, 1) := by decide +kernel
theorem dX12_goesThrough_42 : decode cX12_goesThrough 42 = .ok (.iconst (-1), 1) := by decide +kernel
theorem dX12_goesThrough_43 : decode cX12_goesThrough 43 = .ok (.iconst (-1), 1) := by decide +kernel
theorem dX12_goesThrough_44 : decode cX12_goesThrough 44 = .ok (.iconst 0, 1) := by decide +kernel
theorem dX12_goesThrough_45 : decode cX12_goesThrough 45 = .ok (.invokevirtual 389, 3) := by decide +kernel
theorem dX12_goesThrough_48 : decode cX12_goesThrough 48 = .ok (.iconst 0, 1) := by decide +kernel
theorem dX12_goesThrough_49 : decode cX12_goesThrough 49 = .ok (.istore_n 1, 1) := by decide +kernel
theorem dX12_goesThrough_50 : decode cX12_goesThrough 50 = .ok (.iload_n 1, 1) := by decide +kernel
theorem dX12_goesThrough_51 : decode cX12_goesThrough 51 = .ok (.aload_n 0, 1) := by decide +kernel
theorem dX12_goesThrough_52 : decode cX12_goesThrough 52 = .ok (.getfield 386, 3) := by decide +kernel
theorem dX12_goesThrough_55 : decode cX12_goesThrough 55 = .ok (.if_icmp .ge 71, 3) := by decide +kernel
theorem dX12_goesThrough_58 : decode cX12_goesThrough 58 = .ok (.aload_n 0, 1) := by decide +kernel
theorem dX12_goesThrough_59 : decode cX12_goesThrough 59 = .ok (.getfield 75, 3) := by decide +kernel
theorem dX12_goesThrough_62 : decode cX12_goesThrough 62 = .ok (.iload_n 1, 1) := by decide +kernel
theorem dX12_goesThrough_63 : decode cX12_goesThrough 63 = .ok (.iaload, 1) := by decide +kernel
theorem dX12_goesThrough_64 : decode cX12_goesThrough 64 = .ok (.istore_n 2, 1) := by decide +kernel
theorem dX12_goesThrough_65 : decode cX12_goesThrough 65 = .ok (.iconst (-1), 1) := by decide +kernel
theorem dX12_goesThrough_66 : decode cX12_goesThrough 66 = .ok (.istore_n 3, 1) := by decide +kernel
theorem dX12_goesThrough_67 : decode cX12_goesThrough 67 = .ok (.iload_n 3, 1) := by decide +kernel
theorem dX12_goesThrough_68 : decode cX12_goesThrough 68 = .ok (.aload_n 0, 1) := by decide +kernel
theorem dX12_goesThrough_69 : decode cX12_goesThrough 69 = .ok (.getfield 7, 3) := by decide +kernel
theorem dX12_goesThrough_72 : decode cX12_goesThrough 72 = .ok (.if_icmp .ge 48, 3) := by decide +kernel
theorem dX12_goesThrough_75 : decode cX12_goesThrough 75 = .ok (.aload_n 0, 1) := by decide +kernel
theorem dX12_goesThrough_76 : decode cX12_goesThrough 76 = .ok (.iload_n 2, 1) := by decide +kernel
theorem dX12_goesThrough_77 : decode cX12_goesThrough 77 = .ok (.iload_n 3, 1) := by decide +kernel
theorem dX12_goesThrough_78 : decode cX12_goesThrough 78 = .ok (.invokevirtual 379, 3) := by decide +kernel
theorem dX12_goesThrough_81 : decode cX12_goesThrough 81 = .ok (.istore 4, 2) := by decide +kernel
theorem dX12_goesThrough_83 : decode cX12_goesThrough 83 = .ok (.aload_n 0, 1) := by decide +kernel
theorem dX12_goesThrough_84 : decode cX12_goesThrough 84 = .ok (.getfield 90, 3) := by decide +kernel
theorem dX12_goesThrough_87 : decode cX12_goesThrough 87 = .ok (.bipush 7, 2) := by decide +kernel
theorem dX12_goesThrough_89 : decode cX12_goesThrough 89 = .ok (.iload_n 2, 1) := by decide +kernel
theorem dX12_goesThrough_90 : decode cX12_goesThrough 90 = .ok (.imul, 1) := by decide +kernel
theorem dX12_goesThrough_91 : decode cX12_goesThrough 91 = .ok (.iload_n 3, 1) := by decide +kernel
theorem dX12_goesThrough_92 : decode cX12_goesThrough 92 = .ok (.iadd, 1) := by decide +kernel
theorem dX12_goesThrough_93 : decode cX12_goesThrough 93 = .ok (.iconst 1, 1) := by decide +kernel
theorem dX12_goesThrough_94 : decode cX12_goesThrough 94 = .ok (.iadd, 1) := by decide +kernel
theorem dX12_goesThrough_95 : decode cX12_goesThrough 95 = .ok (.iload 4, 2) := by decide +kernel
theorem dX12_goesThrough_97 : decode cX12_goesThrough 97 = .ok (.iastore, 1) := by decide +kernel
theorem dX12_goesThrough_98 : decode cX12_goesThrough 98 = .ok (.aload_n 0, 1) := by decide +kernel
theorem dX12_goesThrough_99 : decode cX12_goesThrough 99 = .ok (.iload 4, 2) := by decide +kernel
theorem dX12_goesThrough_101 : decode cX12_goesThrough 101 = .ok (.iload_n 2, 1) := by decide +kernel
theorem dX12_goesThrough_102 : decode cX12_goesThrough 102 = .ok (.iload_n 3, 1) := by decide +kernel
theorem dX12_goesThrough_103 : decode cX12_goesThrough 103 = .ok (.aload_n 0, 1) := by decide +kernel
theorem dX12_goesThrough_104 : decode cX12_goesThrough 104 = .ok (.getfield 84, 3) := by decide +kernel
theorem dX12_goesThrough_107 : decode cX12_goesThrough 107 = .ok (.iload_n 2, 1) := by decide +kernel
theorem dX12_goesThrough_108 : decode cX12_goesThrough 108 = .ok (.iaload, 1) := by decide +kernel
theorem dX12_goesThrough_109 : decode cX12_goesThrough 109 = .ok (.iconst 1, 1) := by decide +kernel
theorem dX12_goesThrough_110 : decode cX12_goesThrough 110 = .ok (.iadd, 1) := by decide +kernel
theorem dX12_goesThrough_111 : decode cX12_goesThrough 111 = .ok (.invokevirtual 389, 3) := by decide +kernel
theorem dX12_goesThrough_114 : decode cX12_goesThrough 114 = .ok (.iinc 3 1, 3) := by decide +kernel
theorem dX12_goesThrough_117 : decode cX12_goesThrough 117 = .ok (.goto (-50), 3) := by decide +kernel
theorem dX12_goesThrough_120 : decode cX12_goesThrough 120 = .ok (.iinc 1 1, 3) := by decide +kernel
theorem dX12_goesThrough_123 : decode cX12_goesThrough 123 = .ok (.goto (-73), 3) := by decide +kernel
theorem dX12_goesThrough_126 : decode cX12_goesThrough 126 = .ok (.return_, 1) := by decide +kernel
def F_X12_goesThrough_b120 (N : Nat) (rc50 : Int32 → PH → Option PH) (x1 : Int32) (h : PH) : Option PH :=
  ib (x1 + (1 : Int32)) fun v1 =>
  rc50 v1 h
set_option maxRecDepth 20000 in
set_option maxHeartbeats 4000000 in
theorem T_X12_goesThrough_b120 {X : CT} (C : CX X 154 cX12_goesThrough 5 RX12 none 6 136) {h0 : PH} {N : Nat} {rc50 : Int32 → PH → Option PH} (hr50 : ∀ (x1 : Int32) (h : PH), rc50 x1 h = some h0 → V X (QV X h0) h 50 [some (.ref 103), some (.int x1), none, none, none] []) : ∀ (x1 : Int32) (h : PH), F_X12_goesThrough_b120 N rc50 x1 h = some h0 → V X (QV X h0) h 120 [some (.ref 103), some (.int x1), none, none, none] [] := by
  intro x1 h hyp
  unfold F_X12_goesThrough_b120 at hyp
  obtain ⟨v1, ev1, hyp⟩ := ib_n hyp
  refine V_iinc (pc := 120) C dX12_goesThrough_120 (v := v1) rfl (by rw [ev1]; rfl) (by decide) rfl ?_
  refine V_goto (pc := 123) C dX12_goesThrough_123 (tgt := 50) (by decide) ?_
  refine V_weak (lv' := [some (.ref 103), some (.int v1), none, none, none]) (lvle_s (lvle_s (lvle_n (lvle_n (lvle_n lvle_0))))) ?_
  exact hr50 v1 h hyp
def F_X12_goesThrough_b67 (N : Nat) (rc50 : Int32 → PH → Option PH) : Nat → Int32 → Int32 → Int32 → PH → Option PH
  | 0, _, _, _, _ => none
  | n + 1, x1, x2, x3, h =>
    if (h.1 103 1) ≤ x3 then
      F_X12_goesThrough_b120 N rc50 x1 h
    else
      bI (F_X12_behind N x2 x3 h) fun r2 h3 =>
      if inb ((((7 : Int32) * x2) + x3) + (1 : Int32)) 21504 = true then
      hb (hs h3 129 ((((7 : Int32) * x2) + x3) + (1 : Int32)).toNatClampNeg r2) fun h5 =>
      if inb x2 3072 = true then
      bV (F_X12_meets N r2 x2 x3 ((h5.1 127 x2.toNatClampNeg) + (1 : Int32)) h5) fun h8 =>
      ib (x3 + (1 : Int32)) fun v9 =>
      F_X12_goesThrough_b67 N rc50 n x1 x2 v9 h8
      else none
      else none
set_option maxRecDepth 20000 in
set_option maxHeartbeats 4000000 in
theorem T_X12_goesThrough_b67 {X : CT} (C : CX X 154 cX12_goesThrough 5 RX12 none 6 136) {h0 : PH} {N : Nat} {rc50 : Int32 → PH → Option PH} (hr50 : ∀ (x1 : Int32) (h : PH), rc50 x1 h = some h0 → V X (QV X h0) h 50 [some (.ref 103), some (.int x1), none, none, none] []) : ∀ (n : Nat) (x1 : Int32) (x2 : Int32) (x3 : Int32) (h : PH), F_X12_goesThrough_b67 N rc50 n x1 x2 x3 h = some h0 → V X (QV X h0) h 67 [some (.ref 103), some (.int x1), some (.int x2), some (.int x3), none] [] := by
  intro n
  induction n with
  | zero =>
    intro x1 x2 x3 h hyp
    cases hyp
  | succ n ih =>
    intro x1 x2 x3 h hyp
    unfold F_X12_goesThrough_b67 at hyp
    refine V_iload_n (pc := 67) C dX12_goesThrough_67 rfl ?_
    refine V_aload_n (pc := 68) C dX12_goesThrough_68 rfl ?_
    refine V_getI (pc := 69) C dX12_goesThrough_69 lf_X12_7 fk_103_1 ?_
    refine V_icmp_ge (pc := 72) C dX12_goesThrough_72 (tgt := 120) (by decide) (fun q1 => ?_) (fun q1 => ?_)
    · replace hyp := (if_pos q1).symm.trans hyp
      refine V_weak (lv' := [some (.ref 103), some (.int x1), none, none, none]) (lvle_s (lvle_s (lvle_n (lvle_n (lvle_n lvle_0))))) ?_
      exact (T_X12_goesThrough_b120 C hr50) x1 h hyp
    · replace hyp := (if_neg q1).symm.trans hyp
      refine V_aload_n (pc := 75) C dX12_goesThrough_75 rfl ?_
      refine V_iload_n (pc := 76) C dX12_goesThrough_76 rfl ?_
      refine V_iload_n (pc := 77) C dX12_goesThrough_77 rfl ?_
      obtain ⟨r2, h3, eh3, hyp⟩ := bI_n hyp
      refine V_callI (pc := 78) C dX12_goesThrough_78 lm_X12_379 mk_X12_behind ok_103 rfl (M_X12_behind _ eh3) rfl pd_X12_behind (by decide) (by decide) (by decide) (As := [.int x2, .int x3]) (rest := []) rfl (Nat.le_of_ble_eq_true rfl) ?_
      refine V_istore (pc := 81) C dX12_goesThrough_81 (by decide) rfl ?_
      refine V_aload_n (pc := 83) C dX12_goesThrough_83 rfl ?_
      refine V_getR (pc := 84) C dX12_goesThrough_84 lf_X12_90 fk_103_44 ?_
      refine V_bipush (pc := 87) C dX12_goesThrough_87 (v := 7) (by decide) ?_
      refine V_iload_n (pc := 89) C dX12_goesThrough_89 rfl ?_
      refine V_imul (pc := 90) C dX12_goesThrough_90 ?_
      refine V_iload_n (pc := 91) C dX12_goesThrough_91 rfl ?_
      refine V_iadd (pc := 92) C dX12_goesThrough_92 ?_
      refine V_iconst (pc := 93) C dX12_goesThrough_93 (v := 1) (by decide) ?_
      refine V_iadd (pc := 94) C dX12_goesThrough_94 ?_
      refine V_iload (pc := 95) C dX12_goesThrough_95 rfl ?_
      obtain ⟨g4, hyp⟩ := gd_n hyp
      obtain ⟨h5, eh5, hyp⟩ := hb_n hyp
      refine V_iast (pc := 97) C dX12_goesThrough_97 ak_129 g4 eh5 ?_
      refine V_aload_n (pc := 98) C dX12_goesThrough_98 rfl ?_
      refine V_iload (pc := 99) C dX12_goesThrough_99 rfl ?_
      refine V_iload_n (pc := 101) C dX12_goesThrough_101 rfl ?_
      refine V_iload_n (pc := 102) C dX12_goesThrough_102 rfl ?_
      refine V_aload_n (pc := 103) C dX12_goesThrough_103 rfl ?_
      refine V_getR (pc := 104) C dX12_goesThrough_104 lf_X12_84 fk_103_42 ?_
      refine V_iload_n (pc := 107) C dX12_goesThrough_107 rfl ?_
      obtain ⟨g6, hyp⟩ := gd_n hyp
      refine V_iald (pc := 108) C dX12_goesThrough_108 ak_127 g6 ?_
      refine V_iconst (pc := 109) C dX12_goesThrough_109 (v := 1) (by decide) ?_
      refine V_iadd (pc := 110) C dX12_goesThrough_110 ?_
      obtain ⟨h8, eh8, hyp⟩ := bV_n hyp
      refine V_callV (pc := 111) C dX12_goesThrough_111 lm_X12_389 mk_X12_meets ok_103 rfl (M_X12_meets _ eh8) rfl pd_X12_meets (by decide) (by decide) (by decide) (As := [.int r2, .int x2, .int x3, .int ((h5.1 127 x2.toNatClampNeg) + (1 : Int32))]) (rest := []) rfl (Nat.le_of_ble_eq_true rfl) ?_
      obtain ⟨v9, ev9, hyp⟩ := ib_n hyp
      refine V_iinc (pc := 114) C dX12_goesThrough_114 (v := v9) rfl (by rw [ev9]; rfl) (by decide) rfl ?_
      refine V_goto (pc := 117) C dX12_goesThrough_117 (tgt := 67) (by decide) ?_
      refine V_weak (lv' := [some (.ref 103), some (.int x1), some (.int x2), some (.int v9), none]) (lvle_s (lvle_s (lvle_s (lvle_s (lvle_n lvle_0))))) ?_
      exact ih x1 x2 v9 h8 hyp
def F_X12_goesThrough_b50 (N : Nat) : Nat → Int32 → PH → Option PH
  | 0, _, _ => none
  | n + 1, x1, h =>
    if (h.1 103 38) ≤ x1 then
      some h
    else
      if inb x1 3072 = true then
      ib (h.1 124 x1.toNatClampNeg) fun v3 =>
      F_X12_goesThrough_b67 N (F_X12_goesThrough_b50 N n) N x1 v3 (-1 : Int32) h
      else none
set_option maxRecDepth 20000 in
set_option maxHeartbeats 4000000 in
theorem T_X12_goesThrough_b50 {X : CT} (C : CX X 154 cX12_goesThrough 5 RX12 none 6 136) {h0 : PH} {N : Nat} : ∀ (n : Nat) (x1 : Int32) (h : PH), F_X12_goesThrough_b50 N n x1 h = some h0 → V X (QV X h0) h 50 [some (.ref 103), some (.int x1), none, none, none] [] := by
  intro n
  induction n with
  | zero =>
    intro x1 h hyp
    cases hyp
  | succ n ih =>
    intro x1 h hyp
    unfold F_X12_goesThrough_b50 at hyp
    refine V_iload_n (pc := 50) C dX12_goesThrough_50 rfl ?_
    refine V_aload_n (pc := 51) C dX12_goesThrough_51 rfl ?_
    refine V_getI (pc := 52) C dX12_goesThrough_52 lf_X12_386 fk_103_38 ?_
    refine V_icmp_ge (pc := 55) C dX12_goesThrough_55 (tgt := 126) (by decide) (fun q1 => ?_) (fun q1 => ?_)
    · replace hyp := (if_pos q1).symm.trans hyp
      cases hyp
      exact V_vret C dX12_goesThrough_126
    · replace hyp := (if_neg q1).symm.trans hyp
      refine V_aload_n (pc := 58) C dX12_goesThrough_58 rfl ?_
      refine V_getR (pc := 59) C dX12_goesThrough_59 lf_X12_75 fk_103_39 ?_
      refine V_iload_n (pc := 62) C dX12_goesThrough_62 rfl ?_
      obtain ⟨g2, hyp⟩ := gd_n hyp
      refine V_iald (pc := 63) C dX12_goesThrough_63 ak_124 g2 ?_
      obtain ⟨v3, ev3, hyp⟩ := ib_n hyp
      refine V_topI ev3 ?_
      refine V_istore_n (pc := 64) C dX12_goesThrough_64 (by decide) rfl ?_
      refine V_iconst (pc := 65) C dX12_goesThrough_65 (v := -1) (by decide) ?_
      refine V_istore_n (pc := 66) C dX12_goesThrough_66 (by decide) rfl ?_
      refine V_weak (lv' := [some (.ref 103), some (.int x1), some (.int v3), some (.int (-1 : Int32)), none]) (lvle_s (lvle_s (lvle_s (lvle_s (lvle_n lvle_0))))) ?_
      exact (T_X12_goesThrough_b67 C ih) N x1 v3 (-1 : Int32) h hyp
def F_X12_goesThrough_b40 (N : Nat) (h : PH) : Option PH :=
  bV (F_X12_meets N (0 : Int32) (-1 : Int32) (-1 : Int32) (0 : Int32) h) fun h2 =>
  F_X12_goesThrough_b50 N N (0 : Int32) h2
set_option maxRecDepth 20000 in
set_option maxHeartbeats 4000000 in
theorem T_X12_goesThrough_b40 {X : CT} (C : CX X 154 cX12_goesThrough 5 RX12 none 6 136) {h0 : PH} {N : Nat} : ∀ (h : PH), F_X12_goesThrough_b40 N  h = some h0 → V X (QV X h0) h 40 [some (.ref 103), none, none, none, none] [] := by
  intro  h hyp
  unfold F_X12_goesThrough_b40 at hyp
  refine V_aload_n (pc := 40) C dX12_goesThrough_40 rfl ?_
  refine V_iconst (pc := 41) C dX12_goesThrough_41 (v := 0) (by decide) ?_
  refine V_iconst (pc := 42) C dX12_goesThrough_42 (v := -1) (by decide) ?_
  refine V_iconst (pc := 43) C dX12_goesThrough_43 (v := -1) (by decide) ?_
  refine V_iconst (pc := 44) C dX12_goesThrough_44 (v := 0) (by decide) ?_
  obtain ⟨h2, eh2, hyp⟩ := bV_n hyp
  refine V_callV (pc := 45) C dX12_goesThrough_45 lm_X12_389 mk_X12_meets ok_103 rfl (M_X12_meets _ eh2) rfl pd_X12_meets (by decide) (by decide) (by decide) (As := [.int (0 : Int32), .int (-1 : Int32), .int (-1 : Int32), .int (0 : Int32)]) (rest := []) rfl (Nat.le_of_ble_eq_true rfl) ?_
  refine V_iconst (pc := 48) C dX12_goesThrough_48 (v := 0) (by decide) ?_
  refine V_istore_n (pc := 49) C dX12_goesThrough_49 (by decide) rfl ?_
  refine V_weak (lv' := [some (.ref 103), some (.int (0 : Int32)), none, none, none]) (lvle_s (lvle_s (lvle_n (lvle_n (lvle_n lvle_0))))) ?_
  exact (T_X12_goesThrough_b50 C) N (0 : Int32) h2 hyp
def F_X12_goesThrough_b20 (N : Nat) : Nat → Int32 → PH → Option PH
  | 0, _, _ => none
  | n + 1, x1, h =>
    if (3072 : Int32) ≤ x1 then
      F_X12_goesThrough_b40 N  h
    else
      if inb x1 3072 = true then
      hb (hs h 128 x1.toNatClampNeg (vp_nar .boolean (0 : Int32))) fun h3 =>
      ib (x1 + (1 : Int32)) fun v4 =>
      F_X12_goesThrough_b20 N n v4 h3
      else none
set_option maxRecDepth 20000 in
set_option maxHeartbeats 4000000 in
theorem T_X12_goesThrough_b20 {X : CT} (C : CX X 154 cX12_goesThrough 5 RX12 none 6 136) {h0 : PH} {N : Nat} : ∀ (n : Nat) (x1 : Int32) (h : PH), F_X12_goesThrough_b20 N n x1 h = some h0 → V X (QV X h0) h 20 [some (.ref 103), some (.int x1), none, none, none] [] := by
  intro n
  induction n with
  | zero =>
    intro x1 h hyp
    cases hyp
  | succ n ih =>
    intro x1 h hyp
    unfold F_X12_goesThrough_b20 at hyp
    refine V_iload_n (pc := 20) C dX12_goesThrough_20 rfl ?_
    refine V_sipush (pc := 21) C dX12_goesThrough_21 (v := 3072) (by decide) ?_
    refine V_icmp_ge (pc := 24) C dX12_goesThrough_24 (tgt := 40) (by decide) (fun q1 => ?_) (fun q1 => ?_)
    · replace hyp := (if_pos q1).symm.trans hyp
      refine V_weak (lv' := [some (.ref 103), none, none, none, none]) (lvle_s (lvle_n (lvle_n (lvle_n (lvle_n lvle_0))))) ?_
      exact (T_X12_goesThrough_b40 C) h hyp
    · replace hyp := (if_neg q1).symm.trans hyp
      refine V_aload_n (pc := 27) C dX12_goesThrough_27 rfl ?_
      refine V_getR (pc := 28) C dX12_goesThrough_28 lf_X12_87 fk_103_43 ?_
      refine V_iload_n (pc := 31) C dX12_goesThrough_31 rfl ?_
      refine V_iconst (pc := 32) C dX12_goesThrough_32 (v := 0) (by decide) ?_
      obtain ⟨g2, hyp⟩ := gd_n hyp
      obtain ⟨h3, eh3, hyp⟩ := hb_n hyp
      refine V_zast (pc := 33) C dX12_goesThrough_33 ak_128 g2 eh3 ?_
      obtain ⟨v4, ev4, hyp⟩ := ib_n hyp
      refine V_iinc (pc := 34) C dX12_goesThrough_34 (v := v4) rfl (by rw [ev4]; rfl) (by decide) rfl ?_
      refine V_goto (pc := 37) C dX12_goesThrough_37 (tgt := 20) (by decide) ?_
      refine V_weak (lv' := [some (.ref 103), some (.int v4), none, none, none]) (lvle_s (lvle_s (lvle_n (lvle_n (lvle_n lvle_0))))) ?_
      exact ih v4 h3 hyp
def F_X12_goesThrough (N : Nat) (h : PH) : Option PH :=
  if (h.1 103 37) = 0 then
    hb (hs h 103 37 (1 : Int32)) fun h2 =>
    hb (hs h2 103 38 (0 : Int32)) fun h3 =>
    F_X12_goesThrough_b20 N N (0 : Int32) h3
  else
    some h
set_option maxRecDepth 20000 in
set_option maxHeartbeats 4000000 in
theorem M_X12_goesThrough (E : EV) {N : Nat} {h h2 : PH} (hyp : F_X12_goesThrough N  h = some h2) : MV E 154 yX12_goesThrough cX12_goesThrough 5 none 6 136 [.ref 103] h h2 := by
  refine MV.of 4 (by decide) rfl (fun X e1 C => ?_)
  subst e1
  replace C : CX X 154 cX12_goesThrough 5 RX12 none 6 136 := C
  show V X _ h 0 [some (.ref 103), none, none, none, none] []
  unfold F_X12_goesThrough at hyp
  refine V_aload_n (pc := 0) C dX12_goesThrough_0 rfl ?_
  refine V_getI (pc := 1) C dX12_goesThrough_1 lf_X12_194 fk_103_37 ?_
  refine V_if_eq (pc := 4) C dX12_goesThrough_4 (tgt := 8) (by decide) (fun q1 => ?_) (fun q1 => ?_)
  · replace hyp := (if_pos q1).symm.trans hyp
    refine V_aload_n (pc := 8) C dX12_goesThrough_8 rfl ?_
    refine V_iconst (pc := 9) C dX12_goesThrough_9 (v := 1) (by decide) ?_
    obtain ⟨h2, eh2, hyp⟩ := hb_n hyp
    refine V_putI (pc := 10) C dX12_goesThrough_10 lf_X12_194 fk_103_37 rfl rfl eh2 ?_
    refine V_aload_n (pc := 13) C dX12_goesThrough_13 rfl ?_
    refine V_iconst (pc := 14) C dX12_goesThrough_14 (v := 0) (by decide) ?_
    obtain ⟨h3, eh3, hyp⟩ := hb_n hyp
    refine V_putI (pc := 15) C dX12_goesThrough_15 lf_X12_386 fk_103_38 rfl rfl eh3 ?_
    refine V_iconst (pc := 18) C dX12_goesThrough_18 (v := 0) (by decide) ?_
    refine V_istore_n (pc := 19) C dX12_goesThrough_19 (by decide) rfl ?_
    refine V_weak (lv' := [some (.ref 103), some (.int (0 : Int32)), none, none, none]) (lvle_s (lvle_s (lvle_n (lvle_n (lvle_n lvle_0))))) ?_
    exact (T_X12_goesThrough_b20 C) N (0 : Int32) h3 hyp
  · replace hyp := (if_neg q1).symm.trans hyp
    cases hyp
    exact V_vret C dX12_goesThrough_7
theorem dX12_rowTo_0 : decode cX12_rowTo 0 = .ok (.iload_n 1, 1) := by decide +kernel
theorem dX12_rowTo_1 : decode cX12_rowTo 1 = .ok (.ifCond .lt 17, 3) := by decide +kernel
theorem dX12_rowTo_4 : decode cX12_rowTo 4 = .ok (.iload_n 2, 1) := by decide +kernel
theorem dX12_rowTo_5 : decode cX12_rowTo 5 = .ok (.ifCond .lt 13, 3) := by decide +kernel
theorem dX12_rowTo_8 : decode cX12_rowTo 8 = .ok (.iload_n 2, 1) := by decide +kernel
theorem dX12_rowTo_9 : decode cX12_rowTo 9 = .ok (.aload_n 0, 1) := by decide +kernel
theorem dX12_rowTo_10 : decode cX12_rowTo 10 = .ok (.getfield 84, 3) := by decide +kernel
theorem dX12_rowTo_13 : decode cX12_rowTo 13 = .ok (.iload_n 1, 1) := by decide +kernel
theorem dX12_rowTo_14 : decode cX12_rowTo 14 = .ok (.iaload, 1) := by decide +kernel
theorem dX12_rowTo_15 : decode cX12_rowTo 15 = .ok (.if_icmp .lt 5, 3) := by decide +kernel
theorem dX12_rowTo_18 : decode cX12_rowTo 18 = .ok (.iconst (-1), 1) := by decide +kernel
theorem dX12_rowTo_19 : decode cX12_rowTo 19 = .ok (.ireturn, 1) := by decide +kernel
theorem dX12_rowTo_20 : decode cX12_rowTo 20 = .ok (.iload_n 1, 1) := by decide +kernel
theorem dX12_rowTo_21 : decode cX12_rowTo 21 = .ok (.istore_n 3, 1) := by decide +kernel
theorem dX12_rowTo_22 : decode cX12_rowTo 22 = .ok (.aload_n 0, 1) := by decide +kernel
theorem dX12_rowTo_23 : decode cX12_rowTo 23 = .ok (.getfield 84, 3) := by decide +kernel
theorem dX12_rowTo_26 : decode cX12_rowTo 26 = .ok (.iload_n 3, 1) := by decide +kernel
theorem dX12_rowTo_27 : decode cX12_rowTo 27 = .ok (.iaload, 1) := by decide +kernel
theorem dX12_rowTo_28 : decode cX12_rowTo 28 = .ok (.iload_n 2, 1) := by decide +kernel
theorem dX12_rowTo_29 : decode cX12_rowTo 29 = .ok (.iconst 1, 1) := by decide +kernel
theorem dX12_rowTo_30 : decode cX12_rowTo 30 = .ok (.iadd, 1) := by decide +kernel
theorem dX12_rowTo_31 : decode cX12_rowTo 31 = .ok (.if_icmp .le 13, 3) := by decide +kernel
theorem dX12_rowTo_34 : decode cX12_rowTo 34 = .ok (.aload_n 0, 1) := by decide +kernel
theorem dX12_rowTo_35 : decode cX12_rowTo 35 = .ok (.getfield 78, 3) := by decide +kernel
theorem dX12_rowTo_38 : decode cX12_rowTo 38 = .ok (.iload_n 3, 1) := by decide +kernel
theorem dX12_rowTo_39 : decode cX12_rowTo 39 = .ok (.iaload, 1) := by decide +kernel
theorem dX12_rowTo_40 : decode cX12_rowTo 40 = .ok (.istore_n 3, 1) := by decide +kernel
theorem dX12_rowTo_41 : decode cX12_rowTo 41 = .ok (.goto (-19), 3) := by decide +kernel
theorem dX12_rowTo_44 : decode cX12_rowTo 44 = .ok (.iconst 1, 1) := by decide +kernel
theorem dX12_rowTo_45 : decode cX12_rowTo 45 = .ok (.aload_n 0, 1) := by decide +kernel
theorem dX12_rowTo_46 : decode cX12_rowTo 46 = .ok (.getfield 81, 3) := by decide +kernel
theorem dX12_rowTo_49 : decode cX12_rowTo 49 = .ok (.iload_n 3, 1) := by decide +kernel
theorem dX12_rowTo_50 : decode cX12_rowTo 50 = .ok (.iaload, 1) := by decide +kernel
theorem dX12_rowTo_51 : decode cX12_rowTo 51 = .ok (.iadd, 1) := by decide +kernel
theorem dX12_rowTo_52 : decode cX12_rowTo 52 = .ok (.ireturn, 1) := by decide +kernel
def F_X12_rowTo_b44 (N : Nat) (x3 : Int32) (h : PH) : Option (Int32 × PH) :=
  if inb x3 3072 = true then
  some ((1 : Int32) + (h.1 126 x3.toNatClampNeg), h)
  else none
set_option maxRecDepth 20000 in
set_option maxHeartbeats 4000000 in
theorem T_X12_rowTo_b44 {X : CT} (C : CX X 154 cX12_rowTo 4 RX12 (some .int) 0 0) {r0 : Int32} {h0 : PH} {N : Nat} : ∀ (x3 : Int32) (h : PH), F_X12_rowTo_b44 N x3 h = some (r0, h0) → V X (QI X r0 h0) h 44 [some (.ref 103), none, none, some (.int x3)] [] := by
  intro x3 h hyp
  unfold F_X12_rowTo_b44 at hyp
  refine V_iconst (pc := 44) C dX12_rowTo_44 (v := 1) (by decide) ?_
  refine V_aload_n (pc := 45) C dX12_rowTo_45 rfl ?_
  refine V_getR (pc := 46) C dX12_rowTo_46 lf_X12_81 fk_103_41 ?_
  refine V_iload_n (pc := 49) C dX12_rowTo_49 rfl ?_
  obtain ⟨g1, hyp⟩ := gd_n hyp
  refine V_iald (pc := 50) C dX12_rowTo_50 ak_126 g1 ?_
  refine V_iadd (pc := 51) C dX12_rowTo_51 ?_
  cases hyp
  exact V_iret C dX12_rowTo_52
def F_X12_rowTo_b22 (N : Nat) : Nat → Int32 → Int32 → PH → Option (Int32 × PH)
  | 0, _, _, _ => none
  | n + 1, x2, x3, h =>
    if inb x3 3072 = true then
    if (h.1 127 x3.toNatClampNeg) ≤ (x2 + (1 : Int32)) then
      F_X12_rowTo_b44 N x3 h
    else
      if inb x3 3072 = true then
      ib (h.1 125 x3.toNatClampNeg) fun v4 =>
      F_X12_rowTo_b22 N n x2 v4 h
      else none
    else none
set_option maxRecDepth 20000 in
set_option maxHeartbeats 4000000 in
theorem T_X12_rowTo_b22 {X : CT} (C : CX X 154 cX12_rowTo 4 RX12 (some .int) 0 0) {r0 : Int32} {h0 : PH} {N : Nat} : ∀ (n : Nat) (x2 : Int32) (x3 : Int32) (h : PH), F_X12_rowTo_b22 N n x2 x3 h = some (r0, h0) → V X (QI X r0 h0) h 22 [some (.ref 103), none, some (.int x2), some (.int x3)] [] := by
  intro n
  induction n with
  | zero =>
    intro x2 x3 h hyp
    cases hyp
  | succ n ih =>
    intro x2 x3 h hyp
    unfold F_X12_rowTo_b22 at hyp
    refine V_aload_n (pc := 22) C dX12_rowTo_22 rfl ?_
    refine V_getR (pc := 23) C dX12_rowTo_23 lf_X12_84 fk_103_42 ?_
    refine V_iload_n (pc := 26) C dX12_rowTo_26 rfl ?_
    obtain ⟨g1, hyp⟩ := gd_n hyp
    refine V_iald (pc := 27) C dX12_rowTo_27 ak_127 g1 ?_
    refine V_iload_n (pc := 28) C dX12_rowTo_28 rfl ?_
    refine V_iconst (pc := 29) C dX12_rowTo_29 (v := 1) (by decide) ?_
    refine V_iadd (pc := 30) C dX12_rowTo_30 ?_
    refine V_icmp_le (pc := 31) C dX12_rowTo_31 (tgt := 44) (by decide) (fun q2 => ?_) (fun q2 => ?_)
    · replace hyp := (if_pos q2).symm.trans hyp
      refine V_weak (lv' := [some (.ref 103), none, none, some (.int x3)]) (lvle_s (lvle_n (lvle_n (lvle_s lvle_0)))) ?_
      exact (T_X12_rowTo_b44 C) x3 h hyp
    · replace hyp := (if_neg q2).symm.trans hyp
      refine V_aload_n (pc := 34) C dX12_rowTo_34 rfl ?_
      refine V_getR (pc := 35) C dX12_rowTo_35 lf_X12_78 fk_103_40 ?_
      refine V_iload_n (pc := 38) C dX12_rowTo_38 rfl ?_
      obtain ⟨g3, hyp⟩ := gd_n hyp
      refine V_iald (pc := 39) C dX12_rowTo_39 ak_125 g3 ?_
      obtain ⟨v4, ev4, hyp⟩ := ib_n hyp
      refine V_topI ev4 ?_
      refine V_istore_n (pc := 40) C dX12_rowTo_40 (by decide) rfl ?_
      refine V_goto (pc := 41) C dX12_rowTo_41 (tgt := 22) (by decide) ?_
      refine V_weak (lv' := [some (.ref 103), none, some (.int x2), some (.int v4)]) (lvle_s (lvle_n (lvle_s (lvle_s lvle_0)))) ?_
      exact ih x2 v4 h hyp
def F_X12_rowTo (N : Nat) (a1 : Int32) (a2 : Int32) (h : PH) : Option (Int32 × PH) :=
  if a1 < 0 then
    some ((-1 : Int32), h)
  else
    if a2 < 0 then
      some ((-1 : Int32), h)
    else
      if inb a1 3072 = true then
      if a2 < (h.1 127 a1.toNatClampNeg) then
        F_X12_rowTo_b22 N N a2 a1 h
      else
        some ((-1 : Int32), h)
      else none
set_option maxRecDepth 20000 in
set_option maxHeartbeats 4000000 in
theorem M_X12_rowTo (E : EV) {N : Nat} {a1 : Int32} {a2 : Int32} {r : Int32} {h h2 : PH} (hyp : F_X12_rowTo N a1 a2 h = some (r, h2)) : MI E 154 yX12_rowTo cX12_rowTo 4 (some .int) 0 0 [.ref 103, .int a1, .int a2] h r h2 := by
  refine MI.of 1 (by decide) rfl (fun X e1 C => ?_)
  subst e1
  replace C : CX X 154 cX12_rowTo 4 RX12 (some .int) 0 0 := C
  show V X _ h 0 [some (.ref 103), some (.int a1), some (.int a2), none] []
  unfold F_X12_rowTo at hyp
  refine V_iload_n (pc := 0) C dX12_rowTo_0 rfl ?_
  refine V_if_lt (pc := 1) C dX12_rowTo_1 (tgt := 18) (by decide) (fun q1 => ?_) (fun q1 => ?_)
  · replace hyp := (if_pos q1).symm.trans hyp
    refine V_iconst (pc := 18) C dX12_rowTo_18 (v := -1) (by decide) ?_
    cases hyp
    exact V_iret C dX12_rowTo_19
  · replace hyp := (if_neg q1).symm.trans hyp
    refine V_iload_n (pc := 4) C dX12_rowTo_4 rfl ?_
    refine V_if_lt (pc := 5) C dX12_rowTo_5 (tgt := 18) (by decide) (fun q2 => ?_) (fun q2 => ?_)
    · replace hyp := (if_pos q2).symm.trans hyp
      refine V_iconst (pc := 18) C dX12_rowTo_18 (v := -1) (by decide) ?_
      cases hyp
      exact V_iret C dX12_rowTo_19
    · replace hyp := (if_neg q2).symm.trans hyp
      refine V_iload_n (pc := 8) C dX12_rowTo_8 rfl ?_
      refine V_aload_n (pc := 9) C dX12_rowTo_9 rfl ?_
      refine V_getR (pc := 10) C dX12_rowTo_10 lf_X12_84 fk_103_42 ?_
      refine V_iload_n (pc := 13) C dX12_rowTo_13 rfl ?_
      obtain ⟨g3, hyp⟩ := gd_n hyp
      refine V_iald (pc := 14) C dX12_rowTo_14 ak_127 g3 ?_
      refine V_icmp_lt (pc := 15) C dX12_rowTo_15 (tgt := 20) (by decide) (fun q4 => ?_) (fun q4 => ?_)
      · replace hyp := (if_pos q4).symm.trans hyp
        refine V_iload_n (pc := 20) C dX12_rowTo_20 rfl ?_
        refine V_istore_n (pc := 21) C dX12_rowTo_21 (by decide) rfl ?_
        refine V_weak (lv' := [some (.ref 103), none, some (.int a2), some (.int a1)]) (lvle_s (lvle_n (lvle_s (lvle_s lvle_0)))) ?_
        exact (T_X12_rowTo_b22 C) N a2 a1 h hyp
      · replace hyp := (if_neg q4).symm.trans hyp
        refine V_iconst (pc := 18) C dX12_rowTo_18 (v := -1) (by decide) ?_
        cases hyp
        exact V_iret C dX12_rowTo_19
theorem dX12_isNever_0 : decode cX12_isNever 0 = .ok (.iload_n 1, 1) := by decide +kernel
theorem dX12_isNever_1 : decode cX12_isNever 1 = .ok (.iconst 0, 1) := by decide +kernel
theorem dX12_isNever_2 : decode cX12_isNever 2 = .ok (.iconst 5, 1) := by decide +kernel
theorem dX12_isNever_3 : decode cX12_isNever 3 = .ok (.invokestatic 183, 3) := by decide +kernel
theorem dX12_isNever_6 : decode cX12_isNever 6 = .ok (.ifCond .eq 19, 3) := by decide +kernel
theorem dX12_isNever_9 : decode cX12_isNever 9 = .ok (.aload_n 0, 1) := by decide +kernel
theorem dX12_isNever_10 : decode cX12_isNever 10 = .ok (.getfield 17, 3) := by decide +kernel
theorem dX12_isNever_13 : decode cX12_isNever 13 = .ok (.bipush 19, 2) := by decide +kernel
theorem dX12_isNever_15 : decode cX12_isNever 15 = .ok (.iload_n 1, 1) := by decide +kernel
theorem dX12_isNever_16 : decode cX12_isNever 16 = .ok (.iadd, 1) := by decide +kernel
theorem dX12_isNever_17 : decode cX12_isNever 17 = .ok (.baload, 1) := by decide +kernel
theorem dX12_isNever_18 : decode cX12_isNever 18 = .ok (.ifCond .eq 7, 3) := by decide +kernel
theorem dX12_isNever_21 : decode cX12_isNever 21 = .ok (.iconst 1, 1) := by decide +kernel
theorem dX12_isNever_22 : decode cX12_isNever 22 = .ok (.goto 4, 3) := by decide +kernel
theorem dX12_isNever_25 : decode cX12_isNever 25 = .ok (.iconst 0, 1) := by decide +kernel
theorem dX12_isNever_26 : decode cX12_isNever 26 = .ok (.ireturn, 1) := by decide +kernel
def F_X12_isNever_b25 (h : PH) : Option (Int32 × PH) :=
  some ((0 : Int32), h)
set_option maxRecDepth 20000 in
set_option maxHeartbeats 4000000 in
theorem T_X12_isNever_b25 {X : CT} (C : CX X 154 cX12_isNever 2 RX12 (some .boolean) 1 22) {r0 : Int32} {h0 : PH} : ∀ (h : PH), F_X12_isNever_b25  h = some (r0, h0) → V X (QI X r0 h0) h 25 [none, none] [] := by
  intro  h hyp
  unfold F_X12_isNever_b25 at hyp
  refine V_iconst (pc := 25) C dX12_isNever_25 (v := 0) (by decide) ?_
  cases hyp
  exact V_zret C dX12_isNever_26 rfl
def F_X12_isNever (a1 : Int32) (h : PH) : Option (Int32 × PH) :=
  bI (F_X12_within a1 (0 : Int32) (5 : Int32) h) fun r1 h2 =>
  if r1 = 0 then
    F_X12_isNever_b25  h2
  else
    if inb ((19 : Int32) + a1) 26 = true then
    if (h2.1 105 ((19 : Int32) + a1).toNatClampNeg) = 0 then
      F_X12_isNever_b25  h2
    else
      some ((1 : Int32), h2)
    else none
set_option maxRecDepth 20000 in
set_option maxHeartbeats 4000000 in
theorem M_X12_isNever (E : EV) {a1 : Int32} {r : Int32} {h h2 : PH} (hyp : F_X12_isNever a1 h = some (r, h2)) : MI E 154 yX12_isNever cX12_isNever 2 (some .boolean) 1 22 [.ref 103, .int a1] h r h2 := by
  refine MI.of 0 (by decide) rfl (fun X e1 C => ?_)
  subst e1
  replace C : CX X 154 cX12_isNever 2 RX12 (some .boolean) 1 22 := C
  show V X _ h 0 [some (.ref 103), some (.int a1)] []
  unfold F_X12_isNever at hyp
  refine V_iload_n (pc := 0) C dX12_isNever_0 rfl ?_
  refine V_iconst (pc := 1) C dX12_isNever_1 (v := 0) (by decide) ?_
  refine V_iconst (pc := 2) C dX12_isNever_2 (v := 5) (by decide) ?_
  obtain ⟨r1, h2, eh2, hyp⟩ := bI_n hyp
  refine V_statI (pc := 3) C dX12_isNever_3 lm_X12_183 ms_X12_within (M_X12_within _ eh2) rfl pd_X12_within (by decide) (by decide) (by decide) (As := [.int a1, .int (0 : Int32), .int (5 : Int32)]) (rest := []) rfl (Nat.le_of_ble_eq_true rfl) ?_
  refine V_if_eq (pc := 6) C dX12_isNever_6 (tgt := 25) (by decide) (fun q3 => ?_) (fun q3 => ?_)
  · replace hyp := (if_pos q3).symm.trans hyp
    refine V_weak (lv' := [none, none]) (lvle_n (lvle_n lvle_0)) ?_
    exact (T_X12_isNever_b25 C) h2 hyp
  · replace hyp := (if_neg q3).symm.trans hyp
    refine V_aload_n (pc := 9) C dX12_isNever_9 rfl ?_
    refine V_getR (pc := 10) C dX12_isNever_10 lf_X12_17 fk_103_11 ?_
    refine V_bipush (pc := 13) C dX12_isNever_13 (v := 19) (by decide) ?_
    refine V_iload_n (pc := 15) C dX12_isNever_15 rfl ?_
    refine V_iadd (pc := 16) C dX12_isNever_16 ?_
    obtain ⟨g4, hyp⟩ := gd_n hyp
    refine V_zald (pc := 17) C dX12_isNever_17 ak_105 g4 ?_
    refine V_if_eq (pc := 18) C dX12_isNever_18 (tgt := 25) (by decide) (fun q5 => ?_) (fun q5 => ?_)
    · replace hyp := (if_pos q5).symm.trans hyp
      refine V_weak (lv' := [none, none]) (lvle_n (lvle_n lvle_0)) ?_
      exact (T_X12_isNever_b25 C) h2 hyp
    · replace hyp := (if_neg q5).symm.trans hyp
      refine V_iconst (pc := 21) C dX12_isNever_21 (v := 1) (by decide) ?_
      refine V_goto (pc := 22) C dX12_isNever_22 (tgt := 26) (by decide) ?_
      cases hyp
      exact V_zret C dX12_isNever_26 rfl
theorem dX12_breaks_0 : decode cX12_breaks 0 = .ok (.aload_n 0, 1) := by decide +kernel
theorem dX12_breaks_1 : decode cX12_breaks 1 = .ok (.invokevirtual 393, 3) := by decide +kernel
theorem dX12_breaks_4 : decode cX12_breaks 4 = .ok (.iconst 0, 1) := by decide +kernel
theorem dX12_breaks_5 : decode cX12_breaks 5 = .ok (.istore_n 2, 1) := by decide +kernel
theorem dX12_breaks_6 : decode cX12_breaks 6 = .ok (.iload_n 2, 1) := by decide +kernel
theorem dX12_breaks_7 : decode cX12_breaks 7 = .ok (.aload_n 0, 1) := by decide +kernel
theorem dX12_breaks_8 : decode cX12_breaks 8 = .ok (.getfield 386, 3) := by decide +kernel
theorem dX12_breaks_11 : decode cX12_breaks 11 = .ok (.if_icmp .ge 48, 3) := by decide +kernel
theorem dX12_breaks_14 : decode cX12_breaks 14 = .ok (.aload_n 0, 1) := by decide +kernel
theorem dX12_breaks_15 : decode cX12_breaks 15 = .ok (.aload_n 0, 1) := by decide +kernel
theorem dX12_breaks_16 : decode cX12_breaks 16 = .ok (.getfield 75, 3) := by decide +kernel
theorem dX12_breaks_19 : decode cX12_breaks 19 = .ok (.iload_n 2, 1) := by decide +kernel
theorem dX12_breaks_20 : decode cX12_breaks 20 = .ok (.iaload, 1) := by decide +kernel
theorem dX12_breaks_21 : decode cX12_breaks 21 = .ok (.aload_n 0, 1) := by decide +kernel
theorem dX12_breaks_22 : decode cX12_breaks 22 = .ok (.getfield 75, 3) := by decide +kernel
theorem dX12_breaks_25 : decode cX12_breaks 25 = .ok (.iload_n 2, 1) := by decide +kernel
theorem dX12_breaks_26 : decode cX12_breaks 26 = .ok (.iaload, 1) := by decide +kernel
theorem dX12_breaks_27 : decode cX12_breaks 27 = .ok (.sipush 255, 3) := by decide +kernel
theorem dX12_breaks_30 : decode cX12_breaks 30 = .ok (.iand, 1) := by decide +kernel
theorem dX12_breaks_31 : decode cX12_breaks 31 = .ok (.iconst (-1), 1) := by decide +kernel
theorem dX12_breaks_32 : decode cX12_breaks 32 = .ok (.invokevirtual 369, 3) := by decide +kernel
theorem dX12_breaks_35 : decode cX12_breaks 35 = .ok (.aload_n 0, 1) := by decide +kernel
theorem dX12_breaks_36 : decode cX12_breaks 36 = .ok (.bipush 19, 2) := by decide +kernel
theorem dX12_breaks_38 : decode cX12_breaks 38 = .ok (.iload_n 1, 1) := by decide +kernel
theorem dX12_breaks_39 : decode cX12_breaks 39 = .ok (.iadd, 1) := by decide +kernel
theorem dX12_breaks_40 : decode cX12_breaks 40 = .ok (.invokevirtual 357, 3) := by decide +kernel
theorem dX12_breaks_43 : decode cX12_breaks 43 = .ok (.ifCond .eq 10, 3) := by decide +kernel
theorem dX12_breaks_46 : decode cX12_breaks 46 = .ok (.aload_n 0, 1) := by decide +kernel
theorem dX12_breaks_47 : decode cX12_breaks 47 = .ok (.getfield 75, 3) := by decide +kernel
theorem dX12_breaks_50 : decode cX12_breaks 50 = .ok (.iload_n 2, 1) := by decide +kernel
theorem dX12_breaks_51 : decode cX12_breaks 51 = .ok (.iaload, 1) := by decide +kernel
theorem dX12_breaks_52 : decode cX12_breaks 52 = .ok (.ireturn, 1) := by decide +kernel
theorem dX12_breaks_53 : decode cX12_breaks 53 = .ok (.iinc 2 1, 3) := by decide +kernel
theorem dX12_breaks_56 : decode cX12_breaks 56 = .ok (.goto (-50), 3) := by decide +kernel
theorem dX12_breaks_59 : decode cX12_breaks 59 = .ok (.iconst (-1), 1) := by decide +kernel
theorem dX12_breaks_60 : decode cX12_breaks 60 = .ok (.ireturn, 1) := by decide +kernel
def F_X12_breaks_b46 (N : Nat) (x2 : Int32) (h : PH) : Option (Int32 × PH) :=
  if inb x2 3072 = true then
  some (h.1 124 x2.toNatClampNeg, h)
  else none
set_option maxRecDepth 20000 in
set_option maxHeartbeats 4000000 in
theorem T_X12_breaks_b46 {X : CT} (C : CX X 154 cX12_breaks 3 RX12 (some .int) 7 160) {r0 : Int32} {h0 : PH} {N : Nat} : ∀ (x2 : Int32) (h : PH), F_X12_breaks_b46 N x2 h = some (r0, h0) → V X (QI X r0 h0) h 46 [some (.ref 103), none, some (.int x2)] [] := by
  intro x2 h hyp
  unfold F_X12_breaks_b46 at hyp
  refine V_aload_n (pc := 46) C dX12_breaks_46 rfl ?_
  refine V_getR (pc := 47) C dX12_breaks_47 lf_X12_75 fk_103_39 ?_
  refine V_iload_n (pc := 50) C dX12_breaks_50 rfl ?_
  obtain ⟨g1, hyp⟩ := gd_n hyp
  refine V_iald (pc := 51) C dX12_breaks_51 ak_124 g1 ?_
  cases hyp
  exact V_iret C dX12_breaks_52
def F_X12_breaks_b6 (N : Nat) : Nat → Int32 → Int32 → PH → Option (Int32 × PH)
  | 0, _, _, _ => none
  | n + 1, x1, x2, h =>
    if (h.1 103 38) ≤ x2 then
      some ((-1 : Int32), h)
    else
      if inb x2 3072 = true then
      bV (F_X12_sets N (h.1 124 x2.toNatClampNeg) ((h.1 124 x2.toNatClampNeg) &&& (255 : Int32)) (-1 : Int32) h) fun h4 =>
      bI (F_X12_worth N ((19 : Int32) + x1) h4) fun r5 h6 =>
      if r5 = 0 then
        ib (x2 + (1 : Int32)) fun v8 =>
        F_X12_breaks_b6 N n x1 v8 h6
      else
        F_X12_breaks_b46 N x2 h6
      else none
set_option maxRecDepth 20000 in
set_option maxHeartbeats 4000000 in
theorem T_X12_breaks_b6 {X : CT} (C : CX X 154 cX12_breaks 3 RX12 (some .int) 7 160) {r0 : Int32} {h0 : PH} {N : Nat} : ∀ (n : Nat) (x1 : Int32) (x2 : Int32) (h : PH), F_X12_breaks_b6 N n x1 x2 h = some (r0, h0) → V X (QI X r0 h0) h 6 [some (.ref 103), some (.int x1), some (.int x2)] [] := by
  intro n
  induction n with
  | zero =>
    intro x1 x2 h hyp
    cases hyp
  | succ n ih =>
    intro x1 x2 h hyp
    unfold F_X12_breaks_b6 at hyp
    refine V_iload_n (pc := 6) C dX12_breaks_6 rfl ?_
    refine V_aload_n (pc := 7) C dX12_breaks_7 rfl ?_
    refine V_getI (pc := 8) C dX12_breaks_8 lf_X12_386 fk_103_38 ?_
    refine V_icmp_ge (pc := 11) C dX12_breaks_11 (tgt := 59) (by decide) (fun q1 => ?_) (fun q1 => ?_)
    · replace hyp := (if_pos q1).symm.trans hyp
      refine V_iconst (pc := 59) C dX12_breaks_59 (v := -1) (by decide) ?_
      cases hyp
      exact V_iret C dX12_breaks_60
    · replace hyp := (if_neg q1).symm.trans hyp
      refine V_aload_n (pc := 14) C dX12_breaks_14 rfl ?_
      refine V_aload_n (pc := 15) C dX12_breaks_15 rfl ?_
      refine V_getR (pc := 16) C dX12_breaks_16 lf_X12_75 fk_103_39 ?_
      refine V_iload_n (pc := 19) C dX12_breaks_19 rfl ?_
      obtain ⟨g2, hyp⟩ := gd_n hyp
      refine V_iald (pc := 20) C dX12_breaks_20 ak_124 g2 ?_
      refine V_aload_n (pc := 21) C dX12_breaks_21 rfl ?_
      refine V_getR (pc := 22) C dX12_breaks_22 lf_X12_75 fk_103_39 ?_
      refine V_iload_n (pc := 25) C dX12_breaks_25 rfl ?_
      refine V_iald (pc := 26) C dX12_breaks_26 ak_124 g2 ?_
      refine V_sipush (pc := 27) C dX12_breaks_27 (v := 255) (by decide) ?_
      refine V_iand (pc := 30) C dX12_breaks_30 ?_
      refine V_iconst (pc := 31) C dX12_breaks_31 (v := -1) (by decide) ?_
      obtain ⟨h4, eh4, hyp⟩ := bV_n hyp
      refine V_callV (pc := 32) C dX12_breaks_32 lm_X12_369 mk_X12_sets ok_103 rfl (M_X12_sets _ eh4) rfl pd_X12_sets (by decide) (by decide) (by decide) (As := [.int (h.1 124 x2.toNatClampNeg), .int ((h.1 124 x2.toNatClampNeg) &&& (255 : Int32)), .int (-1 : Int32)]) (rest := []) rfl (Nat.le_of_ble_eq_true rfl) ?_
      refine V_aload_n (pc := 35) C dX12_breaks_35 rfl ?_
      refine V_bipush (pc := 36) C dX12_breaks_36 (v := 19) (by decide) ?_
      refine V_iload_n (pc := 38) C dX12_breaks_38 rfl ?_
      refine V_iadd (pc := 39) C dX12_breaks_39 ?_
      obtain ⟨r5, h6, eh6, hyp⟩ := bI_n hyp
      refine V_callI (pc := 40) C dX12_breaks_40 lm_X12_357 mk_X12_worth ok_103 rfl (M_X12_worth _ eh6) rfl pd_X12_worth (by decide) (by decide) (by decide) (As := [.int ((19 : Int32) + x1)]) (rest := []) rfl (Nat.le_of_ble_eq_true rfl) ?_
      refine V_if_eq (pc := 43) C dX12_breaks_43 (tgt := 53) (by decide) (fun q7 => ?_) (fun q7 => ?_)
      · replace hyp := (if_pos q7).symm.trans hyp
        obtain ⟨v8, ev8, hyp⟩ := ib_n hyp
        refine V_iinc (pc := 53) C dX12_breaks_53 (v := v8) rfl (by rw [ev8]; rfl) (by decide) rfl ?_
        refine V_goto (pc := 56) C dX12_breaks_56 (tgt := 6) (by decide) ?_
        refine V_weak (lv' := [some (.ref 103), some (.int x1), some (.int v8)]) (lvle_s (lvle_s (lvle_s lvle_0))) ?_
        exact ih x1 v8 h6 hyp
      · replace hyp := (if_neg q7).symm.trans hyp
        refine V_weak (lv' := [some (.ref 103), none, some (.int x2)]) (lvle_s (lvle_n (lvle_s lvle_0))) ?_
        exact (T_X12_breaks_b46 C) x2 h6 hyp
def F_X12_breaks (N : Nat) (a1 : Int32) (h : PH) : Option (Int32 × PH) :=
  bV (F_X12_goesThrough N  h) fun h2 =>
  F_X12_breaks_b6 N N a1 (0 : Int32) h2
set_option maxRecDepth 20000 in
set_option maxHeartbeats 4000000 in
theorem M_X12_breaks (E : EV) {N : Nat} {a1 : Int32} {r : Int32} {h h2 : PH} (hyp : F_X12_breaks N a1 h = some (r, h2)) : MI E 154 yX12_breaks cX12_breaks 3 (some .int) 7 160 [.ref 103, .int a1] h r h2 := by
  refine MI.of 1 (by decide) rfl (fun X e1 C => ?_)
  subst e1
  replace C : CX X 154 cX12_breaks 3 RX12 (some .int) 7 160 := C
  show V X _ h 0 [some (.ref 103), some (.int a1), none] []
  unfold F_X12_breaks at hyp
  refine V_aload_n (pc := 0) C dX12_breaks_0 rfl ?_
  obtain ⟨h2, eh2, hyp⟩ := bV_n hyp
  refine V_callV (pc := 1) C dX12_breaks_1 lm_X12_393 mk_X12_goesThrough ok_103 rfl (M_X12_goesThrough _ eh2) rfl pd_X12_goesThrough (by decide) (by decide) (by decide) (As := []) (rest := []) rfl (Nat.le_of_ble_eq_true rfl) ?_
  refine V_iconst (pc := 4) C dX12_breaks_4 (v := 0) (by decide) ?_
  refine V_istore_n (pc := 5) C dX12_breaks_5 (by decide) rfl ?_
  refine V_weak (lv' := [some (.ref 103), some (.int a1), some (.int (0 : Int32))]) (lvle_s (lvle_s (lvle_s lvle_0))) ?_
  exact (T_X12_breaks_b6 C) N a1 (0 : Int32) h2 hyp
theorem dX12_never_0 : decode cX12_never 0 = .ok (.aload_n 0, 1) := by decide +kernel
theorem dX12_never_1 : decode cX12_never 1 = .ok (.iconst 0, 1) := by decide +kernel
theorem dX12_never_2 : decode cX12_never 2 = .ok (.putfield 180, 3) := by decide +kernel
theorem dX12_never_5 : decode cX12_never 5 = .ok (.aload_n 0, 1) := by decide +kernel
theorem dX12_never_6 : decode cX12_never 6 = .ok (.iload_n 1, 1) := by decide +kernel
theorem dX12_never_7 : decode cX12_never 7 = .ok (.invokevirtual 396, 3) := by decide +kernel
theorem dX12_never_10 : decode cX12_never 10 = .ok (.ifCond .eq 12, 3) := by decide +kernel
theorem dX12_never_13 : decode cX12_never 13 = .ok (.iload_n 2, 1) := by decide +kernel
theorem dX12_never_14 : decode cX12_never 14 = .ok (.iconst 0, 1) := by decide +kernel
theorem dX12_never_15 : decode cX12_never 15 = .ok (.iconst 1, 1) := by decide +kernel
theorem dX12_never_16 : decode cX12_never 16 = .ok (.invokestatic 183, 3) := by decide +kernel
theorem dX12_never_19 : decode cX12_never 19 = .ok (.ifCond .ne 5, 3) := by decide +kernel
theorem dX12_never_22 : decode cX12_never 22 = .ok (.iconst (-1), 1) := by decide +kernel
theorem dX12_never_23 : decode cX12_never 23 = .ok (.ireturn, 1) := by decide +kernel
theorem dX12_never_24 : decode cX12_never 24 = .ok (.aload_n 0, 1) := by decide +kernel
theorem dX12_never_25 : decode cX12_never 25 = .ok (.iload_n 1, 1) := by decide +kernel
theorem dX12_never_26 : decode cX12_never 26 = .ok (.invokevirtual 399, 3) := by decide +kernel
theorem dX12_never_29 : decode cX12_never 29 = .ok (.istore_n 3, 1) := by decide +kernel
theorem dX12_never_30 : decode cX12_never 30 = .ok (.iload_n 2, 1) := by decide +kernel
theorem dX12_never_31 : decode cX12_never 31 = .ok (.ifCond .ne 15, 3) := by decide +kernel
theorem dX12_never_34 : decode cX12_never 34 = .ok (.iload_n 3, 1) := by decide +kernel
theorem dX12_never_35 : decode cX12_never 35 = .ok (.ifCond .ge 7, 3) := by decide +kernel
theorem dX12_never_38 : decode cX12_never 38 = .ok (.iconst 1, 1) := by decide +kernel
theorem dX12_never_39 : decode cX12_never 39 = .ok (.goto 21, 3) := by decide +kernel
theorem dX12_never_42 : decode cX12_never 42 = .ok (.iconst 0, 1) := by decide +kernel
theorem dX12_never_43 : decode cX12_never 43 = .ok (.goto 17, 3) := by decide +kernel
theorem dX12_never_46 : decode cX12_never 46 = .ok (.iload_n 3, 1) := by decide +kernel
theorem dX12_never_47 : decode cX12_never 47 = .ok (.ifCond .ge 7, 3) := by decide +kernel
theorem dX12_never_50 : decode cX12_never 50 = .ok (.iconst (-1), 1) := by decide +kernel
theorem dX12_never_51 : decode cX12_never 51 = .ok (.goto 9, 3) := by decide +kernel
theorem dX12_never_54 : decode cX12_never 54 = .ok (.aload_n 0, 1) := by decide +kernel
theorem dX12_never_55 : decode cX12_never 55 = .ok (.getfield 84, 3) := by decide +kernel
theorem dX12_never_58 : decode cX12_never 58 = .ok (.iload_n 3, 1) := by decide +kernel
theorem dX12_never_59 : decode cX12_never 59 = .ok (.iaload, 1) := by decide +kernel
theorem dX12_never_60 : decode cX12_never 60 = .ok (.ireturn, 1) := by decide +kernel
def F_X12_never (N : Nat) (a1 : Int32) (a2 : Int32) (h : PH) : Option (Int32 × PH) :=
  hb (hs h 103 0 (0 : Int32)) fun h1 =>
  bI (F_X12_isNever a1 h1) fun r2 h3 =>
  if r2 = 0 then
    some ((-1 : Int32), h3)
  else
    bI (F_X12_within a2 (0 : Int32) (1 : Int32) h3) fun r5 h6 =>
    if r5 = 0 then
      some ((-1 : Int32), h6)
    else
      bI (F_X12_breaks N a1 h6) fun r8 h9 =>
      if a2 = 0 then
        if 0 ≤ r8 then
          some ((0 : Int32), h9)
        else
          some ((1 : Int32), h9)
      else
        if 0 ≤ r8 then
          if inb r8 3072 = true then
          some (h9.1 127 r8.toNatClampNeg, h9)
          else none
        else
          some ((-1 : Int32), h9)
set_option maxRecDepth 20000 in
set_option maxHeartbeats 4000000 in
theorem M_X12_never (E : EV) {N : Nat} {a1 : Int32} {a2 : Int32} {r : Int32} {h h2 : PH} (hyp : F_X12_never N a1 a2 h = some (r, h2)) : MI E 154 yX12_never cX12_never 4 (some .int) 8 182 [.ref 103, .int a1, .int a2] h r h2 := by
  refine MI.of 1 (by decide) rfl (fun X e1 C => ?_)
  subst e1
  replace C : CX X 154 cX12_never 4 RX12 (some .int) 8 182 := C
  show V X _ h 0 [some (.ref 103), some (.int a1), some (.int a2), none] []
  unfold F_X12_never at hyp
  refine V_aload_n (pc := 0) C dX12_never_0 rfl ?_
  refine V_iconst (pc := 1) C dX12_never_1 (v := 0) (by decide) ?_
  obtain ⟨h1, eh1, hyp⟩ := hb_n hyp
  refine V_putI (pc := 2) C dX12_never_2 lf_X12_180 fk_103_0 rfl rfl eh1 ?_
  refine V_aload_n (pc := 5) C dX12_never_5 rfl ?_
  refine V_iload_n (pc := 6) C dX12_never_6 rfl ?_
  obtain ⟨r2, h3, eh3, hyp⟩ := bI_n hyp
  refine V_callI (pc := 7) C dX12_never_7 lm_X12_396 mk_X12_isNever ok_103 rfl (M_X12_isNever _ eh3) rfl pd_X12_isNever (by decide) (by decide) (by decide) (As := [.int a1]) (rest := []) rfl (Nat.le_of_ble_eq_true rfl) ?_
  refine V_if_eq (pc := 10) C dX12_never_10 (tgt := 22) (by decide) (fun q4 => ?_) (fun q4 => ?_)
  · replace hyp := (if_pos q4).symm.trans hyp
    refine V_iconst (pc := 22) C dX12_never_22 (v := -1) (by decide) ?_
    cases hyp
    exact V_iret C dX12_never_23
  · replace hyp := (if_neg q4).symm.trans hyp
    refine V_iload_n (pc := 13) C dX12_never_13 rfl ?_
    refine V_iconst (pc := 14) C dX12_never_14 (v := 0) (by decide) ?_
    refine V_iconst (pc := 15) C dX12_never_15 (v := 1) (by decide) ?_
    obtain ⟨r5, h6, eh6, hyp⟩ := bI_n hyp
    refine V_statI (pc := 16) C dX12_never_16 lm_X12_183 ms_X12_within (M_X12_within _ eh6) rfl pd_X12_within (by decide) (by decide) (by decide) (As := [.int a2, .int (0 : Int32), .int (1 : Int32)]) (rest := []) rfl (Nat.le_of_ble_eq_true rfl) ?_
    refine V_if_ne (pc := 19) C dX12_never_19 (tgt := 24) (by decide) (fun q7 => ?_) (fun q7 => ?_)
    · replace hyp := (if_neg q7).symm.trans hyp
      refine V_aload_n (pc := 24) C dX12_never_24 rfl ?_
      refine V_iload_n (pc := 25) C dX12_never_25 rfl ?_
      obtain ⟨r8, h9, eh9, hyp⟩ := bI_n hyp
      refine V_callI (pc := 26) C dX12_never_26 lm_X12_399 mk_X12_breaks ok_103 rfl (M_X12_breaks _ eh9) rfl pd_X12_breaks (by decide) (by decide) (by decide) (As := [.int a1]) (rest := []) rfl (Nat.le_of_ble_eq_true rfl) ?_
      refine V_istore_n (pc := 29) C dX12_never_29 (by decide) rfl ?_
      refine V_iload_n (pc := 30) C dX12_never_30 rfl ?_
      refine V_if_ne (pc := 31) C dX12_never_31 (tgt := 46) (by decide) (fun q10 => ?_) (fun q10 => ?_)
      · replace hyp := (if_neg q10).symm.trans hyp
        refine V_iload_n (pc := 46) C dX12_never_46 rfl ?_
        refine V_if_ge (pc := 47) C dX12_never_47 (tgt := 54) (by decide) (fun q11 => ?_) (fun q11 => ?_)
        · replace hyp := (if_pos q11).symm.trans hyp
          refine V_aload_n (pc := 54) C dX12_never_54 rfl ?_
          refine V_getR (pc := 55) C dX12_never_55 lf_X12_84 fk_103_42 ?_
          refine V_iload_n (pc := 58) C dX12_never_58 rfl ?_
          obtain ⟨g12, hyp⟩ := gd_n hyp
          refine V_iald (pc := 59) C dX12_never_59 ak_127 g12 ?_
          cases hyp
          exact V_iret C dX12_never_60
        · replace hyp := (if_neg q11).symm.trans hyp
          refine V_iconst (pc := 50) C dX12_never_50 (v := -1) (by decide) ?_
          refine V_goto (pc := 51) C dX12_never_51 (tgt := 60) (by decide) ?_
          cases hyp
          exact V_iret C dX12_never_60
      · replace hyp := (if_pos q10).symm.trans hyp
        refine V_iload_n (pc := 34) C dX12_never_34 rfl ?_
        refine V_if_ge (pc := 35) C dX12_never_35 (tgt := 42) (by decide) (fun q13 => ?_) (fun q13 => ?_)
        · replace hyp := (if_pos q13).symm.trans hyp
          refine V_iconst (pc := 42) C dX12_never_42 (v := 0) (by decide) ?_
          refine V_goto (pc := 43) C dX12_never_43 (tgt := 60) (by decide) ?_
          cases hyp
          exact V_iret C dX12_never_60
        · replace hyp := (if_neg q13).symm.trans hyp
          refine V_iconst (pc := 38) C dX12_never_38 (v := 1) (by decide) ?_
          refine V_goto (pc := 39) C dX12_never_39 (tgt := 60) (by decide) ?_
          cases hyp
          exact V_iret C dX12_never_60
    · replace hyp := (if_pos q7).symm.trans hyp
      refine V_iconst (pc := 22) C dX12_never_22 (v := -1) (by decide) ?_
      cases hyp
      exact V_iret C dX12_never_23
theorem dX12_neverRow_0 : decode cX12_neverRow 0 = .ok (.aload_n 0, 1) := by decide +kernel
theorem dX12_neverRow_1 : decode cX12_neverRow 1 = .ok (.iconst 0, 1) := by decide +kernel
theorem dX12_neverRow_2 : decode cX12_neverRow 2 = .ok (.putfield 180, 3) := by decide +kernel
theorem dX12_neverRow_5 : decode cX12_neverRow 5 = .ok (.aload_n 0, 1) := by decide +kernel
theorem dX12_neverRow_6 : decode cX12_neverRow 6 = .ok (.iload_n 1, 1) := by decide +kernel
theorem dX12_neverRow_7 : decode cX12_neverRow 7 = .ok (.invokevirtual 396, 3) := by decide +kernel
theorem dX12_neverRow_10 : decode cX12_neverRow 10 = .ok (.ifCond .eq 16, 3) := by decide +kernel
theorem dX12_neverRow_13 : decode cX12_neverRow 13 = .ok (.aload_n 0, 1) := by decide +kernel
theorem dX12_neverRow_14 : decode cX12_neverRow 14 = .ok (.aload_n 0, 1) := by decide +kernel
theorem dX12_neverRow_15 : decode cX12_neverRow 15 = .ok (.iload_n 1, 1) := by decide +kernel
theorem dX12_neverRow_16 : decode cX12_neverRow 16 = .ok (.invokevirtual 399, 3) := by decide +kernel
theorem dX12_neverRow_19 : decode cX12_neverRow 19 = .ok (.iload_n 2, 1) := by decide +kernel
theorem dX12_neverRow_20 : decode cX12_neverRow 20 = .ok (.invokevirtual 402, 3) := by decide +kernel
theorem dX12_neverRow_23 : decode cX12_neverRow 23 = .ok (.goto 4, 3) := by decide +kernel
theorem dX12_neverRow_26 : decode cX12_neverRow 26 = .ok (.iconst (-1), 1) := by decide +kernel
theorem dX12_neverRow_27 : decode cX12_neverRow 27 = .ok (.ireturn, 1) := by decide +kernel
def F_X12_neverRow (N : Nat) (a1 : Int32) (a2 : Int32) (h : PH) : Option (Int32 × PH) :=
  hb (hs h 103 0 (0 : Int32)) fun h1 =>
  bI (F_X12_isNever a1 h1) fun r2 h3 =>
  if r2 = 0 then
    some ((-1 : Int32), h3)
  else
    bI (F_X12_breaks N a1 h3) fun r5 h6 =>
    bI (F_X12_rowTo N r5 a2 h6) fun r7 h8 =>
    some (r7, h8)
set_option maxRecDepth 20000 in
set_option maxHeartbeats 4000000 in
theorem M_X12_neverRow (E : EV) {N : Nat} {a1 : Int32} {a2 : Int32} {r : Int32} {h h2 : PH} (hyp : F_X12_neverRow N a1 a2 h = some (r, h2)) : MI E 154 yX12_neverRow cX12_neverRow 3 (some .int) 8 182 [.ref 103, .int a1, .int a2] h r h2 := by
  refine MI.of 0 (by decide) rfl (fun X e1 C => ?_)
  subst e1
  replace C : CX X 154 cX12_neverRow 3 RX12 (some .int) 8 182 := C
  show V X _ h 0 [some (.ref 103), some (.int a1), some (.int a2)] []
  unfold F_X12_neverRow at hyp
  refine V_aload_n (pc := 0) C dX12_neverRow_0 rfl ?_
  refine V_iconst (pc := 1) C dX12_neverRow_1 (v := 0) (by decide) ?_
  obtain ⟨h1, eh1, hyp⟩ := hb_n hyp
  refine V_putI (pc := 2) C dX12_neverRow_2 lf_X12_180 fk_103_0 rfl rfl eh1 ?_
  refine V_aload_n (pc := 5) C dX12_neverRow_5 rfl ?_
  refine V_iload_n (pc := 6) C dX12_neverRow_6 rfl ?_
  obtain ⟨r2, h3, eh3, hyp⟩ := bI_n hyp
  refine V_callI (pc := 7) C dX12_neverRow_7 lm_X12_396 mk_X12_isNever ok_103 rfl (M_X12_isNever _ eh3) rfl pd_X12_isNever (by decide) (by decide) (by decide) (As := [.int a1]) (rest := []) rfl (Nat.le_of_ble_eq_true rfl) ?_
  refine V_if_eq (pc := 10) C dX12_neverRow_10 (tgt := 26) (by decide) (fun q4 => ?_) (fun q4 => ?_)
  · replace hyp := (if_pos q4).symm.trans hyp
    refine V_iconst (pc := 26) C dX12_neverRow_26 (v := -1) (by decide) ?_
    cases hyp
    exact V_iret C dX12_neverRow_27
  · replace hyp := (if_neg q4).symm.trans hyp
    refine V_aload_n (pc := 13) C dX12_neverRow_13 rfl ?_
    refine V_aload_n (pc := 14) C dX12_neverRow_14 rfl ?_
    refine V_iload_n (pc := 15) C dX12_neverRow_15 rfl ?_
    obtain ⟨r5, h6, eh6, hyp⟩ := bI_n hyp
    refine V_callI (pc := 16) C dX12_neverRow_16 lm_X12_399 mk_X12_breaks ok_103 rfl (M_X12_breaks _ eh6) rfl pd_X12_breaks (by decide) (by decide) (by decide) (As := [.int a1]) (rest := [.ref 103]) rfl (Nat.le_of_ble_eq_true rfl) ?_
    refine V_iload_n (pc := 19) C dX12_neverRow_19 rfl ?_
    obtain ⟨r7, h8, eh8, hyp⟩ := bI_n hyp
    refine V_callI (pc := 20) C dX12_neverRow_20 lm_X12_402 mk_X12_rowTo ok_103 rfl (M_X12_rowTo _ eh8) rfl pd_X12_rowTo (by decide) (by decide) (by decide) (As := [.int r5, .int a2]) (rest := []) rfl (Nat.le_of_ble_eq_true rfl) ?_
    refine V_goto (pc := 23) C dX12_neverRow_23 (tgt := 27) (by decide) ?_
    cases hyp
    exact V_iret C dX12_neverRow_27
theorem dX12_forgotten_0 : decode cX12_forgotten 0 = .ok (.aload_n 0, 1) := by decide +kernel
theorem dX12_forgotten_1 : decode cX12_forgotten 1 = .ok (.invokevirtual 393, 3) := by decide +kernel
theorem dX12_forgotten_4 : decode cX12_forgotten 4 = .ok (.iconst 0, 1) := by decide +kernel
theorem dX12_forgotten_5 : decode cX12_forgotten 5 = .ok (.istore_n 3, 1) := by decide +kernel
theorem dX12_forgotten_6 : decode cX12_forgotten 6 = .ok (.iload_n 3, 1) := by decide +kernel
theorem dX12_forgotten_7 : decode cX12_forgotten 7 = .ok (.aload_n 0, 1) := by decide +kernel
theorem dX12_forgotten_8 : decode cX12_forgotten 8 = .ok (.getfield 386, 3) := by decide +kernel
theorem dX12_forgotten_11 : decode cX12_forgotten 11 = .ok (.if_icmp .ge 121, 3) := by decide +kernel
theorem dX12_forgotten_14 : decode cX12_forgotten 14 = .ok (.aload_n 0, 1) := by decide +kernel
theorem dX12_forgotten_15 : decode cX12_forgotten 15 = .ok (.getfield 90, 3) := by decide +kernel
theorem dX12_forgotten_18 : decode cX12_forgotten 18 = .ok (.bipush 7, 2) := by decide +kernel
theorem dX12_forgotten_20 : decode cX12_forgotten 20 = .ok (.aload_n 0, 1) := by decide +kernel
theorem dX12_forgotten_21 : decode cX12_forgotten 21 = .ok (.getfield 75, 3) := by decide +kernel
theorem dX12_forgotten_24 : decode cX12_forgotten 24 = .ok (.iload_n 3, 1) := by decide +kernel
theorem dX12_forgotten_25 : decode cX12_forgotten 25 = .ok (.iaload, 1) := by decide +kernel
theorem dX12_forgotten_26 : decode cX12_forgotten 26 = .ok (.imul, 1) := by decide +kernel
theorem dX12_forgotten_27 : decode cX12_forgotten 27 = .ok (.iconst 1, 1) := by decide +kernel
theorem dX12_forgotten_28 : decode cX12_forgotten 28 = .ok (.iadd, 1) := by decide +kernel
theorem dX12_forgotten_29 : decode cX12_forgotten 29 = .ok (.iload_n 1, 1) := by decide +kernel
theorem dX12_forgotten_30 : decode cX12_forgotten 30 = .ok (.iadd, 1) := by decide +kernel
theorem dX12_forgotten_31 : decode cX12_forgotten 31 = .ok (.iaload, 1) := by decide +kernel
theorem dX12_forgotten_32 : decode cX12_forgotten 32 = .ok (.istore 4, 2) := by decide +kernel
theorem dX12_forgotten_34 : decode cX12_forgotten 34 = .ok (.iload 4, 2) := by decide +kernel
theorem dX12_forgotten_36 : decode cX12_forgotten 36 = .ok (.invokestatic 360, 3) := by decide +kernel
theorem dX12_forgotten_39 : decode cX12_forgotten 39 = .ok (.ifCond .eq 16, 3) := by decide +kernel
theorem dX12_forgotten_42 : decode cX12_forgotten 42 = .ok (.iload 4, 2) := by decide +kernel
theorem dX12_forgotten_44 : decode cX12_forgotten 44 = .ok (.invokestatic 363, 3) := by decide +kernel
theorem dX12_forgotten_47 : decode cX12_forgotten 47 = .ok (.iload_n 1, 1) := by decide +kernel
theorem dX12_forgotten_48 : decode cX12_forgotten 48 = .ok (.if_icmp .ne 7, 3) := by decide +kernel
theorem dX12_forgotten_51 : decode cX12_forgotten 51 = .ok (.iconst 1, 1) := by decide +kernel
theorem dX12_forgotten_52 : decode cX12_forgotten 52 = .ok (.goto 4, 3) := by decide +kernel
theorem dX12_forgotten_55 : decode cX12_forgotten 55 = .ok (.iconst 0, 1) := by decide +kernel
theorem dX12_forgotten_56 : decode cX12_forgotten 56 = .ok (.istore 5, 2) := by decide +kernel
theorem dX12_forgotten_58 : decode cX12_forgotten 58 = .ok (.iconst 1, 1) := by decide +kernel
theorem dX12_forgotten_59 : decode cX12_forgotten 59 = .ok (.istore 6, 2) := by decide +kernel
theorem dX12_forgotten_61 : decode cX12_forgotten 61 = .ok (.iload 6, 2) := by decide +kernel
theorem dX12_forgotten_63 : decode cX12_forgotten 63 = .ok (.iload_n 2, 1) := by decide +kernel
theorem dX12_forgotten_64 : decode cX12_forgotten 64 = .ok (.if_icmp .ge 50, 3) := by decide +kernel
theorem dX12_forgotten_67 : decode cX12_forgotten 67 = .ok (.iload 5, 2) := by decide +kernel
theorem dX12_forgotten_69 : decode cX12_forgotten 69 = .ok (.ifCond .ne 45, 3) := by decide +kernel
theorem dX12_forgotten_72 : decode cX12_forgotten 72 = .ok (.aload_n 0, 1) := by decide +kernel
theorem dX12_forgotten_73 : decode cX12_forgotten 73 = .ok (.getfield 90, 3) := by decide +kernel
theorem dX12_forgotten_76 : decode cX12_forgotten 76 = .ok (.bipush 7, 2) := by decide +kernel
theorem dX12_forgotten_78 : decode cX12_forgotten 78 = .ok (.iload 4, 2) := by decide +kernel
theorem dX12_forgotten_80 : decode cX12_forgotten 80 = .ok (.imul, 1) := by decide +kernel
theorem dX12_forgotten_81 : decode cX12_forgotten 81 = .ok (.iaload, 1) := by decide +kernel
theorem dX12_forgotten_82 : decode cX12_forgotten 82 = .ok (.istore 4, 2) := by decide +kernel
theorem dX12_forgotten_84 : decode cX12_forgotten 84 = .ok (.iload 4, 2) := by decide +kernel
theorem dX12_forgotten_86 : decode cX12_forgotten 86 = .ok (.invokestatic 360, 3) := by decide +kernel
theorem dX12_forgotten_89 : decode cX12_forgotten 89 = .ok (.ifCond .eq 16, 3) := by decide +kernel
theorem dX12_forgotten_92 : decode cX12_forgotten 92 = .ok (.iload 4, 2) := by decide +kernel
theorem dX12_forgotten_94 : decode cX12_forgotten 94 = .ok (.invokestatic 363, 3) := by decide +kernel
theorem dX12_forgotten_97 : decode cX12_forgotten 97 = .ok (.iload_n 1, 1) := by decide +kernel
theorem dX12_forgotten_98 : decode cX12_forgotten 98 = .ok (.if_icmp .ne 7, 3) := by decide +kernel
theorem dX12_forgotten_101 : decode cX12_forgotten 101 = .ok (.iconst 1, 1) := by decide +kernel
theorem dX12_forgotten_102 : decode cX12_forgotten 102 = .ok (.goto 4, 3) := by decide +kernel
theorem dX12_forgotten_105 : decode cX12_forgotten 105 = .ok (.iconst 0, 1) := by decide +kernel
theorem dX12_forgotten_106 : decode cX12_forgotten 106 = .ok (.istore 5, 2) := by decide +kernel
theorem dX12_forgotten_108 : decode cX12_forgotten 108 = .ok (.iinc 6 1, 3) := by decide +kernel
theorem dX12_forgotten_111 : decode cX12_forgotten 111 = .ok (.goto (-50), 3) := by decide +kernel
theorem dX12_forgotten_114 : decode cX12_forgotten 114 = .ok (.iload 5, 2) := by decide +kernel
theorem dX12_forgotten_116 : decode cX12_forgotten 116 = .ok (.ifCond .ne 10, 3) := by decide +kernel
theorem dX12_forgotten_119 : decode cX12_forgotten 119 = .ok (.aload_n 0, 1) := by decide +kernel
theorem dX12_forgotten_120 : decode cX12_forgotten 120 = .ok (.getfield 75, 3) := by decide +kernel
theorem dX12_forgotten_123 : decode cX12_forgotten 123 = .ok (.iload_n 3, 1) := by decide +kernel
theorem dX12_forgotten_124 : decode cX12_forgotten 124 = .ok (.iaload, 1) := by decide +kernel
theorem dX12_forgotten_125 : decode cX12_forgotten 125 = .ok (.ireturn, 1) := by decide +kernel
theorem dX12_forgotten_126 : decode cX12_forgotten 126 = .ok (.iinc 3 1, 3) := by decide +kernel
theorem dX12_forgotten_129 : decode cX12_forgotten 129 = .ok (.goto (-123), 3) := by decide +kernel
theorem dX12_forgotten_132 : decode cX12_forgotten 132 = .ok (.iconst (-1), 1) := by decide +kernel
theorem dX12_forgotten_133 : decode cX12_forgotten 133 = .ok (.ireturn, 1) := by decide +kernel
def F_X12_forgotten_b106 (N : Nat) (rc6 : Int32 → Int32 → Int32 → PH → Option (Int32 × PH)) (rc61 : Int32 → Int32 → Int32 → Int32 → Int32 → Int32 → PH → Option (Int32 × PH)) (x1 : Int32) (x2 : Int32) (x3 : Int32) (x4 : Int32) (x6 : Int32) (s0 : Int32) (h : PH) : Option (Int32 × PH) :=
  ib (x6 + (1 : Int32)) fun v1 =>
  rc61 x1 x2 x3 x4 s0 v1 h
set_option maxRecDepth 20000 in
set_option maxHeartbeats 4000000 in
theorem T_X12_forgotten_b106 {X : CT} (C : CX X 154 cX12_forgotten 7 RX12 (some .int) 7 160) {r0 : Int32} {h0 : PH} {N : Nat} {rc6 : Int32 → Int32 → Int32 → PH → Option (Int32 × PH)} {rc61 : Int32 → Int32 → Int32 → Int32 → Int32 → Int32 → PH → Option (Int32 × PH)} (hr6 : ∀ (x1 : Int32) (x2 : Int32) (x3 : Int32) (h : PH), rc6 x1 x2 x3 h = some (r0, h0) → V X (QI X r0 h0) h 6 [some (.ref 103), some (.int x1), some (.int x2), some (.int x3), none, none, none] []) (hr61 : ∀ (x1 : Int32) (x2 : Int32) (x3 : Int32) (x4 : Int32) (x5 : Int32) (x6 : Int32) (h : PH), rc61 x1 x2 x3 x4 x5 x6 h = some (r0, h0) → V X (QI X r0 h0) h 61 [some (.ref 103), some (.int x1), some (.int x2), some (.int x3), some (.int x4), some (.int x5), some (.int x6)] []) : ∀ (x1 : Int32) (x2 : Int32) (x3 : Int32) (x4 : Int32) (x6 : Int32) (s0 : Int32) (h : PH), F_X12_forgotten_b106 N rc6 rc61 x1 x2 x3 x4 x6 s0 h = some (r0, h0) → V X (QI X r0 h0) h 106 [some (.ref 103), some (.int x1), some (.int x2), some (.int x3), some (.int x4), none, some (.int x6)] [.int s0] := by
  intro x1 x2 x3 x4 x6 s0 h hyp
  unfold F_X12_forgotten_b106 at hyp
  refine V_istore (pc := 106) C dX12_forgotten_106 (by decide) rfl ?_
  obtain ⟨v1, ev1, hyp⟩ := ib_n hyp
  refine V_iinc (pc := 108) C dX12_forgotten_108 (v := v1) rfl (by rw [ev1]; rfl) (by decide) rfl ?_
  refine V_goto (pc := 111) C dX12_forgotten_111 (tgt := 61) (by decide) ?_
  refine V_weak (lv' := [some (.ref 103), some (.int x1), some (.int x2), some (.int x3), some (.int x4), some (.int s0), some (.int v1)]) (lvle_s (lvle_s (lvle_s (lvle_s (lvle_s (lvle_s (lvle_s lvle_0))))))) ?_
  exact hr61 x1 x2 x3 x4 s0 v1 h hyp
def F_X12_forgotten_b105 (N : Nat) (rc6 : Int32 → Int32 → Int32 → PH → Option (Int32 × PH)) (rc61 : Int32 → Int32 → Int32 → Int32 → Int32 → Int32 → PH → Option (Int32 × PH)) (x1 : Int32) (x2 : Int32) (x3 : Int32) (x4 : Int32) (x6 : Int32) (h : PH) : Option (Int32 × PH) :=
  F_X12_forgotten_b106 N rc6 rc61 x1 x2 x3 x4 x6 (0 : Int32) h
set_option maxRecDepth 20000 in
set_option maxHeartbeats 4000000 in
theorem T_X12_forgotten_b105 {X : CT} (C : CX X 154 cX12_forgotten 7 RX12 (some .int) 7 160) {r0 : Int32} {h0 : PH} {N : Nat} {rc6 : Int32 → Int32 → Int32 → PH → Option (Int32 × PH)} {rc61 : Int32 → Int32 → Int32 → Int32 → Int32 → Int32 → PH → Option (Int32 × PH)} (hr6 : ∀ (x1 : Int32) (x2 : Int32) (x3 : Int32) (h : PH), rc6 x1 x2 x3 h = some (r0, h0) → V X (QI X r0 h0) h 6 [some (.ref 103), some (.int x1), some (.int x2), some (.int x3), none, none, none] []) (hr61 : ∀ (x1 : Int32) (x2 : Int32) (x3 : Int32) (x4 : Int32) (x5 : Int32) (x6 : Int32) (h : PH), rc61 x1 x2 x3 x4 x5 x6 h = some (r0, h0) → V X (QI X r0 h0) h 61 [some (.ref 103), some (.int x1), some (.int x2), some (.int x3), some (.int x4), some (.int x5), some (.int x6)] []) : ∀ (x1 : Int32) (x2 : Int32) (x3 : Int32) (x4 : Int32) (x6 : Int32) (h : PH), F_X12_forgotten_b105 N rc6 rc61 x1 x2 x3 x4 x6 h = some (r0, h0) → V X (QI X r0 h0) h 105 [some (.ref 103), some (.int x1), some (.int x2), some (.int x3), some (.int x4), none, some (.int x6)] [] := by
  intro x1 x2 x3 x4 x6 h hyp
  unfold F_X12_forgotten_b105 at hyp
  refine V_iconst (pc := 105) C dX12_forgotten_105 (v := 0) (by decide) ?_
  refine V_weak (lv' := [some (.ref 103), some (.int x1), some (.int x2), some (.int x3), some (.int x4), none, some (.int x6)]) (lvle_s (lvle_s (lvle_s (lvle_s (lvle_s (lvle_n (lvle_s lvle_0))))))) ?_
  exact (T_X12_forgotten_b106 C hr6 hr61) x1 x2 x3 x4 x6 (0 : Int32) h hyp
def F_X12_forgotten_b119 (N : Nat) (x3 : Int32) (h : PH) : Option (Int32 × PH) :=
  if inb x3 3072 = true then
  some (h.1 124 x3.toNatClampNeg, h)
  else none
set_option maxRecDepth 20000 in
set_option maxHeartbeats 4000000 in
theorem T_X12_forgotten_b119 {X : CT} (C : CX X 154 cX12_forgotten 7 RX12 (some .int) 7 160) {r0 : Int32} {h0 : PH} {N : Nat} : ∀ (x3 : Int32) (h : PH), F_X12_forgotten_b119 N x3 h = some (r0, h0) → V X (QI X r0 h0) h 119 [some (.ref 103), none, none, some (.int x3), none, none, none] [] := by
  intro x3 h hyp
  unfold F_X12_forgotten_b119 at hyp
  refine V_aload_n (pc := 119) C dX12_forgotten_119 rfl ?_
  refine V_getR (pc := 120) C dX12_forgotten_120 lf_X12_75 fk_103_39 ?_
  refine V_iload_n (pc := 123) C dX12_forgotten_123 rfl ?_
  obtain ⟨g1, hyp⟩ := gd_n hyp
  refine V_iald (pc := 124) C dX12_forgotten_124 ak_124 g1 ?_
  cases hyp
  exact V_iret C dX12_forgotten_125
def F_X12_forgotten_b114 (N : Nat) (rc6 : Int32 → Int32 → Int32 → PH → Option (Int32 × PH)) (x1 : Int32) (x2 : Int32) (x3 : Int32) (x5 : Int32) (h : PH) : Option (Int32 × PH) :=
  if x5 = 0 then
    F_X12_forgotten_b119 N x3 h
  else
    ib (x3 + (1 : Int32)) fun v2 =>
    rc6 x1 x2 v2 h
set_option maxRecDepth 20000 in
set_option maxHeartbeats 4000000 in
theorem T_X12_forgotten_b114 {X : CT} (C : CX X 154 cX12_forgotten 7 RX12 (some .int) 7 160) {r0 : Int32} {h0 : PH} {N : Nat} {rc6 : Int32 → Int32 → Int32 → PH → Option (Int32 × PH)} (hr6 : ∀ (x1 : Int32) (x2 : Int32) (x3 : Int32) (h : PH), rc6 x1 x2 x3 h = some (r0, h0) → V X (QI X r0 h0) h 6 [some (.ref 103), some (.int x1), some (.int x2), some (.int x3), none, none, none] []) : ∀ (x1 : Int32) (x2 : Int32) (x3 : Int32) (x5 : Int32) (h : PH), F_X12_forgotten_b114 N rc6 x1 x2 x3 x5 h = some (r0, h0) → V X (QI X r0 h0) h 114 [some (.ref 103), some (.int x1), some (.int x2), some (.int x3), none, some (.int x5), none] [] := by
  intro x1 x2 x3 x5 h hyp
  unfold F_X12_forgotten_b114 at hyp
  refine V_iload (pc := 114) C dX12_forgotten_114 rfl ?_
  refine V_if_ne (pc := 116) C dX12_forgotten_116 (tgt := 126) (by decide) (fun q1 => ?_) (fun q1 => ?_)
  · replace hyp := (if_neg q1).symm.trans hyp
    obtain ⟨v2, ev2, hyp⟩ := ib_n hyp
    refine V_iinc (pc := 126) C dX12_forgotten_126 (v := v2) rfl (by rw [ev2]; rfl) (by decide) rfl ?_
    refine V_goto (pc := 129) C dX12_forgotten_129 (tgt := 6) (by decide) ?_
    refine V_weak (lv' := [some (.ref 103), some (.int x1), some (.int x2), some (.int v2), none, none, none]) (lvle_s (lvle_s (lvle_s (lvle_s (lvle_n (lvle_n (lvle_n lvle_0))))))) ?_
    exact hr6 x1 x2 v2 h hyp
  · replace hyp := (if_pos q1).symm.trans hyp
    refine V_weak (lv' := [some (.ref 103), none, none, some (.int x3), none, none, none]) (lvle_s (lvle_n (lvle_n (lvle_s (lvle_n (lvle_n (lvle_n lvle_0))))))) ?_
    exact (T_X12_forgotten_b119 C) x3 h hyp
def F_X12_forgotten_b61 (N : Nat) (rc6 : Int32 → Int32 → Int32 → PH → Option (Int32 × PH)) : Nat → Int32 → Int32 → Int32 → Int32 → Int32 → Int32 → PH → Option (Int32 × PH)
  | 0, _, _, _, _, _, _, _ => none
  | n + 1, x1, x2, x3, x4, x5, x6, h =>
    if x2 ≤ x6 then
      F_X12_forgotten_b114 N rc6 x1 x2 x3 x5 h
    else
      if x5 = 0 then
        if inb ((7 : Int32) * x4) 21504 = true then
        ib (h.1 129 ((7 : Int32) * x4).toNatClampNeg) fun v4 =>
        bI (F_X12_isOpen v4 h) fun r5 h6 =>
        if r5 = 0 then
          F_X12_forgotten_b105 N rc6 (F_X12_forgotten_b61 N rc6 n) x1 x2 x3 v4 x6 h6
        else
          bI (F_X12_floorOf v4 h6) fun r8 h9 =>
          if r8 = x1 then
            F_X12_forgotten_b106 N rc6 (F_X12_forgotten_b61 N rc6 n) x1 x2 x3 v4 x6 (1 : Int32) h9
          else
            F_X12_forgotten_b105 N rc6 (F_X12_forgotten_b61 N rc6 n) x1 x2 x3 v4 x6 h9
        else none
      else
        F_X12_forgotten_b114 N rc6 x1 x2 x3 x5 h
set_option maxRecDepth 20000 in
set_option maxHeartbeats 4000000 in
theorem T_X12_forgotten_b61 {X : CT} (C : CX X 154 cX12_forgotten 7 RX12 (some .int) 7 160) {r0 : Int32} {h0 : PH} {N : Nat} {rc6 : Int32 → Int32 → Int32 → PH → Option (Int32 × PH)} (hr6 : ∀ (x1 : Int32) (x2 : Int32) (x3 : Int32) (h : PH), rc6 x1 x2 x3 h = some (r0, h0) → V X (QI X r0 h0) h 6 [some (.ref 103), some (.int x1), some (.int x2), some (.int x3), none, none, none] []) : ∀ (n : Nat) (x1 : Int32) (x2 : Int32) (x3 : Int32) (x4 : Int32) (x5 : Int32) (x6 : Int32) (h : PH), F_X12_forgotten_b61 N rc6 n x1 x2 x3 x4 x5 x6 h = some (r0, h0) → V X (QI X r0 h0) h 61 [some (.ref 103), some (.int x1), some (.int x2), some (.int x3), some (.int x4), some (.int x5), some (.int x6)] [] := by
  intro n
  induction n with
  | zero =>
    intro x1 x2 x3 x4 x5 x6 h hyp
    cases hyp
  | succ n ih =>
    intro x1 x2 x3 x4 x5 x6 h hyp
    unfold F_X12_forgotten_b61 at hyp
    refine V_iload (pc := 61) C dX12_forgotten_61 rfl ?_
    refine V_iload_n (pc := 63) C dX12_forgotten_63 rfl ?_
    refine V_icmp_ge (pc := 64) C dX12_forgotten_64 (tgt := 114) (by decide) (fun q1 => ?_) (fun q1 => ?_)
    · replace hyp := (if_pos q1).symm.trans hyp
      refine V_weak (lv' := [some (.ref 103), some (.int x1), some (.int x2), some (.int x3), none, some (.int x5), none]) (lvle_s (lvle_s (lvle_s (lvle_s (lvle_n (lvle_s (lvle_n lvle_0))))))) ?_
      exact (T_X12_forgotten_b114 C hr6) x1 x2 x3 x5 h hyp
    · replace hyp := (if_neg q1).symm.trans hyp
      refine V_iload (pc := 67) C dX12_forgotten_67 rfl ?_
      refine V_if_ne (pc := 69) C dX12_forgotten_69 (tgt := 114) (by decide) (fun q2 => ?_) (fun q2 => ?_)
      · replace hyp := (if_neg q2).symm.trans hyp
        refine V_weak (lv' := [some (.ref 103), some (.int x1), some (.int x2), some (.int x3), none, some (.int x5), none]) (lvle_s (lvle_s (lvle_s (lvle_s (lvle_n (lvle_s (lvle_n lvle_0))))))) ?_
        exact (T_X12_forgotten_b114 C hr6) x1 x2 x3 x5 h hyp
      · replace hyp := (if_pos q2).symm.trans hyp
        refine V_aload_n (pc := 72) C dX12_forgotten_72 rfl ?_
        refine V_getR (pc := 73) C dX12_forgotten_73 lf_X12_90 fk_103_44 ?_
        refine V_bipush (pc := 76) C dX12_forgotten_76 (v := 7) (by decide) ?_
        refine V_iload (pc := 78) C dX12_forgotten_78 rfl ?_
        refine V_imul (pc := 80) C dX12_forgotten_80 ?_
        obtain ⟨g3, hyp⟩ := gd_n hyp
        refine V_iald (pc := 81) C dX12_forgotten_81 ak_129 g3 ?_
        obtain ⟨v4, ev4, hyp⟩ := ib_n hyp
        refine V_topI ev4 ?_
        refine V_istore (pc := 82) C dX12_forgotten_82 (by decide) rfl ?_
        refine V_iload (pc := 84) C dX12_forgotten_84 rfl ?_
        obtain ⟨r5, h6, eh6, hyp⟩ := bI_n hyp
        refine V_statI (pc := 86) C dX12_forgotten_86 lm_X12_360 ms_X12_isOpen (M_X12_isOpen _ eh6) rfl pd_X12_isOpen (by decide) (by decide) (by decide) (As := [.int v4]) (rest := []) rfl (Nat.le_of_ble_eq_true rfl) ?_
        refine V_if_eq (pc := 89) C dX12_forgotten_89 (tgt := 105) (by decide) (fun q7 => ?_) (fun q7 => ?_)
        · replace hyp := (if_pos q7).symm.trans hyp
          refine V_weak (lv' := [some (.ref 103), some (.int x1), some (.int x2), some (.int x3), some (.int v4), none, some (.int x6)]) (lvle_s (lvle_s (lvle_s (lvle_s (lvle_s (lvle_n (lvle_s lvle_0))))))) ?_
          exact (T_X12_forgotten_b105 C hr6 ih) x1 x2 x3 v4 x6 h6 hyp
        · replace hyp := (if_neg q7).symm.trans hyp
          refine V_iload (pc := 92) C dX12_forgotten_92 rfl ?_
          obtain ⟨r8, h9, eh9, hyp⟩ := bI_n hyp
          refine V_statI (pc := 94) C dX12_forgotten_94 lm_X12_363 ms_X12_floorOf (M_X12_floorOf _ eh9) rfl pd_X12_floorOf (by decide) (by decide) (by decide) (As := [.int v4]) (rest := []) rfl (Nat.le_of_ble_eq_true rfl) ?_
          refine V_iload_n (pc := 97) C dX12_forgotten_97 rfl ?_
          refine V_icmp_ne (pc := 98) C dX12_forgotten_98 (tgt := 105) (by decide) (fun q10 => ?_) (fun q10 => ?_)
          · replace hyp := (if_neg q10).symm.trans hyp
            refine V_weak (lv' := [some (.ref 103), some (.int x1), some (.int x2), some (.int x3), some (.int v4), none, some (.int x6)]) (lvle_s (lvle_s (lvle_s (lvle_s (lvle_s (lvle_n (lvle_s lvle_0))))))) ?_
            exact (T_X12_forgotten_b105 C hr6 ih) x1 x2 x3 v4 x6 h9 hyp
          · replace hyp := (if_pos q10).symm.trans hyp
            refine V_iconst (pc := 101) C dX12_forgotten_101 (v := 1) (by decide) ?_
            refine V_goto (pc := 102) C dX12_forgotten_102 (tgt := 106) (by decide) ?_
            refine V_weak (lv' := [some (.ref 103), some (.int x1), some (.int x2), some (.int x3), some (.int v4), none, some (.int x6)]) (lvle_s (lvle_s (lvle_s (lvle_s (lvle_s (lvle_n (lvle_s lvle_0))))))) ?_
            exact (T_X12_forgotten_b106 C hr6 ih) x1 x2 x3 v4 x6 (1 : Int32) h9 hyp
def F_X12_forgotten_b56 (N : Nat) (rc6 : Int32 → Int32 → Int32 → PH → Option (Int32 × PH)) (x1 : Int32) (x2 : Int32) (x3 : Int32) (x4 : Int32) (s0 : Int32) (h : PH) : Option (Int32 × PH) :=
  F_X12_forgotten_b61 N rc6 N x1 x2 x3 x4 s0 (1 : Int32) h
set_option maxRecDepth 20000 in
set_option maxHeartbeats 4000000 in
theorem T_X12_forgotten_b56 {X : CT} (C : CX X 154 cX12_forgotten 7 RX12 (some .int) 7 160) {r0 : Int32} {h0 : PH} {N : Nat} {rc6 : Int32 → Int32 → Int32 → PH → Option (Int32 × PH)} (hr6 : ∀ (x1 : Int32) (x2 : Int32) (x3 : Int32) (h : PH), rc6 x1 x2 x3 h = some (r0, h0) → V X (QI X r0 h0) h 6 [some (.ref 103), some (.int x1), some (.int x2), some (.int x3), none, none, none] []) : ∀ (x1 : Int32) (x2 : Int32) (x3 : Int32) (x4 : Int32) (s0 : Int32) (h : PH), F_X12_forgotten_b56 N rc6 x1 x2 x3 x4 s0 h = some (r0, h0) → V X (QI X r0 h0) h 56 [some (.ref 103), some (.int x1), some (.int x2), some (.int x3), some (.int x4), none, none] [.int s0] := by
  intro x1 x2 x3 x4 s0 h hyp
  unfold F_X12_forgotten_b56 at hyp
  refine V_istore (pc := 56) C dX12_forgotten_56 (by decide) rfl ?_
  refine V_iconst (pc := 58) C dX12_forgotten_58 (v := 1) (by decide) ?_
  refine V_istore (pc := 59) C dX12_forgotten_59 (by decide) rfl ?_
  refine V_weak (lv' := [some (.ref 103), some (.int x1), some (.int x2), some (.int x3), some (.int x4), some (.int s0), some (.int (1 : Int32))]) (lvle_s (lvle_s (lvle_s (lvle_s (lvle_s (lvle_s (lvle_s lvle_0))))))) ?_
  exact (T_X12_forgotten_b61 C hr6) N x1 x2 x3 x4 s0 (1 : Int32) h hyp
def F_X12_forgotten_b55 (N : Nat) (rc6 : Int32 → Int32 → Int32 → PH → Option (Int32 × PH)) (x1 : Int32) (x2 : Int32) (x3 : Int32) (x4 : Int32) (h : PH) : Option (Int32 × PH) :=
  F_X12_forgotten_b56 N rc6 x1 x2 x3 x4 (0 : Int32) h
set_option maxRecDepth 20000 in
set_option maxHeartbeats 4000000 in
theorem T_X12_forgotten_b55 {X : CT} (C : CX X 154 cX12_forgotten 7 RX12 (some .int) 7 160) {r0 : Int32} {h0 : PH} {N : Nat} {rc6 : Int32 → Int32 → Int32 → PH → Option (Int32 × PH)} (hr6 : ∀ (x1 : Int32) (x2 : Int32) (x3 : Int32) (h : PH), rc6 x1 x2 x3 h = some (r0, h0) → V X (QI X r0 h0) h 6 [some (.ref 103), some (.int x1), some (.int x2), some (.int x3), none, none, none] []) : ∀ (x1 : Int32) (x2 : Int32) (x3 : Int32) (x4 : Int32) (h : PH), F_X12_forgotten_b55 N rc6 x1 x2 x3 x4 h = some (r0, h0) → V X (QI X r0 h0) h 55 [some (.ref 103), some (.int x1), some (.int x2), some (.int x3), some (.int x4), none, none] [] := by
  intro x1 x2 x3 x4 h hyp
  unfold F_X12_forgotten_b55 at hyp
  refine V_iconst (pc := 55) C dX12_forgotten_55 (v := 0) (by decide) ?_
  refine V_weak (lv' := [some (.ref 103), some (.int x1), some (.int x2), some (.int x3), some (.int x4), none, none]) (lvle_s (lvle_s (lvle_s (lvle_s (lvle_s (lvle_n (lvle_n lvle_0))))))) ?_
  exact (T_X12_forgotten_b56 C hr6) x1 x2 x3 x4 (0 : Int32) h hyp
def F_X12_forgotten_b6 (N : Nat) : Nat → Int32 → Int32 → Int32 → PH → Option (Int32 × PH)
  | 0, _, _, _, _ => none
  | n + 1, x1, x2, x3, h =>
    if (h.1 103 38) ≤ x3 then
      some ((-1 : Int32), h)
    else
      if inb x3 3072 = true then
      if inb ((((7 : Int32) * (h.1 124 x3.toNatClampNeg)) + (1 : Int32)) + x1) 21504 = true then
      ib (h.1 129 ((((7 : Int32) * (h.1 124 x3.toNatClampNeg)) + (1 : Int32)) + x1).toNatClampNeg) fun v4 =>
      bI (F_X12_isOpen v4 h) fun r5 h6 =>
      if r5 = 0 then
        F_X12_forgotten_b55 N (F_X12_forgotten_b6 N n) x1 x2 x3 v4 h6
      else
        bI (F_X12_floorOf v4 h6) fun r8 h9 =>
        if r8 = x1 then
          F_X12_forgotten_b56 N (F_X12_forgotten_b6 N n) x1 x2 x3 v4 (1 : Int32) h9
        else
          F_X12_forgotten_b55 N (F_X12_forgotten_b6 N n) x1 x2 x3 v4 h9
      else none
      else none
set_option maxRecDepth 20000 in
set_option maxHeartbeats 4000000 in
theorem T_X12_forgotten_b6 {X : CT} (C : CX X 154 cX12_forgotten 7 RX12 (some .int) 7 160) {r0 : Int32} {h0 : PH} {N : Nat} : ∀ (n : Nat) (x1 : Int32) (x2 : Int32) (x3 : Int32) (h : PH), F_X12_forgotten_b6 N n x1 x2 x3 h = some (r0, h0) → V X (QI X r0 h0) h 6 [some (.ref 103), some (.int x1), some (.int x2), some (.int x3), none, none, none] [] := by
  intro n
  induction n with
  | zero =>
    intro x1 x2 x3 h hyp
    cases hyp
  | succ n ih =>
    intro x1 x2 x3 h hyp
    unfold F_X12_forgotten_b6 at hyp
    refine V_iload_n (pc := 6) C dX12_forgotten_6 rfl ?_
    refine V_aload_n (pc := 7) C dX12_forgotten_7 rfl ?_
    refine V_getI (pc := 8) C dX12_forgotten_8 lf_X12_386 fk_103_38 ?_
    refine V_icmp_ge (pc := 11) C dX12_forgotten_11 (tgt := 132) (by decide) (fun q1 => ?_) (fun q1 => ?_)
    · replace hyp := (if_pos q1).symm.trans hyp
      refine V_iconst (pc := 132) C dX12_forgotten_132 (v := -1) (by decide) ?_
      cases hyp
      exact V_iret C dX12_forgotten_133
    · replace hyp := (if_neg q1).symm.trans hyp
      refine V_aload_n (pc := 14) C dX12_forgotten_14 rfl ?_
      refine V_getR (pc := 15) C dX12_forgotten_15 lf_X12_90 fk_103_44 ?_
      refine V_bipush (pc := 18) C dX12_forgotten_18 (v := 7) (by decide) ?_
      refine V_aload_n (pc := 20) C dX12_forgotten_20 rfl ?_
      refine V_getR (pc := 21) C dX12_forgotten_21 lf_X12_75 fk_103_39 ?_
      refine V_iload_n (pc := 24) C dX12_forgotten_24 rfl ?_
      obtain ⟨g2, hyp⟩ := gd_n hyp
      refine V_iald (pc := 25) C dX12_forgotten_25 ak_124 g2 ?_
      refine V_imul (pc := 26) C dX12_forgotten_26 ?_
      refine V_iconst (pc := 27) C dX12_forgotten_27 (v := 1) (by decide) ?_
      refine V_iadd (pc := 28) C dX12_forgotten_28 ?_
      refine V_iload_n (pc := 29) C dX12_forgotten_29 rfl ?_
      refine V_iadd (pc := 30) C dX12_forgotten_30 ?_
      obtain ⟨g3, hyp⟩ := gd_n hyp
      refine V_iald (pc := 31) C dX12_forgotten_31 ak_129 g3 ?_
      obtain ⟨v4, ev4, hyp⟩ := ib_n hyp
      refine V_topI ev4 ?_
      refine V_istore (pc := 32) C dX12_forgotten_32 (by decide) rfl ?_
      refine V_iload (pc := 34) C dX12_forgotten_34 rfl ?_
      obtain ⟨r5, h6, eh6, hyp⟩ := bI_n hyp
      refine V_statI (pc := 36) C dX12_forgotten_36 lm_X12_360 ms_X12_isOpen (M_X12_isOpen _ eh6) rfl pd_X12_isOpen (by decide) (by decide) (by decide) (As := [.int v4]) (rest := []) rfl (Nat.le_of_ble_eq_true rfl) ?_
      refine V_if_eq (pc := 39) C dX12_forgotten_39 (tgt := 55) (by decide) (fun q7 => ?_) (fun q7 => ?_)
      · replace hyp := (if_pos q7).symm.trans hyp
        refine V_weak (lv' := [some (.ref 103), some (.int x1), some (.int x2), some (.int x3), some (.int v4), none, none]) (lvle_s (lvle_s (lvle_s (lvle_s (lvle_s (lvle_n (lvle_n lvle_0))))))) ?_
        exact (T_X12_forgotten_b55 C ih) x1 x2 x3 v4 h6 hyp
      · replace hyp := (if_neg q7).symm.trans hyp
        refine V_iload (pc := 42) C dX12_forgotten_42 rfl ?_
        obtain ⟨r8, h9, eh9, hyp⟩ := bI_n hyp
        refine V_statI (pc := 44) C dX12_forgotten_44 lm_X12_363 ms_X12_floorOf (M_X12_floorOf _ eh9) rfl pd_X12_floorOf (by decide) (by decide) (by decide) (As := [.int v4]) (rest := []) rfl (Nat.le_of_ble_eq_true rfl) ?_
        refine V_iload_n (pc := 47) C dX12_forgotten_47 rfl ?_
        refine V_icmp_ne (pc := 48) C dX12_forgotten_48 (tgt := 55) (by decide) (fun q10 => ?_) (fun q10 => ?_)
        · replace hyp := (if_neg q10).symm.trans hyp
          refine V_weak (lv' := [some (.ref 103), some (.int x1), some (.int x2), some (.int x3), some (.int v4), none, none]) (lvle_s (lvle_s (lvle_s (lvle_s (lvle_s (lvle_n (lvle_n lvle_0))))))) ?_
          exact (T_X12_forgotten_b55 C ih) x1 x2 x3 v4 h9 hyp
        · replace hyp := (if_pos q10).symm.trans hyp
          refine V_iconst (pc := 51) C dX12_forgotten_51 (v := 1) (by decide) ?_
          refine V_goto (pc := 52) C dX12_forgotten_52 (tgt := 56) (by decide) ?_
          refine V_weak (lv' := [some (.ref 103), some (.int x1), some (.int x2), some (.int x3), some (.int v4), none, none]) (lvle_s (lvle_s (lvle_s (lvle_s (lvle_s (lvle_n (lvle_n lvle_0))))))) ?_
          exact (T_X12_forgotten_b56 C ih) x1 x2 x3 v4 (1 : Int32) h9 hyp
def F_X12_forgotten (N : Nat) (a1 : Int32) (a2 : Int32) (h : PH) : Option (Int32 × PH) :=
  bV (F_X12_goesThrough N  h) fun h2 =>
  F_X12_forgotten_b6 N N a1 a2 (0 : Int32) h2
set_option maxRecDepth 20000 in
set_option maxHeartbeats 4000000 in
theorem M_X12_forgotten (E : EV) {N : Nat} {a1 : Int32} {a2 : Int32} {r : Int32} {h h2 : PH} (hyp : F_X12_forgotten N a1 a2 h = some (r, h2)) : MI E 154 yX12_forgotten cX12_forgotten 7 (some .int) 7 160 [.ref 103, .int a1, .int a2] h r h2 := by
  refine MI.of 4 (by decide) rfl (fun X e1 C => ?_)
  subst e1
  replace C : CX X 154 cX12_forgotten 7 RX12 (some .int) 7 160 := C
  show V X _ h 0 [some (.ref 103), some (.int a1), some (.int a2), none, none, none, none] []
  unfold F_X12_forgotten at hyp
  refine V_aload_n (pc := 0) C dX12_forgotten_0 rfl ?_
  obtain ⟨h2, eh2, hyp⟩ := bV_n hyp
  refine V_callV (pc := 1) C dX12_forgotten_1 lm_X12_393 mk_X12_goesThrough ok_103 rfl (M_X12_goesThrough _ eh2) rfl pd_X12_goesThrough (by decide) (by decide) (by decide) (As := []) (rest := []) rfl (Nat.le_of_ble_eq_true rfl) ?_
  refine V_iconst (pc := 4) C dX12_forgotten_4 (v := 0) (by decide) ?_
  refine V_istore_n (pc := 5) C dX12_forgotten_5 (by decide) rfl ?_
  refine V_weak (lv' := [some (.ref 103), some (.int a1), some (.int a2), some (.int (0 : Int32)), none, none, none]) (lvle_s (lvle_s (lvle_s (lvle_s (lvle_n (lvle_n (lvle_n lvle_0))))))) ?_
  exact (T_X12_forgotten_b6 C) N a1 a2 (0 : Int32) h2 hyp
