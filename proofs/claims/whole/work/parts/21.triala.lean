theorem dX10_begin_0 : decode cX10_begin 0 = .ok (.aload_n 0, 1) := by decide +kernel
theorem dX10_begin_1 : decode cX10_begin 1 = .ok (.aload_n 0, 1) := by decide +kernel
theorem dX10_begin_2 : decode cX10_begin 2 = .ok (.getfield 57, 3) := by decide +kernel
theorem dX10_begin_5 : decode cX10_begin 5 = .ok (.getfield 123, 3) := by decide +kernel
theorem dX10_begin_8 : decode cX10_begin 8 = .ok (.putfield 95, 3) := by decide +kernel
theorem dX10_begin_11 : decode cX10_begin 11 = .ok (.aload_n 0, 1) := by decide +kernel
theorem dX10_begin_12 : decode cX10_begin 12 = .ok (.aload_n 0, 1) := by decide +kernel
theorem dX10_begin_13 : decode cX10_begin 13 = .ok (.getfield 57, 3) := by decide +kernel
theorem dX10_begin_16 : decode cX10_begin 16 = .ok (.getfield 124, 3) := by decide +kernel
theorem dX10_begin_19 : decode cX10_begin 19 = .ok (.putfield 127, 3) := by decide +kernel
theorem dX10_begin_22 : decode cX10_begin 22 = .ok (.aload_n 0, 1) := by decide +kernel
theorem dX10_begin_23 : decode cX10_begin 23 = .ok (.aload_n 0, 1) := by decide +kernel
theorem dX10_begin_24 : decode cX10_begin 24 = .ok (.getfield 127, 3) := by decide +kernel
theorem dX10_begin_27 : decode cX10_begin 27 = .ok (.ifCond .ne 7, 3) := by decide +kernel
theorem dX10_begin_30 : decode cX10_begin 30 = .ok (.iconst 0, 1) := by decide +kernel
theorem dX10_begin_31 : decode cX10_begin 31 = .ok (.goto 4, 3) := by decide +kernel
theorem dX10_begin_34 : decode cX10_begin 34 = .ok (.iconst (-1), 1) := by decide +kernel
theorem dX10_begin_35 : decode cX10_begin 35 = .ok (.putfield 74, 3) := by decide +kernel
theorem dX10_begin_38 : decode cX10_begin 38 = .ok (.aload_n 0, 1) := by decide +kernel
theorem dX10_begin_39 : decode cX10_begin 39 = .ok (.iconst 1, 1) := by decide +kernel
theorem dX10_begin_40 : decode cX10_begin 40 = .ok (.aload_n 0, 1) := by decide +kernel
theorem dX10_begin_41 : decode cX10_begin 41 = .ok (.getfield 127, 3) := by decide +kernel
theorem dX10_begin_44 : decode cX10_begin 44 = .ok (.ishl, 1) := by decide +kernel
theorem dX10_begin_45 : decode cX10_begin 45 = .ok (.iconst 1, 1) := by decide +kernel
theorem dX10_begin_46 : decode cX10_begin 46 = .ok (.isub, 1) := by decide +kernel
theorem dX10_begin_47 : decode cX10_begin 47 = .ok (.putfield 101, 3) := by decide +kernel
theorem dX10_begin_50 : decode cX10_begin 50 = .ok (.aload_n 0, 1) := by decide +kernel
theorem dX10_begin_51 : decode cX10_begin 51 = .ok (.aload_n 0, 1) := by decide +kernel
theorem dX10_begin_52 : decode cX10_begin 52 = .ok (.getfield 57, 3) := by decide +kernel
theorem dX10_begin_55 : decode cX10_begin 55 = .ok (.iconst (-1), 1) := by decide +kernel
theorem dX10_begin_56 : decode cX10_begin 56 = .ok (.invokevirtual 88, 3) := by decide +kernel
theorem dX10_begin_59 : decode cX10_begin 59 = .ok (.putfield 81, 3) := by decide +kernel
theorem dX10_begin_62 : decode cX10_begin 62 = .ok (.aload_n 0, 1) := by decide +kernel
theorem dX10_begin_63 : decode cX10_begin 63 = .ok (.getfield 24, 3) := by decide +kernel
theorem dX10_begin_66 : decode cX10_begin 66 = .ok (.iconst 0, 1) := by decide +kernel
theorem dX10_begin_67 : decode cX10_begin 67 = .ok (.invokestatic 128, 3) := by decide +kernel
theorem dX10_begin_70 : decode cX10_begin 70 = .ok (.iconst 0, 1) := by decide +kernel
theorem dX10_begin_71 : decode cX10_begin 71 = .ok (.istore_n 1, 1) := by decide +kernel
theorem dX10_begin_72 : decode cX10_begin 72 = .ok (.iload_n 1, 1) := by decide +kernel
theorem dX10_begin_73 : decode cX10_begin 73 = .ok (.iconst 2, 1) := by decide +kernel
theorem dX10_begin_74 : decode cX10_begin 74 = .ok (.if_icmp .ge 19, 3) := by decide +kernel
theorem dX10_begin_77 : decode cX10_begin 77 = .ok (.aload_n 0, 1) := by decide +kernel
theorem dX10_begin_78 : decode cX10_begin 78 = .ok (.getfield 29, 3) := by decide +kernel
theorem dX10_begin_81 : decode cX10_begin 81 = .ok (.iload_n 1, 1) := by decide +kernel
theorem dX10_begin_82 : decode cX10_begin 82 = .ok (.aaload, 1) := by decide +kernel
theorem dX10_begin_83 : decode cX10_begin 83 = .ok (.iconst 0, 1) := by decide +kernel
theorem dX10_begin_84 : decode cX10_begin 84 = .ok (.invokestatic 128, 3) := by decide +kernel
theorem dX10_begin_87 : decode cX10_begin 87 = .ok (.iinc 1 1, 3) := by decide +kernel
theorem dX10_begin_90 : decode cX10_begin 90 = .ok (.goto (-18), 3) := by decide +kernel
theorem dX10_begin_93 : decode cX10_begin 93 = .ok (.aload_n 0, 1) := by decide +kernel
theorem dX10_begin_94 : decode cX10_begin 94 = .ok (.getfield 9, 3) := by decide +kernel
theorem dX10_begin_97 : decode cX10_begin 97 = .ok (.iconst (-1), 1) := by decide +kernel
theorem dX10_begin_98 : decode cX10_begin 98 = .ok (.invokestatic 128, 3) := by decide +kernel
theorem dX10_begin_101 : decode cX10_begin 101 = .ok (.aload_n 0, 1) := by decide +kernel
theorem dX10_begin_102 : decode cX10_begin 102 = .ok (.getfield 15, 3) := by decide +kernel
theorem dX10_begin_105 : decode cX10_begin 105 = .ok (.iconst (-1), 1) := by decide +kernel
theorem dX10_begin_106 : decode cX10_begin 106 = .ok (.invokestatic 128, 3) := by decide +kernel
theorem dX10_begin_109 : decode cX10_begin 109 = .ok (.aload_n 0, 1) := by decide +kernel
theorem dX10_begin_110 : decode cX10_begin 110 = .ok (.getfield 18, 3) := by decide +kernel
theorem dX10_begin_113 : decode cX10_begin 113 = .ok (.iconst (-1), 1) := by decide +kernel
theorem dX10_begin_114 : decode cX10_begin 114 = .ok (.invokestatic 128, 3) := by decide +kernel
theorem dX10_begin_117 : decode cX10_begin 117 = .ok (.aload_n 0, 1) := by decide +kernel
theorem dX10_begin_118 : decode cX10_begin 118 = .ok (.getfield 32, 3) := by decide +kernel
theorem dX10_begin_121 : decode cX10_begin 121 = .ok (.iconst 0, 1) := by decide +kernel
theorem dX10_begin_122 : decode cX10_begin 122 = .ok (.invokestatic 128, 3) := by decide +kernel
theorem dX10_begin_125 : decode cX10_begin 125 = .ok (.aload_n 0, 1) := by decide +kernel
theorem dX10_begin_126 : decode cX10_begin 126 = .ok (.getfield 35, 3) := by decide +kernel
theorem dX10_begin_129 : decode cX10_begin 129 = .ok (.iconst 0, 1) := by decide +kernel
theorem dX10_begin_130 : decode cX10_begin 130 = .ok (.invokestatic 128, 3) := by decide +kernel
theorem dX10_begin_133 : decode cX10_begin 133 = .ok (.aload_n 0, 1) := by decide +kernel
theorem dX10_begin_134 : decode cX10_begin 134 = .ok (.getfield 38, 3) := by decide +kernel
theorem dX10_begin_137 : decode cX10_begin 137 = .ok (.iconst 0, 1) := by decide +kernel
theorem dX10_begin_138 : decode cX10_begin 138 = .ok (.invokestatic 128, 3) := by decide +kernel
theorem dX10_begin_141 : decode cX10_begin 141 = .ok (.aload_n 0, 1) := by decide +kernel
theorem dX10_begin_142 : decode cX10_begin 142 = .ok (.getfield 41, 3) := by decide +kernel
theorem dX10_begin_145 : decode cX10_begin 145 = .ok (.iconst 0, 1) := by decide +kernel
theorem dX10_begin_146 : decode cX10_begin 146 = .ok (.invokestatic 128, 3) := by decide +kernel
theorem dX10_begin_149 : decode cX10_begin 149 = .ok (.aload_n 0, 1) := by decide +kernel
theorem dX10_begin_150 : decode cX10_begin 150 = .ok (.getfield 44, 3) := by decide +kernel
theorem dX10_begin_153 : decode cX10_begin 153 = .ok (.iconst 0, 1) := by decide +kernel
theorem dX10_begin_154 : decode cX10_begin 154 = .ok (.invokestatic 128, 3) := by decide +kernel
theorem dX10_begin_157 : decode cX10_begin 157 = .ok (.aload_n 0, 1) := by decide +kernel
theorem dX10_begin_158 : decode cX10_begin 158 = .ok (.getfield 47, 3) := by decide +kernel
theorem dX10_begin_161 : decode cX10_begin 161 = .ok (.iconst 0, 1) := by decide +kernel
theorem dX10_begin_162 : decode cX10_begin 162 = .ok (.invokestatic 128, 3) := by decide +kernel
theorem dX10_begin_165 : decode cX10_begin 165 = .ok (.aload_n 0, 1) := by decide +kernel
theorem dX10_begin_166 : decode cX10_begin 166 = .ok (.getfield 50, 3) := by decide +kernel
theorem dX10_begin_169 : decode cX10_begin 169 = .ok (.iconst 0, 1) := by decide +kernel
theorem dX10_begin_170 : decode cX10_begin 170 = .ok (.invokestatic 128, 3) := by decide +kernel
theorem dX10_begin_173 : decode cX10_begin 173 = .ok (.iconst 0, 1) := by decide +kernel
theorem dX10_begin_174 : decode cX10_begin 174 = .ok (.istore_n 1, 1) := by decide +kernel
theorem dX10_begin_175 : decode cX10_begin 175 = .ok (.iload_n 1, 1) := by decide +kernel
theorem dX10_begin_176 : decode cX10_begin 176 = .ok (.aload_n 0, 1) := by decide +kernel
theorem dX10_begin_177 : decode cX10_begin 177 = .ok (.getfield 127, 3) := by decide +kernel
theorem dX10_begin_180 : decode cX10_begin 180 = .ok (.if_icmp .ge 49, 3) := by decide +kernel
theorem dX10_begin_183 : decode cX10_begin 183 = .ok (.aload_n 0, 1) := by decide +kernel
theorem dX10_begin_184 : decode cX10_begin 184 = .ok (.getfield 47, 3) := by decide +kernel
theorem dX10_begin_187 : decode cX10_begin 187 = .ok (.aload_n 0, 1) := by decide +kernel
theorem dX10_begin_188 : decode cX10_begin 188 = .ok (.getfield 57, 3) := by decide +kernel
theorem dX10_begin_191 : decode cX10_begin 191 = .ok (.getfield 134, 3) := by decide +kernel
theorem dX10_begin_194 : decode cX10_begin 194 = .ok (.iload_n 1, 1) := by decide +kernel
theorem dX10_begin_195 : decode cX10_begin 195 = .ok (.iaload, 1) := by decide +kernel
theorem dX10_begin_196 : decode cX10_begin 196 = .ok (.dup2, 1) := by decide +kernel
theorem dX10_begin_197 : decode cX10_begin 197 = .ok (.iaload, 1) := by decide +kernel
theorem dX10_begin_198 : decode cX10_begin 198 = .ok (.iconst 1, 1) := by decide +kernel
theorem dX10_begin_199 : decode cX10_begin 199 = .ok (.iload_n 1, 1) := by decide +kernel
theorem dX10_begin_200 : decode cX10_begin 200 = .ok (.ishl, 1) := by decide +kernel
theorem dX10_begin_201 : decode cX10_begin 201 = .ok (.ior, 1) := by decide +kernel
theorem dX10_begin_202 : decode cX10_begin 202 = .ok (.iastore, 1) := by decide +kernel
theorem dX10_begin_203 : decode cX10_begin 203 = .ok (.aload_n 0, 1) := by decide +kernel
theorem dX10_begin_204 : decode cX10_begin 204 = .ok (.getfield 50, 3) := by decide +kernel
theorem dX10_begin_207 : decode cX10_begin 207 = .ok (.aload_n 0, 1) := by decide +kernel
theorem dX10_begin_208 : decode cX10_begin 208 = .ok (.getfield 57, 3) := by decide +kernel
theorem dX10_begin_211 : decode cX10_begin 211 = .ok (.getfield 137, 3) := by decide +kernel
theorem dX10_begin_214 : decode cX10_begin 214 = .ok (.iload_n 1, 1) := by decide +kernel
theorem dX10_begin_215 : decode cX10_begin 215 = .ok (.iaload, 1) := by decide +kernel
theorem dX10_begin_216 : decode cX10_begin 216 = .ok (.dup2, 1) := by decide +kernel
theorem dX10_begin_217 : decode cX10_begin 217 = .ok (.iaload, 1) := by decide +kernel
theorem dX10_begin_218 : decode cX10_begin 218 = .ok (.iconst 1, 1) := by decide +kernel
theorem dX10_begin_219 : decode cX10_begin 219 = .ok (.iload_n 1, 1) := by decide +kernel
theorem dX10_begin_220 : decode cX10_begin 220 = .ok (.ishl, 1) := by decide +kernel
theorem dX10_begin_221 : decode cX10_begin 221 = .ok (.ior, 1) := by decide +kernel
theorem dX10_begin_222 : decode cX10_begin 222 = .ok (.iastore, 1) := by decide +kernel
theorem dX10_begin_223 : decode cX10_begin 223 = .ok (.iinc 1 1, 3) := by decide +kernel
theorem dX10_begin_226 : decode cX10_begin 226 = .ok (.goto (-51), 3) := by decide +kernel
theorem dX10_begin_229 : decode cX10_begin 229 = .ok (.return_, 1) := by decide +kernel
def F_X10_begin_b175 (N : Nat) (o : Nat) : Nat → Int32 → PH → Option PH
  | 0, _, _ => none
  | n + 1, x1, h =>
    if (h.1 o 7) ≤ x1 then
      some h
    else
      if inb x1 24 = true then
      ib (h.1 53 x1.toNatClampNeg) fun v3 =>
      if inb v3 6 = true then
      hb (hs h (o + 14) v3.toNatClampNeg ((h.1 (o + 14) v3.toNatClampNeg) ||| ((1 : Int32) <<< (x1 &&& 31)))) fun h5 =>
      ib (h5.1 54 x1.toNatClampNeg) fun v6 =>
      if inb v6 6 = true then
      hb (hs h5 (o + 15) v6.toNatClampNeg ((h5.1 (o + 15) v6.toNatClampNeg) ||| ((1 : Int32) <<< (x1 &&& 31)))) fun h8 =>
      ib (x1 + (1 : Int32)) fun v9 =>
      F_X10_begin_b175 N o n v9 h8
      else none
      else none
      else none
set_option maxRecDepth 20000 in
set_option maxHeartbeats 4000000 in
theorem T_X10_begin_b175 {X : CT} (C : CX X 103 cX10_begin 2 RX10 none 1 23) {h0 : PH} {N : Nat} {o : Nat} (ho : IST o) : ∀ (n : Nat) (x1 : Int32) (h : PH), F_X10_begin_b175 N o n x1 h = some h0 → V X (QV X h0) h 175 [some (.ref o), some (.int x1)] [] := by
  intro n
  induction n with
  | zero =>
    intro x1 h hyp
    cases hyp
  | succ n ih =>
    intro x1 h hyp
    unfold F_X10_begin_b175 at hyp
    refine V_iload_n (pc := 175) C dX10_begin_175 rfl ?_
    refine V_aload_n (pc := 176) C dX10_begin_176 rfl ?_
    refine V_getI (pc := 177) C dX10_begin_177 lf_X10_127 (fkT_7 ho) ?_
    refine V_icmp_ge (pc := 180) C dX10_begin_180 (tgt := 229) (by decide) (fun q1 => ?_) (fun q1 => ?_)
    · replace hyp := (if_pos q1).symm.trans hyp
      cases hyp
      exact V_vret C dX10_begin_229
    · replace hyp := (if_neg q1).symm.trans hyp
      refine V_aload_n (pc := 183) C dX10_begin_183 rfl ?_
      refine V_getR (pc := 184) C dX10_begin_184 lf_X10_47 (fkT_15 ho) ?_
      refine V_aload_n (pc := 187) C dX10_begin_187 rfl ?_
      refine V_getR (pc := 188) C dX10_begin_188 lf_X10_57 (fkT_9 ho) ?_
      refine V_getR (pc := 191) C dX10_begin_191 lf_X10_134 fk_51_2 ?_
      refine V_iload_n (pc := 194) C dX10_begin_194 rfl ?_
      obtain ⟨g2, hyp⟩ := gd_n hyp
      refine V_iald (pc := 195) C dX10_begin_195 ak_53 g2 ?_
      obtain ⟨v3, ev3, hyp⟩ := ib_n hyp
      refine V_topI ev3 ?_
      refine V_dup2 (pc := 196) C dX10_begin_196 rfl rfl ?_
      obtain ⟨g4, hyp⟩ := gd_n hyp
      refine V_iald (pc := 197) C dX10_begin_197 (akT_14 ho) g4 ?_
      refine V_iconst (pc := 198) C dX10_begin_198 (v := 1) (by decide) ?_
      refine V_iload_n (pc := 199) C dX10_begin_199 rfl ?_
      refine V_ishl (pc := 200) C dX10_begin_200 ?_
      refine V_ior (pc := 201) C dX10_begin_201 ?_
      obtain ⟨h5, eh5, hyp⟩ := hb_n hyp
      refine V_iast (pc := 202) C dX10_begin_202 (akT_14 ho) g4 eh5 ?_
      refine V_aload_n (pc := 203) C dX10_begin_203 rfl ?_
      refine V_getR (pc := 204) C dX10_begin_204 lf_X10_50 (fkT_16 ho) ?_
      refine V_aload_n (pc := 207) C dX10_begin_207 rfl ?_
      refine V_getR (pc := 208) C dX10_begin_208 lf_X10_57 (fkT_9 ho) ?_
      refine V_getR (pc := 211) C dX10_begin_211 lf_X10_137 fk_51_3 ?_
      refine V_iload_n (pc := 214) C dX10_begin_214 rfl ?_
      refine V_iald (pc := 215) C dX10_begin_215 ak_54 g2 ?_
      obtain ⟨v6, ev6, hyp⟩ := ib_n hyp
      refine V_topI ev6 ?_
      refine V_dup2 (pc := 216) C dX10_begin_216 rfl rfl ?_
      obtain ⟨g7, hyp⟩ := gd_n hyp
      refine V_iald (pc := 217) C dX10_begin_217 (akT_15 ho) g7 ?_
      refine V_iconst (pc := 218) C dX10_begin_218 (v := 1) (by decide) ?_
      refine V_iload_n (pc := 219) C dX10_begin_219 rfl ?_
      refine V_ishl (pc := 220) C dX10_begin_220 ?_
      refine V_ior (pc := 221) C dX10_begin_221 ?_
      obtain ⟨h8, eh8, hyp⟩ := hb_n hyp
      refine V_iast (pc := 222) C dX10_begin_222 (akT_15 ho) g7 eh8 ?_
      obtain ⟨v9, ev9, hyp⟩ := ib_n hyp
      refine V_iinc (pc := 223) C dX10_begin_223 (v := v9) rfl (by rw [ev9]; rfl) (by decide) rfl ?_
      refine V_goto (pc := 226) C dX10_begin_226 (tgt := 175) (by decide) ?_
      refine V_weak (lv' := [some (.ref o), some (.int v9)]) (lvle_s (lvle_s lvle_0)) ?_
      exact ih v9 h8 hyp
def F_X10_begin_b93 (N : Nat) (o : Nat) (h : PH) : Option PH :=
  hb (hfill h (o + 1) 24 (-1 : Int32)) fun h1 =>
  hb (hfill h1 (o + 2) 24 (-1 : Int32)) fun h2 =>
  hb (hfill h2 (o + 3) 24 (-1 : Int32)) fun h3 =>
  hb (hfill h3 (o + 9) 2 (0 : Int32)) fun h4 =>
  hb (hfill h4 (o + 10) 2 (0 : Int32)) fun h5 =>
  hb (hfill h5 (o + 11) 2 (0 : Int32)) fun h6 =>
  hb (hfill h6 (o + 12) 2 (0 : Int32)) fun h7 =>
  hb (hfill h7 (o + 13) 2 (0 : Int32)) fun h8 =>
  hb (hfill h8 (o + 14) 6 (0 : Int32)) fun h9 =>
  hb (hfill h9 (o + 15) 6 (0 : Int32)) fun h10 =>
  F_X10_begin_b175 N o N (0 : Int32) h10
set_option maxRecDepth 20000 in
set_option maxHeartbeats 4000000 in
theorem T_X10_begin_b93 {X : CT} (C : CX X 103 cX10_begin 2 RX10 none 1 23) {h0 : PH} {N : Nat} {o : Nat} (ho : IST o) : ∀ (h : PH), F_X10_begin_b93 N o  h = some h0 → V X (QV X h0) h 93 [some (.ref o), none] [] := by
  intro  h hyp
  unfold F_X10_begin_b93 at hyp
  refine V_aload_n (pc := 93) C dX10_begin_93 rfl ?_
  refine V_getR (pc := 94) C dX10_begin_94 lf_X10_9 (fkT_0 ho) ?_
  refine V_iconst (pc := 97) C dX10_begin_97 (v := -1) (by decide) ?_
  obtain ⟨h1, eh1, hyp⟩ := hb_n hyp
  refine V_statV (pc := 98) C dX10_begin_98 lm_X10_128 ms_J7_fill_53178 (M_fill _ (akT_1 ho) (by decide) eh1) rfl pd_J7_fill_53178 (by decide) (by decide) (by decide) (rest := []) rfl (Nat.le_of_ble_eq_true rfl) ?_
  refine V_aload_n (pc := 101) C dX10_begin_101 rfl ?_
  refine V_getR (pc := 102) C dX10_begin_102 lf_X10_15 (fkT_1 ho) ?_
  refine V_iconst (pc := 105) C dX10_begin_105 (v := -1) (by decide) ?_
  obtain ⟨h2, eh2, hyp⟩ := hb_n hyp
  refine V_statV (pc := 106) C dX10_begin_106 lm_X10_128 ms_J7_fill_53178 (M_fill _ (akT_2 ho) (by decide) eh2) rfl pd_J7_fill_53178 (by decide) (by decide) (by decide) (rest := []) rfl (Nat.le_of_ble_eq_true rfl) ?_
  refine V_aload_n (pc := 109) C dX10_begin_109 rfl ?_
  refine V_getR (pc := 110) C dX10_begin_110 lf_X10_18 (fkT_2 ho) ?_
  refine V_iconst (pc := 113) C dX10_begin_113 (v := -1) (by decide) ?_
  obtain ⟨h3, eh3, hyp⟩ := hb_n hyp
  refine V_statV (pc := 114) C dX10_begin_114 lm_X10_128 ms_J7_fill_53178 (M_fill _ (akT_3 ho) (by decide) eh3) rfl pd_J7_fill_53178 (by decide) (by decide) (by decide) (rest := []) rfl (Nat.le_of_ble_eq_true rfl) ?_
  refine V_aload_n (pc := 117) C dX10_begin_117 rfl ?_
  refine V_getR (pc := 118) C dX10_begin_118 lf_X10_32 (fkT_10 ho) ?_
  refine V_iconst (pc := 121) C dX10_begin_121 (v := 0) (by decide) ?_
  obtain ⟨h4, eh4, hyp⟩ := hb_n hyp
  refine V_statV (pc := 122) C dX10_begin_122 lm_X10_128 ms_J7_fill_53178 (M_fill _ (akT_9 ho) (by decide) eh4) rfl pd_J7_fill_53178 (by decide) (by decide) (by decide) (rest := []) rfl (Nat.le_of_ble_eq_true rfl) ?_
  refine V_aload_n (pc := 125) C dX10_begin_125 rfl ?_
  refine V_getR (pc := 126) C dX10_begin_126 lf_X10_35 (fkT_11 ho) ?_
  refine V_iconst (pc := 129) C dX10_begin_129 (v := 0) (by decide) ?_
  obtain ⟨h5, eh5, hyp⟩ := hb_n hyp
  refine V_statV (pc := 130) C dX10_begin_130 lm_X10_128 ms_J7_fill_53178 (M_fill _ (akT_10 ho) (by decide) eh5) rfl pd_J7_fill_53178 (by decide) (by decide) (by decide) (rest := []) rfl (Nat.le_of_ble_eq_true rfl) ?_
  refine V_aload_n (pc := 133) C dX10_begin_133 rfl ?_
  refine V_getR (pc := 134) C dX10_begin_134 lf_X10_38 (fkT_12 ho) ?_
  refine V_iconst (pc := 137) C dX10_begin_137 (v := 0) (by decide) ?_
  obtain ⟨h6, eh6, hyp⟩ := hb_n hyp
  refine V_statV (pc := 138) C dX10_begin_138 lm_X10_128 ms_J7_fill_53178 (M_fill _ (akT_11 ho) (by decide) eh6) rfl pd_J7_fill_53178 (by decide) (by decide) (by decide) (rest := []) rfl (Nat.le_of_ble_eq_true rfl) ?_
  refine V_aload_n (pc := 141) C dX10_begin_141 rfl ?_
  refine V_getR (pc := 142) C dX10_begin_142 lf_X10_41 (fkT_13 ho) ?_
  refine V_iconst (pc := 145) C dX10_begin_145 (v := 0) (by decide) ?_
  obtain ⟨h7, eh7, hyp⟩ := hb_n hyp
  refine V_statV (pc := 146) C dX10_begin_146 lm_X10_128 ms_J7_fill_53178 (M_fill _ (akT_12 ho) (by decide) eh7) rfl pd_J7_fill_53178 (by decide) (by decide) (by decide) (rest := []) rfl (Nat.le_of_ble_eq_true rfl) ?_
  refine V_aload_n (pc := 149) C dX10_begin_149 rfl ?_
  refine V_getR (pc := 150) C dX10_begin_150 lf_X10_44 (fkT_14 ho) ?_
  refine V_iconst (pc := 153) C dX10_begin_153 (v := 0) (by decide) ?_
  obtain ⟨h8, eh8, hyp⟩ := hb_n hyp
  refine V_statV (pc := 154) C dX10_begin_154 lm_X10_128 ms_J7_fill_53178 (M_fill _ (akT_13 ho) (by decide) eh8) rfl pd_J7_fill_53178 (by decide) (by decide) (by decide) (rest := []) rfl (Nat.le_of_ble_eq_true rfl) ?_
  refine V_aload_n (pc := 157) C dX10_begin_157 rfl ?_
  refine V_getR (pc := 158) C dX10_begin_158 lf_X10_47 (fkT_15 ho) ?_
  refine V_iconst (pc := 161) C dX10_begin_161 (v := 0) (by decide) ?_
  obtain ⟨h9, eh9, hyp⟩ := hb_n hyp
  refine V_statV (pc := 162) C dX10_begin_162 lm_X10_128 ms_J7_fill_53178 (M_fill _ (akT_14 ho) (by decide) eh9) rfl pd_J7_fill_53178 (by decide) (by decide) (by decide) (rest := []) rfl (Nat.le_of_ble_eq_true rfl) ?_
  refine V_aload_n (pc := 165) C dX10_begin_165 rfl ?_
  refine V_getR (pc := 166) C dX10_begin_166 lf_X10_50 (fkT_16 ho) ?_
  refine V_iconst (pc := 169) C dX10_begin_169 (v := 0) (by decide) ?_
  obtain ⟨h10, eh10, hyp⟩ := hb_n hyp
  refine V_statV (pc := 170) C dX10_begin_170 lm_X10_128 ms_J7_fill_53178 (M_fill _ (akT_15 ho) (by decide) eh10) rfl pd_J7_fill_53178 (by decide) (by decide) (by decide) (rest := []) rfl (Nat.le_of_ble_eq_true rfl) ?_
  refine V_iconst (pc := 173) C dX10_begin_173 (v := 0) (by decide) ?_
  refine V_istore_n (pc := 174) C dX10_begin_174 (by decide) rfl ?_
  refine V_weak (lv' := [some (.ref o), some (.int (0 : Int32))]) (lvle_s (lvle_s lvle_0)) ?_
  exact (T_X10_begin_b175 C ho) N (0 : Int32) h10 hyp
def F_X10_begin_b72 (N : Nat) (o : Nat) : Nat → Int32 → PH → Option PH
  | 0, _, _ => none
  | n + 1, x1, h =>
    if (2 : Int32) ≤ x1 then
      F_X10_begin_b93 N o  h
    else
      if inb x1 2 = true then
      hb (hfill h (o + 7 + x1.toNatClampNeg) 5 (0 : Int32)) fun h3 =>
      ib (x1 + (1 : Int32)) fun v4 =>
      F_X10_begin_b72 N o n v4 h3
      else none
set_option maxRecDepth 20000 in
set_option maxHeartbeats 4000000 in
theorem T_X10_begin_b72 {X : CT} (C : CX X 103 cX10_begin 2 RX10 none 1 23) {h0 : PH} {N : Nat} {o : Nat} (ho : IST o) : ∀ (n : Nat) (x1 : Int32) (h : PH), F_X10_begin_b72 N o n x1 h = some h0 → V X (QV X h0) h 72 [some (.ref o), some (.int x1)] [] := by
  intro n
  induction n with
  | zero =>
    intro x1 h hyp
    cases hyp
  | succ n ih =>
    intro x1 h hyp
    unfold F_X10_begin_b72 at hyp
    refine V_iload_n (pc := 72) C dX10_begin_72 rfl ?_
    refine V_iconst (pc := 73) C dX10_begin_73 (v := 2) (by decide) ?_
    refine V_icmp_ge (pc := 74) C dX10_begin_74 (tgt := 93) (by decide) (fun q1 => ?_) (fun q1 => ?_)
    · replace hyp := (if_pos q1).symm.trans hyp
      refine V_weak (lv' := [some (.ref o), none]) (lvle_s (lvle_n lvle_0)) ?_
      exact (T_X10_begin_b93 C ho) h hyp
    · replace hyp := (if_neg q1).symm.trans hyp
      refine V_aload_n (pc := 77) C dX10_begin_77 rfl ?_
      refine V_getR (pc := 78) C dX10_begin_78 lf_X10_29 (fkT_5 ho) ?_
      refine V_iload_n (pc := 81) C dX10_begin_81 rfl ?_
      obtain ⟨g2, hyp⟩ := gd_n hyp
      refine V_aald (pc := 82) C dX10_begin_82 (akT_6 ho) g2 ?_
      refine V_iconst (pc := 83) C dX10_begin_83 (v := 0) (by decide) ?_
      obtain ⟨h3, eh3, hyp⟩ := hb_n hyp
      refine V_statV (pc := 84) C dX10_begin_84 lm_X10_128 ms_J7_fill_53178 (M_fill _ (akrT_6 ho g2) (by decide) eh3) rfl pd_J7_fill_53178 (by decide) (by decide) (by decide) (rest := []) rfl (Nat.le_of_ble_eq_true rfl) ?_
      obtain ⟨v4, ev4, hyp⟩ := ib_n hyp
      refine V_iinc (pc := 87) C dX10_begin_87 (v := v4) rfl (by rw [ev4]; rfl) (by decide) rfl ?_
      refine V_goto (pc := 90) C dX10_begin_90 (tgt := 72) (by decide) ?_
      refine V_weak (lv' := [some (.ref o), some (.int v4)]) (lvle_s (lvle_s lvle_0)) ?_
      exact ih v4 h3 hyp
def F_X10_begin_b35 (N : Nat) (o : Nat) (s0 : Int32) (h : PH) : Option PH :=
  hb (hs h o 8 s0) fun h1 =>
  hb (hs h1 o 18 (((1 : Int32) <<< ((h1.1 o 7) &&& 31)) - (1 : Int32))) fun h2 =>
  bI (F_X6_nextComing N (-1 : Int32) h2) fun r3 h4 =>
  hb (hs h4 o 17 r3) fun h5 =>
  hb (hfill h5 (o + 5) 2 (0 : Int32)) fun h6 =>
  F_X10_begin_b72 N o N (0 : Int32) h6
set_option maxRecDepth 20000 in
set_option maxHeartbeats 4000000 in
theorem T_X10_begin_b35 {X : CT} (C : CX X 103 cX10_begin 2 RX10 none 1 23) {h0 : PH} {N : Nat} {o : Nat} (ho : IST o) : ∀ (s0 : Int32) (h : PH), F_X10_begin_b35 N o s0 h = some h0 → V X (QV X h0) h 35 [some (.ref o), none] [.int s0, .ref o] := by
  intro s0 h hyp
  unfold F_X10_begin_b35 at hyp
  obtain ⟨h1, eh1, hyp⟩ := hb_n hyp
  refine V_putI (pc := 35) C dX10_begin_35 lf_X10_74 (fkT_8 ho) rfl rfl eh1 ?_
  refine V_aload_n (pc := 38) C dX10_begin_38 rfl ?_
  refine V_iconst (pc := 39) C dX10_begin_39 (v := 1) (by decide) ?_
  refine V_aload_n (pc := 40) C dX10_begin_40 rfl ?_
  refine V_getI (pc := 41) C dX10_begin_41 lf_X10_127 (fkT_7 ho) ?_
  refine V_ishl (pc := 44) C dX10_begin_44 ?_
  refine V_iconst (pc := 45) C dX10_begin_45 (v := 1) (by decide) ?_
  refine V_isub (pc := 46) C dX10_begin_46 ?_
  obtain ⟨h2, eh2, hyp⟩ := hb_n hyp
  refine V_putI (pc := 47) C dX10_begin_47 lf_X10_101 (fkT_18 ho) rfl rfl eh2 ?_
  refine V_aload_n (pc := 50) C dX10_begin_50 rfl ?_
  refine V_aload_n (pc := 51) C dX10_begin_51 rfl ?_
  refine V_getR (pc := 52) C dX10_begin_52 lf_X10_57 (fkT_9 ho) ?_
  refine V_iconst (pc := 55) C dX10_begin_55 (v := -1) (by decide) ?_
  obtain ⟨r3, h4, eh4, hyp⟩ := bI_n hyp
  refine V_callI (pc := 56) C dX10_begin_56 lm_X10_88 mk_X6_nextComing ok_51 rfl (M_X6_nextComing _ eh4) rfl pd_X6_nextComing (by decide) (by decide) (by decide) (As := [.int (-1 : Int32)]) (rest := [.ref o]) rfl (Nat.le_of_ble_eq_true rfl) ?_
  obtain ⟨h5, eh5, hyp⟩ := hb_n hyp
  refine V_putI (pc := 59) C dX10_begin_59 lf_X10_81 (fkT_17 ho) rfl rfl eh5 ?_
  refine V_aload_n (pc := 62) C dX10_begin_62 rfl ?_
  refine V_getR (pc := 63) C dX10_begin_63 lf_X10_24 (fkT_4 ho) ?_
  refine V_iconst (pc := 66) C dX10_begin_66 (v := 0) (by decide) ?_
  obtain ⟨h6, eh6, hyp⟩ := hb_n hyp
  refine V_statV (pc := 67) C dX10_begin_67 lm_X10_128 ms_J7_fill_53178 (M_fill _ (akT_5 ho) (by decide) eh6) rfl pd_J7_fill_53178 (by decide) (by decide) (by decide) (rest := []) rfl (Nat.le_of_ble_eq_true rfl) ?_
  refine V_iconst (pc := 70) C dX10_begin_70 (v := 0) (by decide) ?_
  refine V_istore_n (pc := 71) C dX10_begin_71 (by decide) rfl ?_
  refine V_weak (lv' := [some (.ref o), some (.int (0 : Int32))]) (lvle_s (lvle_s lvle_0)) ?_
  exact (T_X10_begin_b72 C ho) N (0 : Int32) h6 hyp
def F_X10_begin (N : Nat) (o : Nat) (h : PH) : Option PH :=
  hb (hs h o 6 (h.1 51 8)) fun h1 =>
  hb (hs h1 o 7 (h1.1 51 12)) fun h2 =>
  if (h2.1 o 7) = 0 then
    F_X10_begin_b35 N o (0 : Int32) h2
  else
    F_X10_begin_b35 N o (-1 : Int32) h2
set_option maxRecDepth 20000 in
set_option maxHeartbeats 4000000 in
theorem M_X10_begin (E : EV) {N : Nat} {o : Nat} (ho : IST o) {h h2 : PH} (hyp : F_X10_begin N o h = some h2) : MV E 103 yX10_begin cX10_begin 2 none 1 23 [.ref o] h h2 := by
  refine MV.of 1 (by decide) rfl (fun X e1 C => ?_)
  subst e1
  replace C : CX X 103 cX10_begin 2 RX10 none 1 23 := C
  show V X _ h 0 [some (.ref o), none] []
  unfold F_X10_begin at hyp
  refine V_aload_n (pc := 0) C dX10_begin_0 rfl ?_
  refine V_aload_n (pc := 1) C dX10_begin_1 rfl ?_
  refine V_getR (pc := 2) C dX10_begin_2 lf_X10_57 (fkT_9 ho) ?_
  refine V_getI (pc := 5) C dX10_begin_5 lf_X10_123 fk_51_8 ?_
  obtain ⟨h1, eh1, hyp⟩ := hb_n hyp
  refine V_putI (pc := 8) C dX10_begin_8 lf_X10_95 (fkT_6 ho) rfl rfl eh1 ?_
  refine V_aload_n (pc := 11) C dX10_begin_11 rfl ?_
  refine V_aload_n (pc := 12) C dX10_begin_12 rfl ?_
  refine V_getR (pc := 13) C dX10_begin_13 lf_X10_57 (fkT_9 ho) ?_
  refine V_getI (pc := 16) C dX10_begin_16 lf_X10_124 fk_51_12 ?_
  obtain ⟨h2, eh2, hyp⟩ := hb_n hyp
  refine V_putI (pc := 19) C dX10_begin_19 lf_X10_127 (fkT_7 ho) rfl rfl eh2 ?_
  refine V_aload_n (pc := 22) C dX10_begin_22 rfl ?_
  refine V_aload_n (pc := 23) C dX10_begin_23 rfl ?_
  refine V_getI (pc := 24) C dX10_begin_24 lf_X10_127 (fkT_7 ho) ?_
  refine V_if_ne (pc := 27) C dX10_begin_27 (tgt := 34) (by decide) (fun q3 => ?_) (fun q3 => ?_)
  · replace hyp := (if_neg q3).symm.trans hyp
    refine V_iconst (pc := 34) C dX10_begin_34 (v := -1) (by decide) ?_
    refine V_weak (lv' := [some (.ref o), none]) (lvle_s (lvle_n lvle_0)) ?_
    exact (T_X10_begin_b35 C ho) (-1 : Int32) h2 hyp
  · replace hyp := (if_pos q3).symm.trans hyp
    refine V_iconst (pc := 30) C dX10_begin_30 (v := 0) (by decide) ?_
    refine V_goto (pc := 31) C dX10_begin_31 (tgt := 35) (by decide) ?_
    refine V_weak (lv' := [some (.ref o), none]) (lvle_s (lvle_n lvle_0)) ?_
    exact (T_X10_begin_b35 C ho) (0 : Int32) h2 hyp
theorem dX10_hasRoom_0 : decode cX10_hasRoom 0 = .ok (.aload_n 0, 1) := by decide +kernel
theorem dX10_hasRoom_1 : decode cX10_hasRoom 1 = .ok (.getfield 41, 3) := by decide +kernel
theorem dX10_hasRoom_4 : decode cX10_hasRoom 4 = .ok (.iload_n 1, 1) := by decide +kernel
theorem dX10_hasRoom_5 : decode cX10_hasRoom 5 = .ok (.iaload, 1) := by decide +kernel
theorem dX10_hasRoom_6 : decode cX10_hasRoom 6 = .ok (.invokestatic 169, 3) := by decide +kernel
theorem dX10_hasRoom_9 : decode cX10_hasRoom 9 = .ok (.aload_n 0, 1) := by decide +kernel
theorem dX10_hasRoom_10 : decode cX10_hasRoom 10 = .ok (.getfield 57, 3) := by decide +kernel
theorem dX10_hasRoom_13 : decode cX10_hasRoom 13 = .ok (.getfield 208, 3) := by decide +kernel
theorem dX10_hasRoom_16 : decode cX10_hasRoom 16 = .ok (.if_icmp .ge 7, 3) := by decide +kernel
theorem dX10_hasRoom_19 : decode cX10_hasRoom 19 = .ok (.iconst 1, 1) := by decide +kernel
theorem dX10_hasRoom_20 : decode cX10_hasRoom 20 = .ok (.goto 4, 3) := by decide +kernel
theorem dX10_hasRoom_23 : decode cX10_hasRoom 23 = .ok (.iconst 0, 1) := by decide +kernel
theorem dX10_hasRoom_24 : decode cX10_hasRoom 24 = .ok (.ireturn, 1) := by decide +kernel
def F_X10_hasRoom (o : Nat) (a1 : Int32) (h : PH) : Option (Int32 × PH) :=
  if inb a1 2 = true then
  bI (F_J6_bitCount_0f7a4 (h.1 (o + 12) a1.toNatClampNeg) h) fun r2 h3 =>
  if (h3.1 51 9) ≤ r2 then
    some ((0 : Int32), h3)
  else
    some ((1 : Int32), h3)
  else none
set_option maxRecDepth 20000 in
set_option maxHeartbeats 4000000 in
theorem M_X10_hasRoom (E : EV) {o : Nat} {a1 : Int32} (ho : IST o) {r : Int32} {h h2 : PH} (hyp : F_X10_hasRoom o a1 h = some (r, h2)) : MI E 103 yX10_hasRoom cX10_hasRoom 2 (some .boolean) 1 20 [.ref o, .int a1] h r h2 := by
  refine MI.of 0 (by decide) rfl (fun X e1 C => ?_)
  subst e1
  replace C : CX X 103 cX10_hasRoom 2 RX10 (some .boolean) 1 20 := C
  show V X _ h 0 [some (.ref o), some (.int a1)] []
  unfold F_X10_hasRoom at hyp
  refine V_aload_n (pc := 0) C dX10_hasRoom_0 rfl ?_
  refine V_getR (pc := 1) C dX10_hasRoom_1 lf_X10_41 (fkT_13 ho) ?_
  refine V_iload_n (pc := 4) C dX10_hasRoom_4 rfl ?_
  obtain ⟨g1, hyp⟩ := gd_n hyp
  refine V_iald (pc := 5) C dX10_hasRoom_5 (akT_12 ho) g1 ?_
  obtain ⟨r2, h3, eh3, hyp⟩ := bI_n hyp
  refine V_statI (pc := 6) C dX10_hasRoom_6 lm_X10_169 ms_J6_bitCount_0f7a4 (M_J6_bitCount_0f7a4 _ eh3) rfl pd_J6_bitCount_0f7a4 (by decide) (by decide) (by decide) (As := [.int (h.1 (o + 12) a1.toNatClampNeg)]) (rest := []) rfl (Nat.le_of_ble_eq_true rfl) ?_
  refine V_aload_n (pc := 9) C dX10_hasRoom_9 rfl ?_
  refine V_getR (pc := 10) C dX10_hasRoom_10 lf_X10_57 (fkT_9 ho) ?_
  refine V_getI (pc := 13) C dX10_hasRoom_13 lf_X10_208 fk_51_9 ?_
  refine V_icmp_ge (pc := 16) C dX10_hasRoom_16 (tgt := 23) (by decide) (fun q4 => ?_) (fun q4 => ?_)
  · replace hyp := (if_pos q4).symm.trans hyp
    refine V_iconst (pc := 23) C dX10_hasRoom_23 (v := 0) (by decide) ?_
    cases hyp
    exact V_zret C dX10_hasRoom_24 rfl
  · replace hyp := (if_neg q4).symm.trans hyp
    refine V_iconst (pc := 19) C dX10_hasRoom_19 (v := 1) (by decide) ?_
    refine V_goto (pc := 20) C dX10_hasRoom_20 (tgt := 24) (by decide) ?_
    cases hyp
    exact V_zret C dX10_hasRoom_24 rfl
theorem dX10_goalsOf_0 : decode cX10_goalsOf 0 = .ok (.iload_n 2, 1) := by decide +kernel
theorem dX10_goalsOf_1 : decode cX10_goalsOf 1 = .ok (.ifCond .eq 12, 3) := by decide +kernel
theorem dX10_goalsOf_4 : decode cX10_goalsOf 4 = .ok (.aload_n 0, 1) := by decide +kernel
theorem dX10_goalsOf_5 : decode cX10_goalsOf 5 = .ok (.getfield 44, 3) := by decide +kernel
theorem dX10_goalsOf_8 : decode cX10_goalsOf 8 = .ok (.iload_n 1, 1) := by decide +kernel
theorem dX10_goalsOf_9 : decode cX10_goalsOf 9 = .ok (.iaload, 1) := by decide +kernel
theorem dX10_goalsOf_10 : decode cX10_goalsOf 10 = .ok (.goto 4, 3) := by decide +kernel
theorem dX10_goalsOf_13 : decode cX10_goalsOf 13 = .ok (.iconst 0, 1) := by decide +kernel
theorem dX10_goalsOf_14 : decode cX10_goalsOf 14 = .ok (.istore_n 3, 1) := by decide +kernel
theorem dX10_goalsOf_15 : decode cX10_goalsOf 15 = .ok (.iconst 0, 1) := by decide +kernel
theorem dX10_goalsOf_16 : decode cX10_goalsOf 16 = .ok (.istore 4, 2) := by decide +kernel
theorem dX10_goalsOf_18 : decode cX10_goalsOf 18 = .ok (.iconst 0, 1) := by decide +kernel
theorem dX10_goalsOf_19 : decode cX10_goalsOf 19 = .ok (.istore 5, 2) := by decide +kernel
theorem dX10_goalsOf_21 : decode cX10_goalsOf 21 = .ok (.iload 5, 2) := by decide +kernel
theorem dX10_goalsOf_23 : decode cX10_goalsOf 23 = .ok (.aload_n 0, 1) := by decide +kernel
theorem dX10_goalsOf_24 : decode cX10_goalsOf 24 = .ok (.getfield 57, 3) := by decide +kernel
theorem dX10_goalsOf_27 : decode cX10_goalsOf 27 = .ok (.getfield 214, 3) := by decide +kernel
theorem dX10_goalsOf_30 : decode cX10_goalsOf 30 = .ok (.if_icmp .ge 45, 3) := by decide +kernel
theorem dX10_goalsOf_33 : decode cX10_goalsOf 33 = .ok (.aload_n 0, 1) := by decide +kernel
theorem dX10_goalsOf_34 : decode cX10_goalsOf 34 = .ok (.getfield 41, 3) := by decide +kernel
theorem dX10_goalsOf_37 : decode cX10_goalsOf 37 = .ok (.iload_n 1, 1) := by decide +kernel
theorem dX10_goalsOf_38 : decode cX10_goalsOf 38 = .ok (.iaload, 1) := by decide +kernel
theorem dX10_goalsOf_39 : decode cX10_goalsOf 39 = .ok (.aload_n 0, 1) := by decide +kernel
theorem dX10_goalsOf_40 : decode cX10_goalsOf 40 = .ok (.getfield 50, 3) := by decide +kernel
theorem dX10_goalsOf_43 : decode cX10_goalsOf 43 = .ok (.iload 5, 2) := by decide +kernel
theorem dX10_goalsOf_45 : decode cX10_goalsOf 45 = .ok (.iaload, 1) := by decide +kernel
theorem dX10_goalsOf_46 : decode cX10_goalsOf 46 = .ok (.iand, 1) := by decide +kernel
theorem dX10_goalsOf_47 : decode cX10_goalsOf 47 = .ok (.iload_n 3, 1) := by decide +kernel
theorem dX10_goalsOf_48 : decode cX10_goalsOf 48 = .ok (.aload_n 0, 1) := by decide +kernel
theorem dX10_goalsOf_49 : decode cX10_goalsOf 49 = .ok (.getfield 47, 3) := by decide +kernel
theorem dX10_goalsOf_52 : decode cX10_goalsOf 52 = .ok (.iload 5, 2) := by decide +kernel
theorem dX10_goalsOf_54 : decode cX10_goalsOf 54 = .ok (.iaload, 1) := by decide +kernel
theorem dX10_goalsOf_55 : decode cX10_goalsOf 55 = .ok (.iand, 1) := by decide +kernel
theorem dX10_goalsOf_56 : decode cX10_goalsOf 56 = .ok (.ior, 1) := by decide +kernel
theorem dX10_goalsOf_57 : decode cX10_goalsOf 57 = .ok (.ifCond .eq 12, 3) := by decide +kernel
theorem dX10_goalsOf_60 : decode cX10_goalsOf 60 = .ok (.iload 4, 2) := by decide +kernel
theorem dX10_goalsOf_62 : decode cX10_goalsOf 62 = .ok (.iconst 1, 1) := by decide +kernel
theorem dX10_goalsOf_63 : decode cX10_goalsOf 63 = .ok (.iload 5, 2) := by decide +kernel
theorem dX10_goalsOf_65 : decode cX10_goalsOf 65 = .ok (.ishl, 1) := by decide +kernel
theorem dX10_goalsOf_66 : decode cX10_goalsOf 66 = .ok (.ior, 1) := by decide +kernel
theorem dX10_goalsOf_67 : decode cX10_goalsOf 67 = .ok (.istore 4, 2) := by decide +kernel
theorem dX10_goalsOf_69 : decode cX10_goalsOf 69 = .ok (.iinc 5 1, 3) := by decide +kernel
theorem dX10_goalsOf_72 : decode cX10_goalsOf 72 = .ok (.goto (-51), 3) := by decide +kernel
theorem dX10_goalsOf_75 : decode cX10_goalsOf 75 = .ok (.iload 4, 2) := by decide +kernel
theorem dX10_goalsOf_77 : decode cX10_goalsOf 77 = .ok (.ireturn, 1) := by decide +kernel
def F_X10_goalsOf_b69 (N : Nat) (o : Nat) (rc21 : Int32 → Int32 → Int32 → Int32 → PH → Option (Int32 × PH)) (x1 : Int32) (x3 : Int32) (x4 : Int32) (x5 : Int32) (h : PH) : Option (Int32 × PH) :=
  ib (x5 + (1 : Int32)) fun v1 =>
  rc21 x1 x3 x4 v1 h
set_option maxRecDepth 20000 in
set_option maxHeartbeats 4000000 in
theorem T_X10_goalsOf_b69 {X : CT} (C : CX X 103 cX10_goalsOf 6 RX10 (some .int) 0 0) {r0 : Int32} {h0 : PH} {N : Nat} {o : Nat} (ho : IST o) {rc21 : Int32 → Int32 → Int32 → Int32 → PH → Option (Int32 × PH)} (hr21 : ∀ (x1 : Int32) (x3 : Int32) (x4 : Int32) (x5 : Int32) (h : PH), rc21 x1 x3 x4 x5 h = some (r0, h0) → V X (QI X r0 h0) h 21 [some (.ref o), some (.int x1), none, some (.int x3), some (.int x4), some (.int x5)] []) : ∀ (x1 : Int32) (x3 : Int32) (x4 : Int32) (x5 : Int32) (h : PH), F_X10_goalsOf_b69 N o rc21 x1 x3 x4 x5 h = some (r0, h0) → V X (QI X r0 h0) h 69 [some (.ref o), some (.int x1), none, some (.int x3), some (.int x4), some (.int x5)] [] := by
  intro x1 x3 x4 x5 h hyp
  unfold F_X10_goalsOf_b69 at hyp
  obtain ⟨v1, ev1, hyp⟩ := ib_n hyp
  refine V_iinc (pc := 69) C dX10_goalsOf_69 (v := v1) rfl (by rw [ev1]; rfl) (by decide) rfl ?_
  refine V_goto (pc := 72) C dX10_goalsOf_72 (tgt := 21) (by decide) ?_
  refine V_weak (lv' := [some (.ref o), some (.int x1), none, some (.int x3), some (.int x4), some (.int v1)]) (lvle_s (lvle_s (lvle_n (lvle_s (lvle_s (lvle_s lvle_0)))))) ?_
  exact hr21 x1 x3 x4 v1 h hyp
def F_X10_goalsOf_b21 (N : Nat) (o : Nat) : Nat → Int32 → Int32 → Int32 → Int32 → PH → Option (Int32 × PH)
  | 0, _, _, _, _, _ => none
  | n + 1, x1, x3, x4, x5, h =>
    if (h.1 51 7) ≤ x5 then
      some (x4, h)
    else
      if inb x1 2 = true then
      if inb x5 6 = true then
      if (((h.1 (o + 12) x1.toNatClampNeg) &&& (h.1 (o + 15) x5.toNatClampNeg)) ||| (x3 &&& (h.1 (o + 14) x5.toNatClampNeg))) = 0 then
        F_X10_goalsOf_b69 N o (F_X10_goalsOf_b21 N o n) x1 x3 x4 x5 h
      else
        ib (x4 ||| ((1 : Int32) <<< (x5 &&& 31))) fun v5 =>
        F_X10_goalsOf_b69 N o (F_X10_goalsOf_b21 N o n) x1 x3 v5 x5 h
      else none
      else none
set_option maxRecDepth 20000 in
set_option maxHeartbeats 4000000 in
theorem T_X10_goalsOf_b21 {X : CT} (C : CX X 103 cX10_goalsOf 6 RX10 (some .int) 0 0) {r0 : Int32} {h0 : PH} {N : Nat} {o : Nat} (ho : IST o) : ∀ (n : Nat) (x1 : Int32) (x3 : Int32) (x4 : Int32) (x5 : Int32) (h : PH), F_X10_goalsOf_b21 N o n x1 x3 x4 x5 h = some (r0, h0) → V X (QI X r0 h0) h 21 [some (.ref o), some (.int x1), none, some (.int x3), some (.int x4), some (.int x5)] [] := by
  intro n
  induction n with
  | zero =>
    intro x1 x3 x4 x5 h hyp
    cases hyp
  | succ n ih =>
    intro x1 x3 x4 x5 h hyp
    unfold F_X10_goalsOf_b21 at hyp
    refine V_iload (pc := 21) C dX10_goalsOf_21 rfl ?_
    refine V_aload_n (pc := 23) C dX10_goalsOf_23 rfl ?_
    refine V_getR (pc := 24) C dX10_goalsOf_24 lf_X10_57 (fkT_9 ho) ?_
    refine V_getI (pc := 27) C dX10_goalsOf_27 lf_X10_214 fk_51_7 ?_
    refine V_icmp_ge (pc := 30) C dX10_goalsOf_30 (tgt := 75) (by decide) (fun q1 => ?_) (fun q1 => ?_)
    · replace hyp := (if_pos q1).symm.trans hyp
      refine V_iload (pc := 75) C dX10_goalsOf_75 rfl ?_
      cases hyp
      exact V_iret C dX10_goalsOf_77
    · replace hyp := (if_neg q1).symm.trans hyp
      refine V_aload_n (pc := 33) C dX10_goalsOf_33 rfl ?_
      refine V_getR (pc := 34) C dX10_goalsOf_34 lf_X10_41 (fkT_13 ho) ?_
      refine V_iload_n (pc := 37) C dX10_goalsOf_37 rfl ?_
      obtain ⟨g2, hyp⟩ := gd_n hyp
      refine V_iald (pc := 38) C dX10_goalsOf_38 (akT_12 ho) g2 ?_
      refine V_aload_n (pc := 39) C dX10_goalsOf_39 rfl ?_
      refine V_getR (pc := 40) C dX10_goalsOf_40 lf_X10_50 (fkT_16 ho) ?_
      refine V_iload (pc := 43) C dX10_goalsOf_43 rfl ?_
      obtain ⟨g3, hyp⟩ := gd_n hyp
      refine V_iald (pc := 45) C dX10_goalsOf_45 (akT_15 ho) g3 ?_
      refine V_iand (pc := 46) C dX10_goalsOf_46 ?_
      refine V_iload_n (pc := 47) C dX10_goalsOf_47 rfl ?_
      refine V_aload_n (pc := 48) C dX10_goalsOf_48 rfl ?_
      refine V_getR (pc := 49) C dX10_goalsOf_49 lf_X10_47 (fkT_15 ho) ?_
      refine V_iload (pc := 52) C dX10_goalsOf_52 rfl ?_
      refine V_iald (pc := 54) C dX10_goalsOf_54 (akT_14 ho) g3 ?_
      refine V_iand (pc := 55) C dX10_goalsOf_55 ?_
      refine V_ior (pc := 56) C dX10_goalsOf_56 ?_
      refine V_if_eq (pc := 57) C dX10_goalsOf_57 (tgt := 69) (by decide) (fun q4 => ?_) (fun q4 => ?_)
      · replace hyp := (if_pos q4).symm.trans hyp
        refine V_weak (lv' := [some (.ref o), some (.int x1), none, some (.int x3), some (.int x4), some (.int x5)]) (lvle_s (lvle_s (lvle_n (lvle_s (lvle_s (lvle_s lvle_0)))))) ?_
        exact (T_X10_goalsOf_b69 C ho ih) x1 x3 x4 x5 h hyp
      · replace hyp := (if_neg q4).symm.trans hyp
        refine V_iload (pc := 60) C dX10_goalsOf_60 rfl ?_
        refine V_iconst (pc := 62) C dX10_goalsOf_62 (v := 1) (by decide) ?_
        refine V_iload (pc := 63) C dX10_goalsOf_63 rfl ?_
        refine V_ishl (pc := 65) C dX10_goalsOf_65 ?_
        refine V_ior (pc := 66) C dX10_goalsOf_66 ?_
        obtain ⟨v5, ev5, hyp⟩ := ib_n hyp
        refine V_topI ev5 ?_
        refine V_istore (pc := 67) C dX10_goalsOf_67 (by decide) rfl ?_
        refine V_weak (lv' := [some (.ref o), some (.int x1), none, some (.int x3), some (.int v5), some (.int x5)]) (lvle_s (lvle_s (lvle_n (lvle_s (lvle_s (lvle_s lvle_0)))))) ?_
        exact (T_X10_goalsOf_b69 C ho ih) x1 x3 v5 x5 h hyp
def F_X10_goalsOf_b14 (N : Nat) (o : Nat) (x1 : Int32) (s0 : Int32) (h : PH) : Option (Int32 × PH) :=
  F_X10_goalsOf_b21 N o N x1 s0 (0 : Int32) (0 : Int32) h
set_option maxRecDepth 20000 in
set_option maxHeartbeats 4000000 in
theorem T_X10_goalsOf_b14 {X : CT} (C : CX X 103 cX10_goalsOf 6 RX10 (some .int) 0 0) {r0 : Int32} {h0 : PH} {N : Nat} {o : Nat} (ho : IST o) : ∀ (x1 : Int32) (s0 : Int32) (h : PH), F_X10_goalsOf_b14 N o x1 s0 h = some (r0, h0) → V X (QI X r0 h0) h 14 [some (.ref o), some (.int x1), none, none, none, none] [.int s0] := by
  intro x1 s0 h hyp
  unfold F_X10_goalsOf_b14 at hyp
  refine V_istore_n (pc := 14) C dX10_goalsOf_14 (by decide) rfl ?_
  refine V_iconst (pc := 15) C dX10_goalsOf_15 (v := 0) (by decide) ?_
  refine V_istore (pc := 16) C dX10_goalsOf_16 (by decide) rfl ?_
  refine V_iconst (pc := 18) C dX10_goalsOf_18 (v := 0) (by decide) ?_
  refine V_istore (pc := 19) C dX10_goalsOf_19 (by decide) rfl ?_
  refine V_weak (lv' := [some (.ref o), some (.int x1), none, some (.int s0), some (.int (0 : Int32)), some (.int (0 : Int32))]) (lvle_s (lvle_s (lvle_n (lvle_s (lvle_s (lvle_s lvle_0)))))) ?_
  exact (T_X10_goalsOf_b21 C ho) N x1 s0 (0 : Int32) (0 : Int32) h hyp
def F_X10_goalsOf (N : Nat) (o : Nat) (a1 : Int32) (a2 : Int32) (h : PH) : Option (Int32 × PH) :=
  if a2 = 0 then
    F_X10_goalsOf_b14 N o a1 (0 : Int32) h
  else
    if inb a1 2 = true then
    F_X10_goalsOf_b14 N o a1 (h.1 (o + 13) a1.toNatClampNeg) h
    else none
set_option maxRecDepth 20000 in
set_option maxHeartbeats 4000000 in
theorem M_X10_goalsOf (E : EV) {N : Nat} {o : Nat} {a1 : Int32} {a2 : Int32} (ho : IST o) {r : Int32} {h h2 : PH} (hyp : F_X10_goalsOf N o a1 a2 h = some (r, h2)) : MI E 103 yX10_goalsOf cX10_goalsOf 6 (some .int) 0 0 [.ref o, .int a1, .int a2] h r h2 := by
  refine MI.of 3 (by decide) rfl (fun X e1 C => ?_)
  subst e1
  replace C : CX X 103 cX10_goalsOf 6 RX10 (some .int) 0 0 := C
  show V X _ h 0 [some (.ref o), some (.int a1), some (.int a2), none, none, none] []
  unfold F_X10_goalsOf at hyp
  refine V_iload_n (pc := 0) C dX10_goalsOf_0 rfl ?_
  refine V_if_eq (pc := 1) C dX10_goalsOf_1 (tgt := 13) (by decide) (fun q1 => ?_) (fun q1 => ?_)
  · replace hyp := (if_pos q1).symm.trans hyp
    refine V_iconst (pc := 13) C dX10_goalsOf_13 (v := 0) (by decide) ?_
    refine V_weak (lv' := [some (.ref o), some (.int a1), none, none, none, none]) (lvle_s (lvle_s (lvle_n (lvle_n (lvle_n (lvle_n lvle_0)))))) ?_
    exact (T_X10_goalsOf_b14 C ho) a1 (0 : Int32) h hyp
  · replace hyp := (if_neg q1).symm.trans hyp
    refine V_aload_n (pc := 4) C dX10_goalsOf_4 rfl ?_
    refine V_getR (pc := 5) C dX10_goalsOf_5 lf_X10_44 (fkT_14 ho) ?_
    refine V_iload_n (pc := 8) C dX10_goalsOf_8 rfl ?_
    obtain ⟨g2, hyp⟩ := gd_n hyp
    refine V_iald (pc := 9) C dX10_goalsOf_9 (akT_13 ho) g2 ?_
    refine V_goto (pc := 10) C dX10_goalsOf_10 (tgt := 14) (by decide) ?_
    refine V_weak (lv' := [some (.ref o), some (.int a1), none, none, none, none]) (lvle_s (lvle_s (lvle_n (lvle_n (lvle_n (lvle_n lvle_0)))))) ?_
    exact (T_X10_goalsOf_b14 C ho) a1 (h.1 (o + 13) a1.toNatClampNeg) h hyp
theorem dX10_ruleOf_0 : decode cX10_ruleOf 0 = .ok (.aload_n 0, 1) := by decide +kernel
theorem dX10_ruleOf_1 : decode cX10_ruleOf 1 = .ok (.iload_n 1, 1) := by decide +kernel
theorem dX10_ruleOf_2 : decode cX10_ruleOf 2 = .ok (.aload_n 0, 1) := by decide +kernel
theorem dX10_ruleOf_3 : decode cX10_ruleOf 3 = .ok (.iload_n 1, 1) := by decide +kernel
theorem dX10_ruleOf_4 : decode cX10_ruleOf 4 = .ok (.invokevirtual 150, 3) := by decide +kernel
theorem dX10_ruleOf_7 : decode cX10_ruleOf 7 = .ok (.invokevirtual 153, 3) := by decide +kernel
theorem dX10_ruleOf_10 : decode cX10_ruleOf 10 = .ok (.istore 4, 2) := by decide +kernel
theorem dX10_ruleOf_12 : decode cX10_ruleOf 12 = .ok (.aload_n 0, 1) := by decide +kernel
theorem dX10_ruleOf_13 : decode cX10_ruleOf 13 = .ok (.getfield 57, 3) := by decide +kernel
theorem dX10_ruleOf_16 : decode cX10_ruleOf 16 = .ok (.getfield 134, 3) := by decide +kernel
theorem dX10_ruleOf_19 : decode cX10_ruleOf 19 = .ok (.iload_n 2, 1) := by decide +kernel
theorem dX10_ruleOf_20 : decode cX10_ruleOf 20 = .ok (.iaload, 1) := by decide +kernel
theorem dX10_ruleOf_21 : decode cX10_ruleOf 21 = .ok (.aload_n 0, 1) := by decide +kernel
theorem dX10_ruleOf_22 : decode cX10_ruleOf 22 = .ok (.getfield 32, 3) := by decide +kernel
theorem dX10_ruleOf_25 : decode cX10_ruleOf 25 = .ok (.iload_n 1, 1) := by decide +kernel
theorem dX10_ruleOf_26 : decode cX10_ruleOf 26 = .ok (.iaload, 1) := by decide +kernel
theorem dX10_ruleOf_27 : decode cX10_ruleOf 27 = .ok (.isub, 1) := by decide +kernel
theorem dX10_ruleOf_28 : decode cX10_ruleOf 28 = .ok (.istore 5, 2) := by decide +kernel
theorem dX10_ruleOf_30 : decode cX10_ruleOf 30 = .ok (.aload_n 0, 1) := by decide +kernel
theorem dX10_ruleOf_31 : decode cX10_ruleOf 31 = .ok (.getfield 57, 3) := by decide +kernel
theorem dX10_ruleOf_34 : decode cX10_ruleOf 34 = .ok (.getfield 157, 3) := by decide +kernel
theorem dX10_ruleOf_37 : decode cX10_ruleOf 37 = .ok (.getfield 161, 3) := by decide +kernel
theorem dX10_ruleOf_40 : decode cX10_ruleOf 40 = .ok (.astore 6, 2) := by decide +kernel
theorem dX10_ruleOf_42 : decode cX10_ruleOf 42 = .ok (.aload 6, 2) := by decide +kernel
theorem dX10_ruleOf_44 : decode cX10_ruleOf 44 = .ok (.iconst 0, 1) := by decide +kernel
theorem dX10_ruleOf_45 : decode cX10_ruleOf 45 = .ok (.iload 5, 2) := by decide +kernel
theorem dX10_ruleOf_47 : decode cX10_ruleOf 47 = .ok (.invokestatic 166, 3) := by decide +kernel
theorem dX10_ruleOf_50 : decode cX10_ruleOf 50 = .ok (.iastore, 1) := by decide +kernel
theorem dX10_ruleOf_51 : decode cX10_ruleOf 51 = .ok (.aload 6, 2) := by decide +kernel
theorem dX10_ruleOf_53 : decode cX10_ruleOf 53 = .ok (.iconst 1, 1) := by decide +kernel
theorem dX10_ruleOf_54 : decode cX10_ruleOf 54 = .ok (.aload_n 0, 1) := by decide +kernel
theorem dX10_ruleOf_55 : decode cX10_ruleOf 55 = .ok (.getfield 41, 3) := by decide +kernel
theorem dX10_ruleOf_58 : decode cX10_ruleOf 58 = .ok (.iload_n 1, 1) := by decide +kernel
theorem dX10_ruleOf_59 : decode cX10_ruleOf 59 = .ok (.iaload, 1) := by decide +kernel
theorem dX10_ruleOf_60 : decode cX10_ruleOf 60 = .ok (.invokestatic 169, 3) := by decide +kernel
theorem dX10_ruleOf_63 : decode cX10_ruleOf 63 = .ok (.iastore, 1) := by decide +kernel
theorem dX10_ruleOf_64 : decode cX10_ruleOf 64 = .ok (.aload 6, 2) := by decide +kernel
theorem dX10_ruleOf_66 : decode cX10_ruleOf 66 = .ok (.iconst 2, 1) := by decide +kernel
theorem dX10_ruleOf_67 : decode cX10_ruleOf 67 = .ok (.iload 4, 2) := by decide +kernel
theorem dX10_ruleOf_69 : decode cX10_ruleOf 69 = .ok (.invokestatic 169, 3) := by decide +kernel
theorem dX10_ruleOf_72 : decode cX10_ruleOf 72 = .ok (.iastore, 1) := by decide +kernel
theorem dX10_ruleOf_73 : decode cX10_ruleOf 73 = .ok (.aload 6, 2) := by decide +kernel
theorem dX10_ruleOf_75 : decode cX10_ruleOf 75 = .ok (.iconst 3, 1) := by decide +kernel
theorem dX10_ruleOf_76 : decode cX10_ruleOf 76 = .ok (.iload 5, 2) := by decide +kernel
theorem dX10_ruleOf_78 : decode cX10_ruleOf 78 = .ok (.aload_n 0, 1) := by decide +kernel
theorem dX10_ruleOf_79 : decode cX10_ruleOf 79 = .ok (.getfield 35, 3) := by decide +kernel
theorem dX10_ruleOf_82 : decode cX10_ruleOf 82 = .ok (.iload_n 1, 1) := by decide +kernel
theorem dX10_ruleOf_83 : decode cX10_ruleOf 83 = .ok (.iaload, 1) := by decide +kernel
theorem dX10_ruleOf_84 : decode cX10_ruleOf 84 = .ok (.imul, 1) := by decide +kernel
theorem dX10_ruleOf_85 : decode cX10_ruleOf 85 = .ok (.ifCond .lt 7, 3) := by decide +kernel
theorem dX10_ruleOf_88 : decode cX10_ruleOf 88 = .ok (.iconst 1, 1) := by decide +kernel
theorem dX10_ruleOf_89 : decode cX10_ruleOf 89 = .ok (.goto 4, 3) := by decide +kernel
theorem dX10_ruleOf_92 : decode cX10_ruleOf 92 = .ok (.iconst 0, 1) := by decide +kernel
theorem dX10_ruleOf_93 : decode cX10_ruleOf 93 = .ok (.iastore, 1) := by decide +kernel
theorem dX10_ruleOf_94 : decode cX10_ruleOf 94 = .ok (.aload 6, 2) := by decide +kernel
theorem dX10_ruleOf_96 : decode cX10_ruleOf 96 = .ok (.iconst 4, 1) := by decide +kernel
theorem dX10_ruleOf_97 : decode cX10_ruleOf 97 = .ok (.iload 4, 2) := by decide +kernel
theorem dX10_ruleOf_99 : decode cX10_ruleOf 99 = .ok (.ifCond .ne 7, 3) := by decide +kernel
theorem dX10_ruleOf_102 : decode cX10_ruleOf 102 = .ok (.iconst 1, 1) := by decide +kernel
theorem dX10_ruleOf_103 : decode cX10_ruleOf 103 = .ok (.goto 4, 3) := by decide +kernel
theorem dX10_ruleOf_106 : decode cX10_ruleOf 106 = .ok (.iconst 0, 1) := by decide +kernel
theorem dX10_ruleOf_107 : decode cX10_ruleOf 107 = .ok (.iastore, 1) := by decide +kernel
theorem dX10_ruleOf_108 : decode cX10_ruleOf 108 = .ok (.aload 6, 2) := by decide +kernel
theorem dX10_ruleOf_110 : decode cX10_ruleOf 110 = .ok (.iconst 5, 1) := by decide +kernel
theorem dX10_ruleOf_111 : decode cX10_ruleOf 111 = .ok (.aload_n 0, 1) := by decide +kernel
theorem dX10_ruleOf_112 : decode cX10_ruleOf 112 = .ok (.getfield 32, 3) := by decide +kernel
theorem dX10_ruleOf_115 : decode cX10_ruleOf 115 = .ok (.iload_n 1, 1) := by decide +kernel
theorem dX10_ruleOf_116 : decode cX10_ruleOf 116 = .ok (.iaload, 1) := by decide +kernel
theorem dX10_ruleOf_117 : decode cX10_ruleOf 117 = .ok (.iastore, 1) := by decide +kernel
theorem dX10_ruleOf_118 : decode cX10_ruleOf 118 = .ok (.aload 6, 2) := by decide +kernel
theorem dX10_ruleOf_120 : decode cX10_ruleOf 120 = .ok (.bipush 6, 2) := by decide +kernel
theorem dX10_ruleOf_122 : decode cX10_ruleOf 122 = .ok (.aload_n 0, 1) := by decide +kernel
theorem dX10_ruleOf_123 : decode cX10_ruleOf 123 = .ok (.getfield 57, 3) := by decide +kernel
theorem dX10_ruleOf_126 : decode cX10_ruleOf 126 = .ok (.getfield 134, 3) := by decide +kernel
theorem dX10_ruleOf_129 : decode cX10_ruleOf 129 = .ok (.iload_n 2, 1) := by decide +kernel
theorem dX10_ruleOf_130 : decode cX10_ruleOf 130 = .ok (.iaload, 1) := by decide +kernel
theorem dX10_ruleOf_131 : decode cX10_ruleOf 131 = .ok (.iastore, 1) := by decide +kernel
theorem dX10_ruleOf_132 : decode cX10_ruleOf 132 = .ok (.aload 6, 2) := by decide +kernel
theorem dX10_ruleOf_134 : decode cX10_ruleOf 134 = .ok (.bipush 7, 2) := by decide +kernel
theorem dX10_ruleOf_136 : decode cX10_ruleOf 136 = .ok (.aload_n 0, 1) := by decide +kernel
theorem dX10_ruleOf_137 : decode cX10_ruleOf 137 = .ok (.getfield 57, 3) := by decide +kernel
theorem dX10_ruleOf_140 : decode cX10_ruleOf 140 = .ok (.getfield 137, 3) := by decide +kernel
theorem dX10_ruleOf_143 : decode cX10_ruleOf 143 = .ok (.iload_n 2, 1) := by decide +kernel
theorem dX10_ruleOf_144 : decode cX10_ruleOf 144 = .ok (.iaload, 1) := by decide +kernel
theorem dX10_ruleOf_145 : decode cX10_ruleOf 145 = .ok (.iastore, 1) := by decide +kernel
theorem dX10_ruleOf_146 : decode cX10_ruleOf 146 = .ok (.aload 6, 2) := by decide +kernel
theorem dX10_ruleOf_148 : decode cX10_ruleOf 148 = .ok (.bipush 8, 2) := by decide +kernel
theorem dX10_ruleOf_150 : decode cX10_ruleOf 150 = .ok (.iload_n 1, 1) := by decide +kernel
theorem dX10_ruleOf_151 : decode cX10_ruleOf 151 = .ok (.iastore, 1) := by decide +kernel
theorem dX10_ruleOf_152 : decode cX10_ruleOf 152 = .ok (.aload 6, 2) := by decide +kernel
theorem dX10_ruleOf_154 : decode cX10_ruleOf 154 = .ok (.bipush 9, 2) := by decide +kernel
theorem dX10_ruleOf_156 : decode cX10_ruleOf 156 = .ok (.iload_n 3, 1) := by decide +kernel
theorem dX10_ruleOf_157 : decode cX10_ruleOf 157 = .ok (.iastore, 1) := by decide +kernel
theorem dX10_ruleOf_158 : decode cX10_ruleOf 158 = .ok (.aload_n 0, 1) := by decide +kernel
theorem dX10_ruleOf_159 : decode cX10_ruleOf 159 = .ok (.getfield 57, 3) := by decide +kernel
theorem dX10_ruleOf_162 : decode cX10_ruleOf 162 = .ok (.getfield 157, 3) := by decide +kernel
theorem dX10_ruleOf_165 : decode cX10_ruleOf 165 = .ok (.iconst 0, 1) := by decide +kernel
theorem dX10_ruleOf_166 : decode cX10_ruleOf 166 = .ok (.iconst 0, 1) := by decide +kernel
theorem dX10_ruleOf_167 : decode cX10_ruleOf 167 = .ok (.invokevirtual 174, 3) := by decide +kernel
theorem dX10_ruleOf_170 : decode cX10_ruleOf 170 = .ok (.ireturn, 1) := by decide +kernel
def F_X10_ruleOf_b107 (N : Nat) (o : Nat) (x1 : Int32) (x2 : Int32) (x3 : Int32) (s0 : Int32) (s1 : Int32) (h : PH) : Option (Int32 × PH) :=
  if inb s1 10 = true then
  hb (hs h 59 s1.toNatClampNeg s0) fun h2 =>
  if inb x1 2 = true then
  if inb (5 : Int32) 10 = true then
  hb (hs h2 59 (5 : Int32).toNatClampNeg (h2.1 (o + 9) x1.toNatClampNeg)) fun h5 =>
  if inb x2 24 = true then
  if inb (6 : Int32) 10 = true then
  hb (hs h5 59 (6 : Int32).toNatClampNeg (h5.1 53 x2.toNatClampNeg)) fun h8 =>
  if inb (7 : Int32) 10 = true then
  hb (hs h8 59 (7 : Int32).toNatClampNeg (h8.1 54 x2.toNatClampNeg)) fun h10 =>
  if inb (8 : Int32) 10 = true then
  hb (hs h10 59 (8 : Int32).toNatClampNeg x1) fun h12 =>
  if inb (9 : Int32) 10 = true then
  hb (hs h12 59 (9 : Int32).toNatClampNeg x3) fun h14 =>
  bI (F_X2_value N 58 (0 : Int32) (0 : Int32) h14) fun r15 h16 =>
  some (r15, h16)
  else none
  else none
  else none
  else none
  else none
  else none
  else none
  else none
set_option maxRecDepth 20000 in
set_option maxHeartbeats 4000000 in
theorem T_X10_ruleOf_b107 {X : CT} (C : CX X 103 cX10_ruleOf 7 RX10 (some .int) 2 50) {r0 : Int32} {h0 : PH} {N : Nat} {o : Nat} (ho : IST o) : ∀ (x1 : Int32) (x2 : Int32) (x3 : Int32) (s0 : Int32) (s1 : Int32) (h : PH), F_X10_ruleOf_b107 N o x1 x2 x3 s0 s1 h = some (r0, h0) → V X (QI X r0 h0) h 107 [some (.ref o), some (.int x1), some (.int x2), some (.int x3), none, none, some (.ref 59)] [.int s0, .int s1, .ref 59] := by
  intro x1 x2 x3 s0 s1 h hyp
  unfold F_X10_ruleOf_b107 at hyp
  obtain ⟨g1, hyp⟩ := gd_n hyp
  obtain ⟨h2, eh2, hyp⟩ := hb_n hyp
  refine V_iast (pc := 107) C dX10_ruleOf_107 ak_59 g1 eh2 ?_
  refine V_aload (pc := 108) C dX10_ruleOf_108 rfl ?_
  refine V_iconst (pc := 110) C dX10_ruleOf_110 (v := 5) (by decide) ?_
  refine V_aload_n (pc := 111) C dX10_ruleOf_111 rfl ?_
  refine V_getR (pc := 112) C dX10_ruleOf_112 lf_X10_32 (fkT_10 ho) ?_
  refine V_iload_n (pc := 115) C dX10_ruleOf_115 rfl ?_
  obtain ⟨g3, hyp⟩ := gd_n hyp
  refine V_iald (pc := 116) C dX10_ruleOf_116 (akT_9 ho) g3 ?_
  obtain ⟨g4, hyp⟩ := gd_n hyp
  obtain ⟨h5, eh5, hyp⟩ := hb_n hyp
  refine V_iast (pc := 117) C dX10_ruleOf_117 ak_59 g4 eh5 ?_
  refine V_aload (pc := 118) C dX10_ruleOf_118 rfl ?_
  refine V_bipush (pc := 120) C dX10_ruleOf_120 (v := 6) (by decide) ?_
  refine V_aload_n (pc := 122) C dX10_ruleOf_122 rfl ?_
  refine V_getR (pc := 123) C dX10_ruleOf_123 lf_X10_57 (fkT_9 ho) ?_
  refine V_getR (pc := 126) C dX10_ruleOf_126 lf_X10_134 fk_51_2 ?_
  refine V_iload_n (pc := 129) C dX10_ruleOf_129 rfl ?_
  obtain ⟨g6, hyp⟩ := gd_n hyp
  refine V_iald (pc := 130) C dX10_ruleOf_130 ak_53 g6 ?_
  obtain ⟨g7, hyp⟩ := gd_n hyp
  obtain ⟨h8, eh8, hyp⟩ := hb_n hyp
  refine V_iast (pc := 131) C dX10_ruleOf_131 ak_59 g7 eh8 ?_
  refine V_aload (pc := 132) C dX10_ruleOf_132 rfl ?_
  refine V_bipush (pc := 134) C dX10_ruleOf_134 (v := 7) (by decide) ?_
  refine V_aload_n (pc := 136) C dX10_ruleOf_136 rfl ?_
  refine V_getR (pc := 137) C dX10_ruleOf_137 lf_X10_57 (fkT_9 ho) ?_
  refine V_getR (pc := 140) C dX10_ruleOf_140 lf_X10_137 fk_51_3 ?_
  refine V_iload_n (pc := 143) C dX10_ruleOf_143 rfl ?_
  refine V_iald (pc := 144) C dX10_ruleOf_144 ak_54 g6 ?_
  obtain ⟨g9, hyp⟩ := gd_n hyp
  obtain ⟨h10, eh10, hyp⟩ := hb_n hyp
  refine V_iast (pc := 145) C dX10_ruleOf_145 ak_59 g9 eh10 ?_
  refine V_aload (pc := 146) C dX10_ruleOf_146 rfl ?_
  refine V_bipush (pc := 148) C dX10_ruleOf_148 (v := 8) (by decide) ?_
  refine V_iload_n (pc := 150) C dX10_ruleOf_150 rfl ?_
  obtain ⟨g11, hyp⟩ := gd_n hyp
  obtain ⟨h12, eh12, hyp⟩ := hb_n hyp
  refine V_iast (pc := 151) C dX10_ruleOf_151 ak_59 g11 eh12 ?_
  refine V_aload (pc := 152) C dX10_ruleOf_152 rfl ?_
  refine V_bipush (pc := 154) C dX10_ruleOf_154 (v := 9) (by decide) ?_
  refine V_iload_n (pc := 156) C dX10_ruleOf_156 rfl ?_
  obtain ⟨g13, hyp⟩ := gd_n hyp
  obtain ⟨h14, eh14, hyp⟩ := hb_n hyp
  refine V_iast (pc := 157) C dX10_ruleOf_157 ak_59 g13 eh14 ?_
  refine V_aload_n (pc := 158) C dX10_ruleOf_158 rfl ?_
  refine V_getR (pc := 159) C dX10_ruleOf_159 lf_X10_57 (fkT_9 ho) ?_
  refine V_getR (pc := 162) C dX10_ruleOf_162 lf_X10_157 fk_51_0 ?_
  refine V_iconst (pc := 165) C dX10_ruleOf_165 (v := 0) (by decide) ?_
  refine V_iconst (pc := 166) C dX10_ruleOf_166 (v := 0) (by decide) ?_
  obtain ⟨r15, h16, eh16, hyp⟩ := bI_n hyp
  refine V_callI (pc := 167) C dX10_ruleOf_167 lm_X10_174 mk_X2_value ok_58 rfl (M_X2_value _ isC_58 eh16) rfl pd_X2_value (by decide) (by decide) (by decide) (As := [.int (0 : Int32), .int (0 : Int32)]) (rest := []) rfl (Nat.le_of_ble_eq_true rfl) ?_
  cases hyp
  exact V_iret C dX10_ruleOf_170
def F_X10_ruleOf_b93 (N : Nat) (o : Nat) (x1 : Int32) (x2 : Int32) (x3 : Int32) (x4 : Int32) (s0 : Int32) (s1 : Int32) (h : PH) : Option (Int32 × PH) :=
  if inb s1 10 = true then
  hb (hs h 59 s1.toNatClampNeg s0) fun h2 =>
  if x4 = 0 then
    F_X10_ruleOf_b107 N o x1 x2 x3 (1 : Int32) (4 : Int32) h2
  else
    F_X10_ruleOf_b107 N o x1 x2 x3 (0 : Int32) (4 : Int32) h2
  else none
set_option maxRecDepth 20000 in
set_option maxHeartbeats 4000000 in
theorem T_X10_ruleOf_b93 {X : CT} (C : CX X 103 cX10_ruleOf 7 RX10 (some .int) 2 50) {r0 : Int32} {h0 : PH} {N : Nat} {o : Nat} (ho : IST o) : ∀ (x1 : Int32) (x2 : Int32) (x3 : Int32) (x4 : Int32) (s0 : Int32) (s1 : Int32) (h : PH), F_X10_ruleOf_b93 N o x1 x2 x3 x4 s0 s1 h = some (r0, h0) → V X (QI X r0 h0) h 93 [some (.ref o), some (.int x1), some (.int x2), some (.int x3), some (.int x4), none, some (.ref 59)] [.int s0, .int s1, .ref 59] := by
  intro x1 x2 x3 x4 s0 s1 h hyp
  unfold F_X10_ruleOf_b93 at hyp
  obtain ⟨g1, hyp⟩ := gd_n hyp
  obtain ⟨h2, eh2, hyp⟩ := hb_n hyp
  refine V_iast (pc := 93) C dX10_ruleOf_93 ak_59 g1 eh2 ?_
  refine V_aload (pc := 94) C dX10_ruleOf_94 rfl ?_
  refine V_iconst (pc := 96) C dX10_ruleOf_96 (v := 4) (by decide) ?_
  refine V_iload (pc := 97) C dX10_ruleOf_97 rfl ?_
  refine V_if_ne (pc := 99) C dX10_ruleOf_99 (tgt := 106) (by decide) (fun q3 => ?_) (fun q3 => ?_)
  · replace hyp := (if_neg q3).symm.trans hyp
    refine V_iconst (pc := 106) C dX10_ruleOf_106 (v := 0) (by decide) ?_
    refine V_weak (lv' := [some (.ref o), some (.int x1), some (.int x2), some (.int x3), none, none, some (.ref 59)]) (lvle_s (lvle_s (lvle_s (lvle_s (lvle_n (lvle_n (lvle_s lvle_0))))))) ?_
    exact (T_X10_ruleOf_b107 C ho) x1 x2 x3 (0 : Int32) (4 : Int32) h2 hyp
  · replace hyp := (if_pos q3).symm.trans hyp
    refine V_iconst (pc := 102) C dX10_ruleOf_102 (v := 1) (by decide) ?_
    refine V_goto (pc := 103) C dX10_ruleOf_103 (tgt := 107) (by decide) ?_
    refine V_weak (lv' := [some (.ref o), some (.int x1), some (.int x2), some (.int x3), none, none, some (.ref 59)]) (lvle_s (lvle_s (lvle_s (lvle_s (lvle_n (lvle_n (lvle_s lvle_0))))))) ?_
    exact (T_X10_ruleOf_b107 C ho) x1 x2 x3 (1 : Int32) (4 : Int32) h2 hyp
def F_X10_ruleOf (N : Nat) (o : Nat) (a1 : Int32) (a2 : Int32) (a3 : Int32) (h : PH) : Option (Int32 × PH) :=
  bI (F_X10_hasRoom o a1 h) fun r1 h2 =>
  bI (F_X10_goalsOf N o a1 r1 h2) fun r3 h4 =>
  if inb a2 24 = true then
  if inb a1 2 = true then
  ib ((h4.1 53 a2.toNatClampNeg) - (h4.1 (o + 9) a1.toNatClampNeg)) fun v7 =>
  if inb (0 : Int32) 10 = true then
  hb (hs h4 59 (0 : Int32).toNatClampNeg (iabs v7)) fun h9 =>
  bI (F_J6_bitCount_0f7a4 (h9.1 (o + 12) a1.toNatClampNeg) h9) fun r10 h11 =>
  if inb (1 : Int32) 10 = true then
  hb (hs h11 59 (1 : Int32).toNatClampNeg r10) fun h13 =>
  bI (F_J6_bitCount_0f7a4 r3 h13) fun r14 h15 =>
  if inb (2 : Int32) 10 = true then
  hb (hs h15 59 (2 : Int32).toNatClampNeg r14) fun h17 =>
  if (v7 * (h17.1 (o + 10) a1.toNatClampNeg)) < 0 then
    F_X10_ruleOf_b93 N o a1 a2 a3 r3 (0 : Int32) (3 : Int32) h17
  else
    F_X10_ruleOf_b93 N o a1 a2 a3 r3 (1 : Int32) (3 : Int32) h17
  else none
  else none
  else none
  else none
  else none
set_option maxRecDepth 20000 in
set_option maxHeartbeats 4000000 in
theorem M_X10_ruleOf (E : EV) {N : Nat} {o : Nat} {a1 : Int32} {a2 : Int32} {a3 : Int32} (ho : IST o) {r : Int32} {h h2 : PH} (hyp : F_X10_ruleOf N o a1 a2 a3 h = some (r, h2)) : MI E 103 yX10_ruleOf cX10_ruleOf 7 (some .int) 2 50 [.ref o, .int a1, .int a2, .int a3] h r h2 := by
  refine MI.of 3 (by decide) rfl (fun X e1 C => ?_)
  subst e1
  replace C : CX X 103 cX10_ruleOf 7 RX10 (some .int) 2 50 := C
  show V X _ h 0 [some (.ref o), some (.int a1), some (.int a2), some (.int a3), none, none, none] []
  unfold F_X10_ruleOf at hyp
  refine V_aload_n (pc := 0) C dX10_ruleOf_0 rfl ?_
  refine V_iload_n (pc := 1) C dX10_ruleOf_1 rfl ?_
  refine V_aload_n (pc := 2) C dX10_ruleOf_2 rfl ?_
  refine V_iload_n (pc := 3) C dX10_ruleOf_3 rfl ?_
  obtain ⟨r1, h2, eh2, hyp⟩ := bI_n hyp
  refine V_callI (pc := 4) C dX10_ruleOf_4 lm_X10_150 mk_X10_hasRoom (okT ho) rfl (M_X10_hasRoom _ ho eh2) rfl pd_X10_hasRoom (by decide) (by decide) (by decide) (As := [.int a1]) (rest := [.int a1, .ref o]) rfl (Nat.le_of_ble_eq_true rfl) ?_
  obtain ⟨r3, h4, eh4, hyp⟩ := bI_n hyp
  refine V_callI (pc := 7) C dX10_ruleOf_7 lm_X10_153 mk_X10_goalsOf (okT ho) rfl (M_X10_goalsOf _ ho eh4) rfl pd_X10_goalsOf (by decide) (by decide) (by decide) (As := [.int a1, .int r1]) (rest := []) rfl (Nat.le_of_ble_eq_true rfl) ?_
  refine V_istore (pc := 10) C dX10_ruleOf_10 (by decide) rfl ?_
  refine V_aload_n (pc := 12) C dX10_ruleOf_12 rfl ?_
  refine V_getR (pc := 13) C dX10_ruleOf_13 lf_X10_57 (fkT_9 ho) ?_
  refine V_getR (pc := 16) C dX10_ruleOf_16 lf_X10_134 fk_51_2 ?_
  refine V_iload_n (pc := 19) C dX10_ruleOf_19 rfl ?_
  obtain ⟨g5, hyp⟩ := gd_n hyp
  refine V_iald (pc := 20) C dX10_ruleOf_20 ak_53 g5 ?_
  refine V_aload_n (pc := 21) C dX10_ruleOf_21 rfl ?_
  refine V_getR (pc := 22) C dX10_ruleOf_22 lf_X10_32 (fkT_10 ho) ?_
  refine V_iload_n (pc := 25) C dX10_ruleOf_25 rfl ?_
  obtain ⟨g6, hyp⟩ := gd_n hyp
  refine V_iald (pc := 26) C dX10_ruleOf_26 (akT_9 ho) g6 ?_
  refine V_isub (pc := 27) C dX10_ruleOf_27 ?_
  obtain ⟨v7, ev7, hyp⟩ := ib_n hyp
  refine V_topI ev7 ?_
  refine V_istore (pc := 28) C dX10_ruleOf_28 (by decide) rfl ?_
  refine V_aload_n (pc := 30) C dX10_ruleOf_30 rfl ?_
  refine V_getR (pc := 31) C dX10_ruleOf_31 lf_X10_57 (fkT_9 ho) ?_
  refine V_getR (pc := 34) C dX10_ruleOf_34 lf_X10_157 fk_51_0 ?_
  refine V_getR (pc := 37) C dX10_ruleOf_37 lf_X10_161 fk_58_0 ?_
  refine V_astore (pc := 40) C dX10_ruleOf_40 (by decide) rfl ?_
  refine V_aload (pc := 42) C dX10_ruleOf_42 rfl ?_
  refine V_iconst (pc := 44) C dX10_ruleOf_44 (v := 0) (by decide) ?_
  refine V_iload (pc := 45) C dX10_ruleOf_45 rfl ?_
  refine V_mabs (pc := 47) C dX10_ruleOf_47 lm_X10_166 (by decide) (Nat.le_of_ble_eq_true rfl) ?_
  obtain ⟨g8, hyp⟩ := gd_n hyp
  obtain ⟨h9, eh9, hyp⟩ := hb_n hyp
  refine V_iast (pc := 50) C dX10_ruleOf_50 ak_59 g8 eh9 ?_
  refine V_aload (pc := 51) C dX10_ruleOf_51 rfl ?_
  refine V_iconst (pc := 53) C dX10_ruleOf_53 (v := 1) (by decide) ?_
  refine V_aload_n (pc := 54) C dX10_ruleOf_54 rfl ?_
  refine V_getR (pc := 55) C dX10_ruleOf_55 lf_X10_41 (fkT_13 ho) ?_
  refine V_iload_n (pc := 58) C dX10_ruleOf_58 rfl ?_
  refine V_iald (pc := 59) C dX10_ruleOf_59 (akT_12 ho) g6 ?_
  obtain ⟨r10, h11, eh11, hyp⟩ := bI_n hyp
  refine V_statI (pc := 60) C dX10_ruleOf_60 lm_X10_169 ms_J6_bitCount_0f7a4 (M_J6_bitCount_0f7a4 _ eh11) rfl pd_J6_bitCount_0f7a4 (by decide) (by decide) (by decide) (As := [.int (h9.1 (o + 12) a1.toNatClampNeg)]) (rest := [.int (1 : Int32), .ref 59]) rfl (Nat.le_of_ble_eq_true rfl) ?_
  obtain ⟨g12, hyp⟩ := gd_n hyp
  obtain ⟨h13, eh13, hyp⟩ := hb_n hyp
  refine V_iast (pc := 63) C dX10_ruleOf_63 ak_59 g12 eh13 ?_
  refine V_aload (pc := 64) C dX10_ruleOf_64 rfl ?_
  refine V_iconst (pc := 66) C dX10_ruleOf_66 (v := 2) (by decide) ?_
  refine V_iload (pc := 67) C dX10_ruleOf_67 rfl ?_
  obtain ⟨r14, h15, eh15, hyp⟩ := bI_n hyp
  refine V_statI (pc := 69) C dX10_ruleOf_69 lm_X10_169 ms_J6_bitCount_0f7a4 (M_J6_bitCount_0f7a4 _ eh15) rfl pd_J6_bitCount_0f7a4 (by decide) (by decide) (by decide) (As := [.int r3]) (rest := [.int (2 : Int32), .ref 59]) rfl (Nat.le_of_ble_eq_true rfl) ?_
  obtain ⟨g16, hyp⟩ := gd_n hyp
  obtain ⟨h17, eh17, hyp⟩ := hb_n hyp
  refine V_iast (pc := 72) C dX10_ruleOf_72 ak_59 g16 eh17 ?_
  refine V_aload (pc := 73) C dX10_ruleOf_73 rfl ?_
  refine V_iconst (pc := 75) C dX10_ruleOf_75 (v := 3) (by decide) ?_
  refine V_iload (pc := 76) C dX10_ruleOf_76 rfl ?_
  refine V_aload_n (pc := 78) C dX10_ruleOf_78 rfl ?_
  refine V_getR (pc := 79) C dX10_ruleOf_79 lf_X10_35 (fkT_11 ho) ?_
  refine V_iload_n (pc := 82) C dX10_ruleOf_82 rfl ?_
  refine V_iald (pc := 83) C dX10_ruleOf_83 (akT_10 ho) g6 ?_
  refine V_imul (pc := 84) C dX10_ruleOf_84 ?_
  refine V_if_lt (pc := 85) C dX10_ruleOf_85 (tgt := 92) (by decide) (fun q18 => ?_) (fun q18 => ?_)
  · replace hyp := (if_pos q18).symm.trans hyp
    refine V_iconst (pc := 92) C dX10_ruleOf_92 (v := 0) (by decide) ?_
    refine V_weak (lv' := [some (.ref o), some (.int a1), some (.int a2), some (.int a3), some (.int r3), none, some (.ref 59)]) (lvle_s (lvle_s (lvle_s (lvle_s (lvle_s (lvle_n (lvle_s lvle_0))))))) ?_
    exact (T_X10_ruleOf_b93 C ho) a1 a2 a3 r3 (0 : Int32) (3 : Int32) h17 hyp
  · replace hyp := (if_neg q18).symm.trans hyp
    refine V_iconst (pc := 88) C dX10_ruleOf_88 (v := 1) (by decide) ?_
    refine V_goto (pc := 89) C dX10_ruleOf_89 (tgt := 93) (by decide) ?_
    refine V_weak (lv' := [some (.ref o), some (.int a1), some (.int a2), some (.int a3), some (.int r3), none, some (.ref 59)]) (lvle_s (lvle_s (lvle_s (lvle_s (lvle_s (lvle_n (lvle_s lvle_0))))))) ?_
    exact (T_X10_ruleOf_b93 C ho) a1 a2 a3 r3 (1 : Int32) (3 : Int32) h17 hyp
theorem dX10_carByRule_0 : decode cX10_carByRule 0 = .ok (.aload_n 0, 1) := by decide +kernel
theorem dX10_carByRule_1 : decode cX10_carByRule 1 = .ok (.getfield 95, 3) := by decide +kernel
theorem dX10_carByRule_4 : decode cX10_carByRule 4 = .ok (.iconst 2, 1) := by decide +kernel
theorem dX10_carByRule_5 : decode cX10_carByRule 5 = .ok (.if_icmp .ge 5, 3) := by decide +kernel
theorem dX10_carByRule_8 : decode cX10_carByRule 8 = .ok (.iconst 0, 1) := by decide +kernel
theorem dX10_carByRule_9 : decode cX10_carByRule 9 = .ok (.ireturn, 1) := by decide +kernel
theorem dX10_carByRule_10 : decode cX10_carByRule 10 = .ok (.aload_n 0, 1) := by decide +kernel
theorem dX10_carByRule_11 : decode cX10_carByRule 11 = .ok (.iconst 1, 1) := by decide +kernel
theorem dX10_carByRule_12 : decode cX10_carByRule 12 = .ok (.iload_n 1, 1) := by decide +kernel
theorem dX10_carByRule_13 : decode cX10_carByRule 13 = .ok (.iload_n 2, 1) := by decide +kernel
theorem dX10_carByRule_14 : decode cX10_carByRule 14 = .ok (.invokevirtual 146, 3) := by decide +kernel
theorem dX10_carByRule_17 : decode cX10_carByRule 17 = .ok (.aload_n 0, 1) := by decide +kernel
theorem dX10_carByRule_18 : decode cX10_carByRule 18 = .ok (.iconst 0, 1) := by decide +kernel
theorem dX10_carByRule_19 : decode cX10_carByRule 19 = .ok (.iload_n 1, 1) := by decide +kernel
theorem dX10_carByRule_20 : decode cX10_carByRule 20 = .ok (.iload_n 2, 1) := by decide +kernel
theorem dX10_carByRule_21 : decode cX10_carByRule 21 = .ok (.invokevirtual 146, 3) := by decide +kernel
theorem dX10_carByRule_24 : decode cX10_carByRule 24 = .ok (.if_icmp .ge 7, 3) := by decide +kernel
theorem dX10_carByRule_27 : decode cX10_carByRule 27 = .ok (.iconst 1, 1) := by decide +kernel
theorem dX10_carByRule_28 : decode cX10_carByRule 28 = .ok (.goto 4, 3) := by decide +kernel
theorem dX10_carByRule_31 : decode cX10_carByRule 31 = .ok (.iconst 0, 1) := by decide +kernel
theorem dX10_carByRule_32 : decode cX10_carByRule 32 = .ok (.ireturn, 1) := by decide +kernel
def F_X10_carByRule (N : Nat) (o : Nat) (a1 : Int32) (a2 : Int32) (h : PH) : Option (Int32 × PH) :=
  if (2 : Int32) ≤ (h.1 o 6) then
    bI (F_X10_ruleOf N o (1 : Int32) a1 a2 h) fun r2 h3 =>
    bI (F_X10_ruleOf N o (0 : Int32) a1 a2 h3) fun r4 h5 =>
    if r4 ≤ r2 then
      some ((0 : Int32), h5)
    else
      some ((1 : Int32), h5)
  else
    some ((0 : Int32), h)
set_option maxRecDepth 20000 in
set_option maxHeartbeats 4000000 in
theorem M_X10_carByRule (E : EV) {N : Nat} {o : Nat} {a1 : Int32} {a2 : Int32} (ho : IST o) {r : Int32} {h h2 : PH} (hyp : F_X10_carByRule N o a1 a2 h = some (r, h2)) : MI E 103 yX10_carByRule cX10_carByRule 3 (some .int) 3 76 [.ref o, .int a1, .int a2] h r h2 := by
  refine MI.of 0 (by decide) rfl (fun X e1 C => ?_)
  subst e1
  replace C : CX X 103 cX10_carByRule 3 RX10 (some .int) 3 76 := C
  show V X _ h 0 [some (.ref o), some (.int a1), some (.int a2)] []
  unfold F_X10_carByRule at hyp
  refine V_aload_n (pc := 0) C dX10_carByRule_0 rfl ?_
  refine V_getI (pc := 1) C dX10_carByRule_1 lf_X10_95 (fkT_6 ho) ?_
  refine V_iconst (pc := 4) C dX10_carByRule_4 (v := 2) (by decide) ?_
  refine V_icmp_ge (pc := 5) C dX10_carByRule_5 (tgt := 10) (by decide) (fun q1 => ?_) (fun q1 => ?_)
  · replace hyp := (if_pos q1).symm.trans hyp
    refine V_aload_n (pc := 10) C dX10_carByRule_10 rfl ?_
    refine V_iconst (pc := 11) C dX10_carByRule_11 (v := 1) (by decide) ?_
    refine V_iload_n (pc := 12) C dX10_carByRule_12 rfl ?_
    refine V_iload_n (pc := 13) C dX10_carByRule_13 rfl ?_
    obtain ⟨r2, h3, eh3, hyp⟩ := bI_n hyp
    refine V_callI (pc := 14) C dX10_carByRule_14 lm_X10_146 mk_X10_ruleOf (okT ho) rfl (M_X10_ruleOf _ ho eh3) rfl pd_X10_ruleOf (by decide) (by decide) (by decide) (As := [.int (1 : Int32), .int a1, .int a2]) (rest := []) rfl (Nat.le_of_ble_eq_true rfl) ?_
    refine V_aload_n (pc := 17) C dX10_carByRule_17 rfl ?_
    refine V_iconst (pc := 18) C dX10_carByRule_18 (v := 0) (by decide) ?_
    refine V_iload_n (pc := 19) C dX10_carByRule_19 rfl ?_
    refine V_iload_n (pc := 20) C dX10_carByRule_20 rfl ?_
    obtain ⟨r4, h5, eh5, hyp⟩ := bI_n hyp
    refine V_callI (pc := 21) C dX10_carByRule_21 lm_X10_146 mk_X10_ruleOf (okT ho) rfl (M_X10_ruleOf _ ho eh5) rfl pd_X10_ruleOf (by decide) (by decide) (by decide) (As := [.int (0 : Int32), .int a1, .int a2]) (rest := [.int r2]) rfl (Nat.le_of_ble_eq_true rfl) ?_
    refine V_icmp_ge (pc := 24) C dX10_carByRule_24 (tgt := 31) (by decide) (fun q6 => ?_) (fun q6 => ?_)
    · replace hyp := (if_pos q6).symm.trans hyp
      refine V_iconst (pc := 31) C dX10_carByRule_31 (v := 0) (by decide) ?_
      cases hyp
      exact V_iret C dX10_carByRule_32
    · replace hyp := (if_neg q6).symm.trans hyp
      refine V_iconst (pc := 27) C dX10_carByRule_27 (v := 1) (by decide) ?_
      refine V_goto (pc := 28) C dX10_carByRule_28 (tgt := 32) (by decide) ?_
      cases hyp
      exact V_iret C dX10_carByRule_32
  · replace hyp := (if_neg q1).symm.trans hyp
    refine V_iconst (pc := 8) C dX10_carByRule_8 (v := 0) (by decide) ?_
    cases hyp
    exact V_iret C dX10_carByRule_9
theorem dX10_give_0 : decode cX10_give 0 = .ok (.iconst 0, 1) := by decide +kernel
theorem dX10_give_1 : decode cX10_give 1 = .ok (.istore_n 3, 1) := by decide +kernel
theorem dX10_give_2 : decode cX10_give 2 = .ok (.iload_n 3, 1) := by decide +kernel
theorem dX10_give_3 : decode cX10_give 3 = .ok (.aload_n 0, 1) := by decide +kernel
theorem dX10_give_4 : decode cX10_give 4 = .ok (.getfield 127, 3) := by decide +kernel
theorem dX10_give_7 : decode cX10_give 7 = .ok (.if_icmp .ge 64, 3) := by decide +kernel
theorem dX10_give_10 : decode cX10_give 10 = .ok (.aload_n 0, 1) := by decide +kernel
theorem dX10_give_11 : decode cX10_give 11 = .ok (.getfield 57, 3) := by decide +kernel
theorem dX10_give_14 : decode cX10_give 14 = .ok (.getfield 140, 3) := by decide +kernel
theorem dX10_give_17 : decode cX10_give 17 = .ok (.iload_n 3, 1) := by decide +kernel
theorem dX10_give_18 : decode cX10_give 18 = .ok (.iaload, 1) := by decide +kernel
theorem dX10_give_19 : decode cX10_give 19 = .ok (.iload_n 1, 1) := by decide +kernel
theorem dX10_give_20 : decode cX10_give 20 = .ok (.if_icmp .ne 45, 3) := by decide +kernel
theorem dX10_give_23 : decode cX10_give 23 = .ok (.iload_n 2, 1) := by decide +kernel
theorem dX10_give_24 : decode cX10_give 24 = .ok (.iconst (-1), 1) := by decide +kernel
theorem dX10_give_25 : decode cX10_give 25 = .ok (.if_icmp .ne 12, 3) := by decide +kernel
theorem dX10_give_28 : decode cX10_give 28 = .ok (.aload_n 0, 1) := by decide +kernel
theorem dX10_give_29 : decode cX10_give 29 = .ok (.iload_n 3, 1) := by decide +kernel
theorem dX10_give_30 : decode cX10_give 30 = .ok (.iload_n 1, 1) := by decide +kernel
theorem dX10_give_31 : decode cX10_give 31 = .ok (.invokevirtual 143, 3) := by decide +kernel
theorem dX10_give_34 : decode cX10_give 34 = .ok (.goto 8, 3) := by decide +kernel
theorem dX10_give_37 : decode cX10_give 37 = .ok (.iload_n 2, 1) := by decide +kernel
theorem dX10_give_38 : decode cX10_give 38 = .ok (.iload_n 3, 1) := by decide +kernel
theorem dX10_give_39 : decode cX10_give 39 = .ok (.ishr, 1) := by decide +kernel
theorem dX10_give_40 : decode cX10_give 40 = .ok (.iconst 1, 1) := by decide +kernel
theorem dX10_give_41 : decode cX10_give 41 = .ok (.iand, 1) := by decide +kernel
theorem dX10_give_42 : decode cX10_give 42 = .ok (.istore 4, 2) := by decide +kernel
theorem dX10_give_44 : decode cX10_give 44 = .ok (.aload_n 0, 1) := by decide +kernel
theorem dX10_give_45 : decode cX10_give 45 = .ok (.getfield 9, 3) := by decide +kernel
theorem dX10_give_48 : decode cX10_give 48 = .ok (.iload_n 3, 1) := by decide +kernel
theorem dX10_give_49 : decode cX10_give 49 = .ok (.iload 4, 2) := by decide +kernel
theorem dX10_give_51 : decode cX10_give 51 = .ok (.iastore, 1) := by decide +kernel
theorem dX10_give_52 : decode cX10_give 52 = .ok (.aload_n 0, 1) := by decide +kernel
theorem dX10_give_53 : decode cX10_give 53 = .ok (.getfield 44, 3) := by decide +kernel
theorem dX10_give_56 : decode cX10_give 56 = .ok (.iload 4, 2) := by decide +kernel
theorem dX10_give_58 : decode cX10_give 58 = .ok (.dup2, 1) := by decide +kernel
theorem dX10_give_59 : decode cX10_give 59 = .ok (.iaload, 1) := by decide +kernel
theorem dX10_give_60 : decode cX10_give 60 = .ok (.iconst 1, 1) := by decide +kernel
theorem dX10_give_61 : decode cX10_give 61 = .ok (.iload_n 3, 1) := by decide +kernel
theorem dX10_give_62 : decode cX10_give 62 = .ok (.ishl, 1) := by decide +kernel
theorem dX10_give_63 : decode cX10_give 63 = .ok (.ior, 1) := by decide +kernel
theorem dX10_give_64 : decode cX10_give 64 = .ok (.iastore, 1) := by decide +kernel
theorem dX10_give_65 : decode cX10_give 65 = .ok (.iinc 3 1, 3) := by decide +kernel
theorem dX10_give_68 : decode cX10_give 68 = .ok (.goto (-66), 3) := by decide +kernel
theorem dX10_give_71 : decode cX10_give 71 = .ok (.return_, 1) := by decide +kernel
def F_X10_give_b65 (N : Nat) (o : Nat) (rc2 : Int32 → Int32 → Int32 → PH → Option PH) (x1 : Int32) (x2 : Int32) (x3 : Int32) (h : PH) : Option PH :=
  ib (x3 + (1 : Int32)) fun v1 =>
  rc2 x1 x2 v1 h
set_option maxRecDepth 20000 in
set_option maxHeartbeats 4000000 in
theorem T_X10_give_b65 {X : CT} (C : CX X 103 cX10_give 5 RX10 none 4 98) {h0 : PH} {N : Nat} {o : Nat} (ho : IST o) {rc2 : Int32 → Int32 → Int32 → PH → Option PH} (hr2 : ∀ (x1 : Int32) (x2 : Int32) (x3 : Int32) (h : PH), rc2 x1 x2 x3 h = some h0 → V X (QV X h0) h 2 [some (.ref o), some (.int x1), some (.int x2), some (.int x3), none] []) : ∀ (x1 : Int32) (x2 : Int32) (x3 : Int32) (h : PH), F_X10_give_b65 N o rc2 x1 x2 x3 h = some h0 → V X (QV X h0) h 65 [some (.ref o), some (.int x1), some (.int x2), some (.int x3), none] [] := by
  intro x1 x2 x3 h hyp
  unfold F_X10_give_b65 at hyp
  obtain ⟨v1, ev1, hyp⟩ := ib_n hyp
  refine V_iinc (pc := 65) C dX10_give_65 (v := v1) rfl (by rw [ev1]; rfl) (by decide) rfl ?_
  refine V_goto (pc := 68) C dX10_give_68 (tgt := 2) (by decide) ?_
  refine V_weak (lv' := [some (.ref o), some (.int x1), some (.int x2), some (.int v1), none]) (lvle_s (lvle_s (lvle_s (lvle_s (lvle_n lvle_0))))) ?_
  exact hr2 x1 x2 v1 h hyp
def F_X10_give_b42 (N : Nat) (o : Nat) (rc2 : Int32 → Int32 → Int32 → PH → Option PH) (x1 : Int32) (x2 : Int32) (x3 : Int32) (s0 : Int32) (h : PH) : Option PH :=
  if inb x3 24 = true then
  hb (hs h (o + 1) x3.toNatClampNeg s0) fun h2 =>
  if inb s0 2 = true then
  hb (hs h2 (o + 13) s0.toNatClampNeg ((h2.1 (o + 13) s0.toNatClampNeg) ||| ((1 : Int32) <<< (x3 &&& 31)))) fun h4 =>
  F_X10_give_b65 N o rc2 x1 x2 x3 h4
  else none
  else none
set_option maxRecDepth 20000 in
set_option maxHeartbeats 4000000 in
theorem T_X10_give_b42 {X : CT} (C : CX X 103 cX10_give 5 RX10 none 4 98) {h0 : PH} {N : Nat} {o : Nat} (ho : IST o) {rc2 : Int32 → Int32 → Int32 → PH → Option PH} (hr2 : ∀ (x1 : Int32) (x2 : Int32) (x3 : Int32) (h : PH), rc2 x1 x2 x3 h = some h0 → V X (QV X h0) h 2 [some (.ref o), some (.int x1), some (.int x2), some (.int x3), none] []) : ∀ (x1 : Int32) (x2 : Int32) (x3 : Int32) (s0 : Int32) (h : PH), F_X10_give_b42 N o rc2 x1 x2 x3 s0 h = some h0 → V X (QV X h0) h 42 [some (.ref o), some (.int x1), some (.int x2), some (.int x3), none] [.int s0] := by
  intro x1 x2 x3 s0 h hyp
  unfold F_X10_give_b42 at hyp
  refine V_istore (pc := 42) C dX10_give_42 (by decide) rfl ?_
  refine V_aload_n (pc := 44) C dX10_give_44 rfl ?_
  refine V_getR (pc := 45) C dX10_give_45 lf_X10_9 (fkT_0 ho) ?_
  refine V_iload_n (pc := 48) C dX10_give_48 rfl ?_
  refine V_iload (pc := 49) C dX10_give_49 rfl ?_
  obtain ⟨g1, hyp⟩ := gd_n hyp
  obtain ⟨h2, eh2, hyp⟩ := hb_n hyp
  refine V_iast (pc := 51) C dX10_give_51 (akT_1 ho) g1 eh2 ?_
  refine V_aload_n (pc := 52) C dX10_give_52 rfl ?_
  refine V_getR (pc := 53) C dX10_give_53 lf_X10_44 (fkT_14 ho) ?_
  refine V_iload (pc := 56) C dX10_give_56 rfl ?_
  refine V_dup2 (pc := 58) C dX10_give_58 rfl rfl ?_
  obtain ⟨g3, hyp⟩ := gd_n hyp
  refine V_iald (pc := 59) C dX10_give_59 (akT_13 ho) g3 ?_
  refine V_iconst (pc := 60) C dX10_give_60 (v := 1) (by decide) ?_
  refine V_iload_n (pc := 61) C dX10_give_61 rfl ?_
  refine V_ishl (pc := 62) C dX10_give_62 ?_
  refine V_ior (pc := 63) C dX10_give_63 ?_
  obtain ⟨h4, eh4, hyp⟩ := hb_n hyp
  refine V_iast (pc := 64) C dX10_give_64 (akT_13 ho) g3 eh4 ?_
  refine V_weak (lv' := [some (.ref o), some (.int x1), some (.int x2), some (.int x3), none]) (lvle_s (lvle_s (lvle_s (lvle_s (lvle_n lvle_0))))) ?_
  exact (T_X10_give_b65 C ho hr2) x1 x2 x3 h4 hyp
def F_X10_give_b2 (N : Nat) (o : Nat) : Nat → Int32 → Int32 → Int32 → PH → Option PH
  | 0, _, _, _, _ => none
  | n + 1, x1, x2, x3, h =>
    if (h.1 o 7) ≤ x3 then
      some h
    else
      if inb x3 24 = true then
      if (h.1 52 x3.toNatClampNeg) = x1 then
        if x2 = (-1 : Int32) then
          bI (F_X10_carByRule N o x3 x1 h) fun r5 h6 =>
          F_X10_give_b42 N o (F_X10_give_b2 N o n) x1 x2 x3 r5 h6
        else
          F_X10_give_b42 N o (F_X10_give_b2 N o n) x1 x2 x3 ((x2 >>> (x3 &&& 31)) &&& (1 : Int32)) h
      else
        F_X10_give_b65 N o (F_X10_give_b2 N o n) x1 x2 x3 h
      else none
set_option maxRecDepth 20000 in
set_option maxHeartbeats 4000000 in
theorem T_X10_give_b2 {X : CT} (C : CX X 103 cX10_give 5 RX10 none 4 98) {h0 : PH} {N : Nat} {o : Nat} (ho : IST o) : ∀ (n : Nat) (x1 : Int32) (x2 : Int32) (x3 : Int32) (h : PH), F_X10_give_b2 N o n x1 x2 x3 h = some h0 → V X (QV X h0) h 2 [some (.ref o), some (.int x1), some (.int x2), some (.int x3), none] [] := by
  intro n
  induction n with
  | zero =>
    intro x1 x2 x3 h hyp
    cases hyp
  | succ n ih =>
    intro x1 x2 x3 h hyp
    unfold F_X10_give_b2 at hyp
    refine V_iload_n (pc := 2) C dX10_give_2 rfl ?_
    refine V_aload_n (pc := 3) C dX10_give_3 rfl ?_
    refine V_getI (pc := 4) C dX10_give_4 lf_X10_127 (fkT_7 ho) ?_
    refine V_icmp_ge (pc := 7) C dX10_give_7 (tgt := 71) (by decide) (fun q1 => ?_) (fun q1 => ?_)
    · replace hyp := (if_pos q1).symm.trans hyp
      cases hyp
      exact V_vret C dX10_give_71
    · replace hyp := (if_neg q1).symm.trans hyp
      refine V_aload_n (pc := 10) C dX10_give_10 rfl ?_
      refine V_getR (pc := 11) C dX10_give_11 lf_X10_57 (fkT_9 ho) ?_
      refine V_getR (pc := 14) C dX10_give_14 lf_X10_140 fk_51_1 ?_
      refine V_iload_n (pc := 17) C dX10_give_17 rfl ?_
      obtain ⟨g2, hyp⟩ := gd_n hyp
      refine V_iald (pc := 18) C dX10_give_18 ak_52 g2 ?_
      refine V_iload_n (pc := 19) C dX10_give_19 rfl ?_
      refine V_icmp_ne (pc := 20) C dX10_give_20 (tgt := 65) (by decide) (fun q3 => ?_) (fun q3 => ?_)
      · replace hyp := (if_neg q3).symm.trans hyp
        refine V_weak (lv' := [some (.ref o), some (.int x1), some (.int x2), some (.int x3), none]) (lvle_s (lvle_s (lvle_s (lvle_s (lvle_n lvle_0))))) ?_
        exact (T_X10_give_b65 C ho ih) x1 x2 x3 h hyp
      · replace hyp := (if_pos q3).symm.trans hyp
        refine V_iload_n (pc := 23) C dX10_give_23 rfl ?_
        refine V_iconst (pc := 24) C dX10_give_24 (v := -1) (by decide) ?_
        refine V_icmp_ne (pc := 25) C dX10_give_25 (tgt := 37) (by decide) (fun q4 => ?_) (fun q4 => ?_)
        · replace hyp := (if_neg q4).symm.trans hyp
          refine V_iload_n (pc := 37) C dX10_give_37 rfl ?_
          refine V_iload_n (pc := 38) C dX10_give_38 rfl ?_
          refine V_ishr (pc := 39) C dX10_give_39 ?_
          refine V_iconst (pc := 40) C dX10_give_40 (v := 1) (by decide) ?_
          refine V_iand (pc := 41) C dX10_give_41 ?_
          refine V_weak (lv' := [some (.ref o), some (.int x1), some (.int x2), some (.int x3), none]) (lvle_s (lvle_s (lvle_s (lvle_s (lvle_n lvle_0))))) ?_
          exact (T_X10_give_b42 C ho ih) x1 x2 x3 ((x2 >>> (x3 &&& 31)) &&& (1 : Int32)) h hyp
        · replace hyp := (if_pos q4).symm.trans hyp
          refine V_aload_n (pc := 28) C dX10_give_28 rfl ?_
          refine V_iload_n (pc := 29) C dX10_give_29 rfl ?_
          refine V_iload_n (pc := 30) C dX10_give_30 rfl ?_
          obtain ⟨r5, h6, eh6, hyp⟩ := bI_n hyp
          refine V_callI (pc := 31) C dX10_give_31 lm_X10_143 mk_X10_carByRule (okT ho) rfl (M_X10_carByRule _ ho eh6) rfl pd_X10_carByRule (by decide) (by decide) (by decide) (As := [.int x3, .int x1]) (rest := []) rfl (Nat.le_of_ble_eq_true rfl) ?_
          refine V_goto (pc := 34) C dX10_give_34 (tgt := 42) (by decide) ?_
          refine V_weak (lv' := [some (.ref o), some (.int x1), some (.int x2), some (.int x3), none]) (lvle_s (lvle_s (lvle_s (lvle_s (lvle_n lvle_0))))) ?_
          exact (T_X10_give_b42 C ho ih) x1 x2 x3 r5 h6 hyp
def F_X10_give (N : Nat) (o : Nat) (a1 : Int32) (a2 : Int32) (h : PH) : Option PH :=
  F_X10_give_b2 N o N a1 a2 (0 : Int32) h
set_option maxRecDepth 20000 in
set_option maxHeartbeats 4000000 in
theorem M_X10_give (E : EV) {N : Nat} {o : Nat} {a1 : Int32} {a2 : Int32} (ho : IST o) {h h2 : PH} (hyp : F_X10_give N o a1 a2 h = some h2) : MV E 103 yX10_give cX10_give 5 none 4 98 [.ref o, .int a1, .int a2] h h2 := by
  refine MV.of 2 (by decide) rfl (fun X e1 C => ?_)
  subst e1
  replace C : CX X 103 cX10_give 5 RX10 none 4 98 := C
  show V X _ h 0 [some (.ref o), some (.int a1), some (.int a2), none, none] []
  unfold F_X10_give at hyp
  refine V_iconst (pc := 0) C dX10_give_0 (v := 0) (by decide) ?_
  refine V_istore_n (pc := 1) C dX10_give_1 (by decide) rfl ?_
  refine V_weak (lv' := [some (.ref o), some (.int a1), some (.int a2), some (.int (0 : Int32)), none]) (lvle_s (lvle_s (lvle_s (lvle_s (lvle_n lvle_0))))) ?_
  exact (T_X10_give_b2 C ho) N a1 a2 (0 : Int32) h hyp
theorem dX10_holdDoors_0 : decode cX10_holdDoors 0 = .ok (.iconst 0, 1) := by decide +kernel
theorem dX10_holdDoors_1 : decode cX10_holdDoors 1 = .ok (.istore_n 2, 1) := by decide +kernel
theorem dX10_holdDoors_2 : decode cX10_holdDoors 2 = .ok (.iload_n 2, 1) := by decide +kernel
theorem dX10_holdDoors_3 : decode cX10_holdDoors 3 = .ok (.aload_n 0, 1) := by decide +kernel
theorem dX10_holdDoors_4 : decode cX10_holdDoors 4 = .ok (.getfield 57, 3) := by decide +kernel
theorem dX10_holdDoors_7 : decode cX10_holdDoors 7 = .ok (.getfield 177, 3) := by decide +kernel
theorem dX10_holdDoors_10 : decode cX10_holdDoors 10 = .ok (.if_icmp .ge 59, 3) := by decide +kernel
theorem dX10_holdDoors_13 : decode cX10_holdDoors 13 = .ok (.aload_n 0, 1) := by decide +kernel
theorem dX10_holdDoors_14 : decode cX10_holdDoors 14 = .ok (.getfield 57, 3) := by decide +kernel
theorem dX10_holdDoors_17 : decode cX10_holdDoors 17 = .ok (.getfield 180, 3) := by decide +kernel
theorem dX10_holdDoors_20 : decode cX10_holdDoors 20 = .ok (.iload_n 2, 1) := by decide +kernel
theorem dX10_holdDoors_21 : decode cX10_holdDoors 21 = .ok (.iaload, 1) := by decide +kernel
theorem dX10_holdDoors_22 : decode cX10_holdDoors 22 = .ok (.istore_n 3, 1) := by decide +kernel
theorem dX10_holdDoors_23 : decode cX10_holdDoors 23 = .ok (.aload_n 0, 1) := by decide +kernel
theorem dX10_holdDoors_24 : decode cX10_holdDoors 24 = .ok (.getfield 57, 3) := by decide +kernel
theorem dX10_holdDoors_27 : decode cX10_holdDoors 27 = .ok (.getfield 183, 3) := by decide +kernel
theorem dX10_holdDoors_30 : decode cX10_holdDoors 30 = .ok (.iload_n 2, 1) := by decide +kernel
theorem dX10_holdDoors_31 : decode cX10_holdDoors 31 = .ok (.iaload, 1) := by decide +kernel
theorem dX10_holdDoors_32 : decode cX10_holdDoors 32 = .ok (.iload_n 1, 1) := by decide +kernel
theorem dX10_holdDoors_33 : decode cX10_holdDoors 33 = .ok (.if_icmp .ne 30, 3) := by decide +kernel
theorem dX10_holdDoors_36 : decode cX10_holdDoors 36 = .ok (.aload_n 0, 1) := by decide +kernel
theorem dX10_holdDoors_37 : decode cX10_holdDoors 37 = .ok (.getfield 38, 3) := by decide +kernel
theorem dX10_holdDoors_40 : decode cX10_holdDoors 40 = .ok (.iload_n 3, 1) := by decide +kernel
theorem dX10_holdDoors_41 : decode cX10_holdDoors 41 = .ok (.iaload, 1) := by decide +kernel
theorem dX10_holdDoors_42 : decode cX10_holdDoors 42 = .ok (.ifCond .le 21, 3) := by decide +kernel
theorem dX10_holdDoors_45 : decode cX10_holdDoors 45 = .ok (.aload_n 0, 1) := by decide +kernel
theorem dX10_holdDoors_46 : decode cX10_holdDoors 46 = .ok (.getfield 38, 3) := by decide +kernel
theorem dX10_holdDoors_49 : decode cX10_holdDoors 49 = .ok (.iload_n 3, 1) := by decide +kernel
theorem dX10_holdDoors_50 : decode cX10_holdDoors 50 = .ok (.dup2, 1) := by decide +kernel
theorem dX10_holdDoors_51 : decode cX10_holdDoors 51 = .ok (.iaload, 1) := by decide +kernel
theorem dX10_holdDoors_52 : decode cX10_holdDoors 52 = .ok (.aload_n 0, 1) := by decide +kernel
theorem dX10_holdDoors_53 : decode cX10_holdDoors 53 = .ok (.getfield 57, 3) := by decide +kernel
theorem dX10_holdDoors_56 : decode cX10_holdDoors 56 = .ok (.getfield 186, 3) := by decide +kernel
theorem dX10_holdDoors_59 : decode cX10_holdDoors 59 = .ok (.iload_n 2, 1) := by decide +kernel
theorem dX10_holdDoors_60 : decode cX10_holdDoors 60 = .ok (.iaload, 1) := by decide +kernel
theorem dX10_holdDoors_61 : decode cX10_holdDoors 61 = .ok (.iadd, 1) := by decide +kernel
theorem dX10_holdDoors_62 : decode cX10_holdDoors 62 = .ok (.iastore, 1) := by decide +kernel
theorem dX10_holdDoors_63 : decode cX10_holdDoors 63 = .ok (.iinc 2 1, 3) := by decide +kernel
theorem dX10_holdDoors_66 : decode cX10_holdDoors 66 = .ok (.goto (-64), 3) := by decide +kernel
theorem dX10_holdDoors_69 : decode cX10_holdDoors 69 = .ok (.return_, 1) := by decide +kernel
def F_X10_holdDoors_b63 (N : Nat) (o : Nat) (rc2 : Int32 → Int32 → PH → Option PH) (x1 : Int32) (x2 : Int32) (h : PH) : Option PH :=
  ib (x2 + (1 : Int32)) fun v1 =>
  rc2 x1 v1 h
set_option maxRecDepth 20000 in
set_option maxHeartbeats 4000000 in
theorem T_X10_holdDoors_b63 {X : CT} (C : CX X 103 cX10_holdDoors 4 RX10 none 0 0) {h0 : PH} {N : Nat} {o : Nat} (ho : IST o) {rc2 : Int32 → Int32 → PH → Option PH} (hr2 : ∀ (x1 : Int32) (x2 : Int32) (h : PH), rc2 x1 x2 h = some h0 → V X (QV X h0) h 2 [some (.ref o), some (.int x1), some (.int x2), none] []) : ∀ (x1 : Int32) (x2 : Int32) (h : PH), F_X10_holdDoors_b63 N o rc2 x1 x2 h = some h0 → V X (QV X h0) h 63 [some (.ref o), some (.int x1), some (.int x2), none] [] := by
  intro x1 x2 h hyp
  unfold F_X10_holdDoors_b63 at hyp
  obtain ⟨v1, ev1, hyp⟩ := ib_n hyp
  refine V_iinc (pc := 63) C dX10_holdDoors_63 (v := v1) rfl (by rw [ev1]; rfl) (by decide) rfl ?_
  refine V_goto (pc := 66) C dX10_holdDoors_66 (tgt := 2) (by decide) ?_
  refine V_weak (lv' := [some (.ref o), some (.int x1), some (.int v1), none]) (lvle_s (lvle_s (lvle_s (lvle_n lvle_0)))) ?_
  exact hr2 x1 v1 h hyp
def F_X10_holdDoors_b2 (N : Nat) (o : Nat) : Nat → Int32 → Int32 → PH → Option PH
  | 0, _, _, _ => none
  | n + 1, x1, x2, h =>
    if (h.1 51 13) ≤ x2 then
      some h
    else
      if inb x2 8 = true then
      ib (h.1 56 x2.toNatClampNeg) fun v3 =>
      if (h.1 55 x2.toNatClampNeg) = x1 then
        if inb v3 2 = true then
        if (h.1 (o + 11) v3.toNatClampNeg) ≤ 0 then
          F_X10_holdDoors_b63 N o (F_X10_holdDoors_b2 N o n) x1 x2 h
        else
          if inb v3 2 = true then
          if inb x2 8 = true then
          hb (hs h (o + 11) v3.toNatClampNeg ((h.1 (o + 11) v3.toNatClampNeg) + (h.1 57 x2.toNatClampNeg))) fun h9 =>
          F_X10_holdDoors_b63 N o (F_X10_holdDoors_b2 N o n) x1 x2 h9
          else none
          else none
        else none
      else
        F_X10_holdDoors_b63 N o (F_X10_holdDoors_b2 N o n) x1 x2 h
      else none
set_option maxRecDepth 20000 in
set_option maxHeartbeats 4000000 in
theorem T_X10_holdDoors_b2 {X : CT} (C : CX X 103 cX10_holdDoors 4 RX10 none 0 0) {h0 : PH} {N : Nat} {o : Nat} (ho : IST o) : ∀ (n : Nat) (x1 : Int32) (x2 : Int32) (h : PH), F_X10_holdDoors_b2 N o n x1 x2 h = some h0 → V X (QV X h0) h 2 [some (.ref o), some (.int x1), some (.int x2), none] [] := by
  intro n
  induction n with
  | zero =>
    intro x1 x2 h hyp
    cases hyp
  | succ n ih =>
    intro x1 x2 h hyp
    unfold F_X10_holdDoors_b2 at hyp
    refine V_iload_n (pc := 2) C dX10_holdDoors_2 rfl ?_
    refine V_aload_n (pc := 3) C dX10_holdDoors_3 rfl ?_
    refine V_getR (pc := 4) C dX10_holdDoors_4 lf_X10_57 (fkT_9 ho) ?_
    refine V_getI (pc := 7) C dX10_holdDoors_7 lf_X10_177 fk_51_13 ?_
    refine V_icmp_ge (pc := 10) C dX10_holdDoors_10 (tgt := 69) (by decide) (fun q1 => ?_) (fun q1 => ?_)
    · replace hyp := (if_pos q1).symm.trans hyp
      cases hyp
      exact V_vret C dX10_holdDoors_69
    · replace hyp := (if_neg q1).symm.trans hyp
      refine V_aload_n (pc := 13) C dX10_holdDoors_13 rfl ?_
      refine V_getR (pc := 14) C dX10_holdDoors_14 lf_X10_57 (fkT_9 ho) ?_
      refine V_getR (pc := 17) C dX10_holdDoors_17 lf_X10_180 fk_51_5 ?_
      refine V_iload_n (pc := 20) C dX10_holdDoors_20 rfl ?_
      obtain ⟨g2, hyp⟩ := gd_n hyp
      refine V_iald (pc := 21) C dX10_holdDoors_21 ak_56 g2 ?_
      obtain ⟨v3, ev3, hyp⟩ := ib_n hyp
      refine V_topI ev3 ?_
      refine V_istore_n (pc := 22) C dX10_holdDoors_22 (by decide) rfl ?_
      refine V_aload_n (pc := 23) C dX10_holdDoors_23 rfl ?_
      refine V_getR (pc := 24) C dX10_holdDoors_24 lf_X10_57 (fkT_9 ho) ?_
      refine V_getR (pc := 27) C dX10_holdDoors_27 lf_X10_183 fk_51_4 ?_
      refine V_iload_n (pc := 30) C dX10_holdDoors_30 rfl ?_
      refine V_iald (pc := 31) C dX10_holdDoors_31 ak_55 g2 ?_
      refine V_iload_n (pc := 32) C dX10_holdDoors_32 rfl ?_
      refine V_icmp_ne (pc := 33) C dX10_holdDoors_33 (tgt := 63) (by decide) (fun q4 => ?_) (fun q4 => ?_)
      · replace hyp := (if_neg q4).symm.trans hyp
        refine V_weak (lv' := [some (.ref o), some (.int x1), some (.int x2), none]) (lvle_s (lvle_s (lvle_s (lvle_n lvle_0)))) ?_
        exact (T_X10_holdDoors_b63 C ho ih) x1 x2 h hyp
      · replace hyp := (if_pos q4).symm.trans hyp
        refine V_aload_n (pc := 36) C dX10_holdDoors_36 rfl ?_
        refine V_getR (pc := 37) C dX10_holdDoors_37 lf_X10_38 (fkT_12 ho) ?_
        refine V_iload_n (pc := 40) C dX10_holdDoors_40 rfl ?_
        obtain ⟨g5, hyp⟩ := gd_n hyp
        refine V_iald (pc := 41) C dX10_holdDoors_41 (akT_11 ho) g5 ?_
        refine V_if_le (pc := 42) C dX10_holdDoors_42 (tgt := 63) (by decide) (fun q6 => ?_) (fun q6 => ?_)
        · replace hyp := (if_pos q6).symm.trans hyp
          refine V_weak (lv' := [some (.ref o), some (.int x1), some (.int x2), none]) (lvle_s (lvle_s (lvle_s (lvle_n lvle_0)))) ?_
          exact (T_X10_holdDoors_b63 C ho ih) x1 x2 h hyp
        · replace hyp := (if_neg q6).symm.trans hyp
          refine V_aload_n (pc := 45) C dX10_holdDoors_45 rfl ?_
          refine V_getR (pc := 46) C dX10_holdDoors_46 lf_X10_38 (fkT_12 ho) ?_
          refine V_iload_n (pc := 49) C dX10_holdDoors_49 rfl ?_
          refine V_dup2 (pc := 50) C dX10_holdDoors_50 rfl rfl ?_
          obtain ⟨g7, hyp⟩ := gd_n hyp
          refine V_iald (pc := 51) C dX10_holdDoors_51 (akT_11 ho) g7 ?_
          refine V_aload_n (pc := 52) C dX10_holdDoors_52 rfl ?_
          refine V_getR (pc := 53) C dX10_holdDoors_53 lf_X10_57 (fkT_9 ho) ?_
          refine V_getR (pc := 56) C dX10_holdDoors_56 lf_X10_186 fk_51_6 ?_
          refine V_iload_n (pc := 59) C dX10_holdDoors_59 rfl ?_
          obtain ⟨g8, hyp⟩ := gd_n hyp
          refine V_iald (pc := 60) C dX10_holdDoors_60 ak_57 g8 ?_
          refine V_iadd (pc := 61) C dX10_holdDoors_61 ?_
          obtain ⟨h9, eh9, hyp⟩ := hb_n hyp
          refine V_iast (pc := 62) C dX10_holdDoors_62 (akT_11 ho) g7 eh9 ?_
          refine V_weak (lv' := [some (.ref o), some (.int x1), some (.int x2), none]) (lvle_s (lvle_s (lvle_s (lvle_n lvle_0)))) ?_
          exact (T_X10_holdDoors_b63 C ho ih) x1 x2 h9 hyp
def F_X10_holdDoors (N : Nat) (o : Nat) (a1 : Int32) (h : PH) : Option PH :=
  F_X10_holdDoors_b2 N o N a1 (0 : Int32) h
set_option maxRecDepth 20000 in
set_option maxHeartbeats 4000000 in
theorem M_X10_holdDoors (E : EV) {N : Nat} {o : Nat} {a1 : Int32} (ho : IST o) {h h2 : PH} (hyp : F_X10_holdDoors N o a1 h = some h2) : MV E 103 yX10_holdDoors cX10_holdDoors 4 none 0 0 [.ref o, .int a1] h h2 := by
  refine MV.of 2 (by decide) rfl (fun X e1 C => ?_)
  subst e1
  replace C : CX X 103 cX10_holdDoors 4 RX10 none 0 0 := C
  show V X _ h 0 [some (.ref o), some (.int a1), none, none] []
  unfold F_X10_holdDoors at hyp
  refine V_iconst (pc := 0) C dX10_holdDoors_0 (v := 0) (by decide) ?_
  refine V_istore_n (pc := 1) C dX10_holdDoors_1 (by decide) rfl ?_
  refine V_weak (lv' := [some (.ref o), some (.int a1), some (.int (0 : Int32)), none]) (lvle_s (lvle_s (lvle_s (lvle_n lvle_0)))) ?_
  exact (T_X10_holdDoors_b2 C ho) N a1 (0 : Int32) h hyp
theorem dX10_move_0 : decode cX10_move 0 = .ok (.aload_n 0, 1) := by decide +kernel
theorem dX10_move_1 : decode cX10_move 1 = .ok (.getfield 32, 3) := by decide +kernel
theorem dX10_move_4 : decode cX10_move 4 = .ok (.iload_n 1, 1) := by decide +kernel
theorem dX10_move_5 : decode cX10_move 5 = .ok (.iaload, 1) := by decide +kernel
theorem dX10_move_6 : decode cX10_move 6 = .ok (.iload_n 2, 1) := by decide +kernel
theorem dX10_move_7 : decode cX10_move 7 = .ok (.iadd, 1) := by decide +kernel
theorem dX10_move_8 : decode cX10_move 8 = .ok (.istore_n 3, 1) := by decide +kernel
theorem dX10_move_9 : decode cX10_move 9 = .ok (.iload_n 2, 1) := by decide +kernel
theorem dX10_move_10 : decode cX10_move 10 = .ok (.ifCond .eq 18, 3) := by decide +kernel
theorem dX10_move_13 : decode cX10_move 13 = .ok (.iload_n 3, 1) := by decide +kernel
theorem dX10_move_14 : decode cX10_move 14 = .ok (.ifCond .lt 14, 3) := by decide +kernel
theorem dX10_move_17 : decode cX10_move 17 = .ok (.iload_n 3, 1) := by decide +kernel
theorem dX10_move_18 : decode cX10_move 18 = .ok (.aload_n 0, 1) := by decide +kernel
theorem dX10_move_19 : decode cX10_move 19 = .ok (.getfield 57, 3) := by decide +kernel
theorem dX10_move_22 : decode cX10_move 22 = .ok (.getfield 214, 3) := by decide +kernel
theorem dX10_move_25 : decode cX10_move 25 = .ok (.if_icmp .lt 4, 3) := by decide +kernel
theorem dX10_move_28 : decode cX10_move 28 = .ok (.return_, 1) := by decide +kernel
theorem dX10_move_29 : decode cX10_move 29 = .ok (.aload_n 0, 1) := by decide +kernel
theorem dX10_move_30 : decode cX10_move 30 = .ok (.getfield 29, 3) := by decide +kernel
theorem dX10_move_33 : decode cX10_move 33 = .ok (.iload_n 1, 1) := by decide +kernel
theorem dX10_move_34 : decode cX10_move 34 = .ok (.aaload, 1) := by decide +kernel
theorem dX10_move_35 : decode cX10_move 35 = .ok (.iload_n 3, 1) := by decide +kernel
theorem dX10_move_36 : decode cX10_move 36 = .ok (.aload_n 0, 1) := by decide +kernel
theorem dX10_move_37 : decode cX10_move 37 = .ok (.getfield 32, 3) := by decide +kernel
theorem dX10_move_40 : decode cX10_move 40 = .ok (.iload_n 1, 1) := by decide +kernel
theorem dX10_move_41 : decode cX10_move 41 = .ok (.iaload, 1) := by decide +kernel
theorem dX10_move_42 : decode cX10_move 42 = .ok (.invokestatic 226, 3) := by decide +kernel
theorem dX10_move_45 : decode cX10_move 45 = .ok (.dup2, 1) := by decide +kernel
theorem dX10_move_46 : decode cX10_move 46 = .ok (.iaload, 1) := by decide +kernel
theorem dX10_move_47 : decode cX10_move 47 = .ok (.iconst 1, 1) := by decide +kernel
theorem dX10_move_48 : decode cX10_move 48 = .ok (.iadd, 1) := by decide +kernel
theorem dX10_move_49 : decode cX10_move 49 = .ok (.iastore, 1) := by decide +kernel
theorem dX10_move_50 : decode cX10_move 50 = .ok (.aload_n 0, 1) := by decide +kernel
theorem dX10_move_51 : decode cX10_move 51 = .ok (.getfield 32, 3) := by decide +kernel
theorem dX10_move_54 : decode cX10_move 54 = .ok (.iload_n 1, 1) := by decide +kernel
theorem dX10_move_55 : decode cX10_move 55 = .ok (.iload_n 3, 1) := by decide +kernel
theorem dX10_move_56 : decode cX10_move 56 = .ok (.iastore, 1) := by decide +kernel
theorem dX10_move_57 : decode cX10_move 57 = .ok (.return_, 1) := by decide +kernel
def F_X10_move (o : Nat) (a1 : Int32) (a2 : Int32) (h : PH) : Option PH :=
  if inb a1 2 = true then
  ib ((h.1 (o + 9) a1.toNatClampNeg) + a2) fun v2 =>
  if a2 = 0 then
    some h
  else
    if v2 < 0 then
      some h
    else
      if v2 < (h.1 51 7) then
        if inb a1 2 = true then
        ib (imin v2 (h.1 (o + 9) a1.toNatClampNeg)) fun v7 =>
        if inb v7 5 = true then
        hb (hs h (o + 7 + a1.toNatClampNeg) v7.toNatClampNeg ((h.1 (o + 7 + a1.toNatClampNeg) v7.toNatClampNeg) + (1 : Int32))) fun h9 =>
        hb (hs h9 (o + 9) a1.toNatClampNeg v2) fun h10 =>
        some h10
        else none
        else none
      else
        some h
  else none
set_option maxRecDepth 20000 in
set_option maxHeartbeats 4000000 in
theorem M_X10_move (E : EV) {o : Nat} {a1 : Int32} {a2 : Int32} (ho : IST o) {h h2 : PH} (hyp : F_X10_move o a1 a2 h = some h2) : MV E 103 yX10_move cX10_move 4 none 1 21 [.ref o, .int a1, .int a2] h h2 := by
  refine MV.of 1 (by decide) rfl (fun X e1 C => ?_)
  subst e1
  replace C : CX X 103 cX10_move 4 RX10 none 1 21 := C
  show V X _ h 0 [some (.ref o), some (.int a1), some (.int a2), none] []
  unfold F_X10_move at hyp
  refine V_aload_n (pc := 0) C dX10_move_0 rfl ?_
  refine V_getR (pc := 1) C dX10_move_1 lf_X10_32 (fkT_10 ho) ?_
  refine V_iload_n (pc := 4) C dX10_move_4 rfl ?_
  obtain ⟨g1, hyp⟩ := gd_n hyp
  refine V_iald (pc := 5) C dX10_move_5 (akT_9 ho) g1 ?_
  refine V_iload_n (pc := 6) C dX10_move_6 rfl ?_
  refine V_iadd (pc := 7) C dX10_move_7 ?_
  obtain ⟨v2, ev2, hyp⟩ := ib_n hyp
  refine V_topI ev2 ?_
  refine V_istore_n (pc := 8) C dX10_move_8 (by decide) rfl ?_
  refine V_iload_n (pc := 9) C dX10_move_9 rfl ?_
  refine V_if_eq (pc := 10) C dX10_move_10 (tgt := 28) (by decide) (fun q3 => ?_) (fun q3 => ?_)
  · replace hyp := (if_pos q3).symm.trans hyp
    cases hyp
    exact V_vret C dX10_move_28
  · replace hyp := (if_neg q3).symm.trans hyp
    refine V_iload_n (pc := 13) C dX10_move_13 rfl ?_
    refine V_if_lt (pc := 14) C dX10_move_14 (tgt := 28) (by decide) (fun q4 => ?_) (fun q4 => ?_)
    · replace hyp := (if_pos q4).symm.trans hyp
      cases hyp
      exact V_vret C dX10_move_28
    · replace hyp := (if_neg q4).symm.trans hyp
      refine V_iload_n (pc := 17) C dX10_move_17 rfl ?_
      refine V_aload_n (pc := 18) C dX10_move_18 rfl ?_
      refine V_getR (pc := 19) C dX10_move_19 lf_X10_57 (fkT_9 ho) ?_
      refine V_getI (pc := 22) C dX10_move_22 lf_X10_214 fk_51_7 ?_
      refine V_icmp_lt (pc := 25) C dX10_move_25 (tgt := 29) (by decide) (fun q5 => ?_) (fun q5 => ?_)
      · replace hyp := (if_pos q5).symm.trans hyp
        refine V_aload_n (pc := 29) C dX10_move_29 rfl ?_
        refine V_getR (pc := 30) C dX10_move_30 lf_X10_29 (fkT_5 ho) ?_
        refine V_iload_n (pc := 33) C dX10_move_33 rfl ?_
        obtain ⟨g6, hyp⟩ := gd_n hyp
        refine V_aald (pc := 34) C dX10_move_34 (akT_6 ho) g6 ?_
        refine V_iload_n (pc := 35) C dX10_move_35 rfl ?_
        refine V_aload_n (pc := 36) C dX10_move_36 rfl ?_
        refine V_getR (pc := 37) C dX10_move_37 lf_X10_32 (fkT_10 ho) ?_
        refine V_iload_n (pc := 40) C dX10_move_40 rfl ?_
        refine V_iald (pc := 41) C dX10_move_41 (akT_9 ho) g6 ?_
        refine V_mmin (pc := 42) C dX10_move_42 lm_X10_226 (by decide) (Nat.le_of_ble_eq_true rfl) ?_
        obtain ⟨v7, ev7, hyp⟩ := ib_n hyp
        refine V_topI ev7 ?_
        refine V_dup2 (pc := 45) C dX10_move_45 rfl rfl ?_
        obtain ⟨g8, hyp⟩ := gd_n hyp
        refine V_iald (pc := 46) C dX10_move_46 (akrT_6 ho g6) g8 ?_
        refine V_iconst (pc := 47) C dX10_move_47 (v := 1) (by decide) ?_
        refine V_iadd (pc := 48) C dX10_move_48 ?_
        obtain ⟨h9, eh9, hyp⟩ := hb_n hyp
        refine V_iast (pc := 49) C dX10_move_49 (akrT_6 ho g6) g8 eh9 ?_
        refine V_aload_n (pc := 50) C dX10_move_50 rfl ?_
        refine V_getR (pc := 51) C dX10_move_51 lf_X10_32 (fkT_10 ho) ?_
        refine V_iload_n (pc := 54) C dX10_move_54 rfl ?_
        refine V_iload_n (pc := 55) C dX10_move_55 rfl ?_
        obtain ⟨h10, eh10, hyp⟩ := hb_n hyp
        refine V_iast (pc := 56) C dX10_move_56 (akT_9 ho) g6 eh10 ?_
        cases hyp
        exact V_vret C dX10_move_57
      · replace hyp := (if_neg q5).symm.trans hyp
        cases hyp
        exact V_vret C dX10_move_28
theorem dX10_letOut_0 : decode cX10_letOut 0 = .ok (.iconst 0, 1) := by decide +kernel
theorem dX10_letOut_1 : decode cX10_letOut 1 = .ok (.istore 4, 2) := by decide +kernel
theorem dX10_letOut_3 : decode cX10_letOut 3 = .ok (.iload 4, 2) := by decide +kernel
theorem dX10_letOut_5 : decode cX10_letOut 5 = .ok (.aload_n 0, 1) := by decide +kernel
theorem dX10_letOut_6 : decode cX10_letOut 6 = .ok (.getfield 127, 3) := by decide +kernel
theorem dX10_letOut_9 : decode cX10_letOut 9 = .ok (.if_icmp .ge 26, 3) := by decide +kernel
theorem dX10_letOut_12 : decode cX10_letOut 12 = .ok (.iload_n 2, 1) := by decide +kernel
theorem dX10_letOut_13 : decode cX10_letOut 13 = .ok (.iload 4, 2) := by decide +kernel
theorem dX10_letOut_15 : decode cX10_letOut 15 = .ok (.ishr, 1) := by decide +kernel
theorem dX10_letOut_16 : decode cX10_letOut 16 = .ok (.iconst 1, 1) := by decide +kernel
theorem dX10_letOut_17 : decode cX10_letOut 17 = .ok (.iand, 1) := by decide +kernel
theorem dX10_letOut_18 : decode cX10_letOut 18 = .ok (.ifCond .eq 11, 3) := by decide +kernel
theorem dX10_letOut_21 : decode cX10_letOut 21 = .ok (.aload_n 0, 1) := by decide +kernel
theorem dX10_letOut_22 : decode cX10_letOut 22 = .ok (.getfield 18, 3) := by decide +kernel
theorem dX10_letOut_25 : decode cX10_letOut 25 = .ok (.iload 4, 2) := by decide +kernel
theorem dX10_letOut_27 : decode cX10_letOut 27 = .ok (.iload_n 3, 1) := by decide +kernel
theorem dX10_letOut_28 : decode cX10_letOut 28 = .ok (.iastore, 1) := by decide +kernel
theorem dX10_letOut_29 : decode cX10_letOut 29 = .ok (.iinc 4 1, 3) := by decide +kernel
theorem dX10_letOut_32 : decode cX10_letOut 32 = .ok (.goto (-29), 3) := by decide +kernel
theorem dX10_letOut_35 : decode cX10_letOut 35 = .ok (.aload_n 0, 1) := by decide +kernel
theorem dX10_letOut_36 : decode cX10_letOut 36 = .ok (.getfield 41, 3) := by decide +kernel
theorem dX10_letOut_39 : decode cX10_letOut 39 = .ok (.iload_n 1, 1) := by decide +kernel
theorem dX10_letOut_40 : decode cX10_letOut 40 = .ok (.dup2, 1) := by decide +kernel
theorem dX10_letOut_41 : decode cX10_letOut 41 = .ok (.iaload, 1) := by decide +kernel
theorem dX10_letOut_42 : decode cX10_letOut 42 = .ok (.iload_n 2, 1) := by decide +kernel
theorem dX10_letOut_43 : decode cX10_letOut 43 = .ok (.iconst (-1), 1) := by decide +kernel
theorem dX10_letOut_44 : decode cX10_letOut 44 = .ok (.ixor, 1) := by decide +kernel
theorem dX10_letOut_45 : decode cX10_letOut 45 = .ok (.iand, 1) := by decide +kernel
theorem dX10_letOut_46 : decode cX10_letOut 46 = .ok (.iastore, 1) := by decide +kernel
theorem dX10_letOut_47 : decode cX10_letOut 47 = .ok (.aload_n 0, 1) := by decide +kernel
theorem dX10_letOut_48 : decode cX10_letOut 48 = .ok (.dup, 1) := by decide +kernel
theorem dX10_letOut_49 : decode cX10_letOut 49 = .ok (.getfield 101, 3) := by decide +kernel
theorem dX10_letOut_52 : decode cX10_letOut 52 = .ok (.iload_n 2, 1) := by decide +kernel
theorem dX10_letOut_53 : decode cX10_letOut 53 = .ok (.iconst (-1), 1) := by decide +kernel
theorem dX10_letOut_54 : decode cX10_letOut 54 = .ok (.ixor, 1) := by decide +kernel
theorem dX10_letOut_55 : decode cX10_letOut 55 = .ok (.iand, 1) := by decide +kernel
theorem dX10_letOut_56 : decode cX10_letOut 56 = .ok (.putfield 101, 3) := by decide +kernel
theorem dX10_letOut_59 : decode cX10_letOut 59 = .ok (.return_, 1) := by decide +kernel
def F_X10_letOut_b29 (N : Nat) (o : Nat) (rc3 : Int32 → Int32 → Int32 → Int32 → PH → Option PH) (x1 : Int32) (x2 : Int32) (x3 : Int32) (x4 : Int32) (h : PH) : Option PH :=
  ib (x4 + (1 : Int32)) fun v1 =>
  rc3 x1 x2 x3 v1 h
set_option maxRecDepth 20000 in
set_option maxHeartbeats 4000000 in
theorem T_X10_letOut_b29 {X : CT} (C : CX X 103 cX10_letOut 5 RX10 none 0 0) {h0 : PH} {N : Nat} {o : Nat} (ho : IST o) {rc3 : Int32 → Int32 → Int32 → Int32 → PH → Option PH} (hr3 : ∀ (x1 : Int32) (x2 : Int32) (x3 : Int32) (x4 : Int32) (h : PH), rc3 x1 x2 x3 x4 h = some h0 → V X (QV X h0) h 3 [some (.ref o), some (.int x1), some (.int x2), some (.int x3), some (.int x4)] []) : ∀ (x1 : Int32) (x2 : Int32) (x3 : Int32) (x4 : Int32) (h : PH), F_X10_letOut_b29 N o rc3 x1 x2 x3 x4 h = some h0 → V X (QV X h0) h 29 [some (.ref o), some (.int x1), some (.int x2), some (.int x3), some (.int x4)] [] := by
  intro x1 x2 x3 x4 h hyp
  unfold F_X10_letOut_b29 at hyp
  obtain ⟨v1, ev1, hyp⟩ := ib_n hyp
  refine V_iinc (pc := 29) C dX10_letOut_29 (v := v1) rfl (by rw [ev1]; rfl) (by decide) rfl ?_
  refine V_goto (pc := 32) C dX10_letOut_32 (tgt := 3) (by decide) ?_
  refine V_weak (lv' := [some (.ref o), some (.int x1), some (.int x2), some (.int x3), some (.int v1)]) (lvle_s (lvle_s (lvle_s (lvle_s (lvle_s lvle_0))))) ?_
  exact hr3 x1 x2 x3 v1 h hyp
def F_X10_letOut_b35 (N : Nat) (o : Nat) (x1 : Int32) (x2 : Int32) (h : PH) : Option PH :=
  if inb x1 2 = true then
  hb (hs h (o + 12) x1.toNatClampNeg ((h.1 (o + 12) x1.toNatClampNeg) &&& (x2 ^^^ (-1 : Int32)))) fun h2 =>
  hb (hs h2 o 18 ((h2.1 o 18) &&& (x2 ^^^ (-1 : Int32)))) fun h3 =>
  some h3
  else none
set_option maxRecDepth 20000 in
set_option maxHeartbeats 4000000 in
theorem T_X10_letOut_b35 {X : CT} (C : CX X 103 cX10_letOut 5 RX10 none 0 0) {h0 : PH} {N : Nat} {o : Nat} (ho : IST o) : ∀ (x1 : Int32) (x2 : Int32) (h : PH), F_X10_letOut_b35 N o x1 x2 h = some h0 → V X (QV X h0) h 35 [some (.ref o), some (.int x1), some (.int x2), none, none] [] := by
  intro x1 x2 h hyp
  unfold F_X10_letOut_b35 at hyp
  refine V_aload_n (pc := 35) C dX10_letOut_35 rfl ?_
  refine V_getR (pc := 36) C dX10_letOut_36 lf_X10_41 (fkT_13 ho) ?_
  refine V_iload_n (pc := 39) C dX10_letOut_39 rfl ?_
  refine V_dup2 (pc := 40) C dX10_letOut_40 rfl rfl ?_
  obtain ⟨g1, hyp⟩ := gd_n hyp
  refine V_iald (pc := 41) C dX10_letOut_41 (akT_12 ho) g1 ?_
  refine V_iload_n (pc := 42) C dX10_letOut_42 rfl ?_
  refine V_iconst (pc := 43) C dX10_letOut_43 (v := -1) (by decide) ?_
  refine V_ixor (pc := 44) C dX10_letOut_44 ?_
  refine V_iand (pc := 45) C dX10_letOut_45 ?_
  obtain ⟨h2, eh2, hyp⟩ := hb_n hyp
  refine V_iast (pc := 46) C dX10_letOut_46 (akT_12 ho) g1 eh2 ?_
  refine V_aload_n (pc := 47) C dX10_letOut_47 rfl ?_
  refine V_dup (pc := 48) C dX10_letOut_48 rfl ?_
  refine V_getI (pc := 49) C dX10_letOut_49 lf_X10_101 (fkT_18 ho) ?_
  refine V_iload_n (pc := 52) C dX10_letOut_52 rfl ?_
  refine V_iconst (pc := 53) C dX10_letOut_53 (v := -1) (by decide) ?_
  refine V_ixor (pc := 54) C dX10_letOut_54 ?_
  refine V_iand (pc := 55) C dX10_letOut_55 ?_
  obtain ⟨h3, eh3, hyp⟩ := hb_n hyp
  refine V_putI (pc := 56) C dX10_letOut_56 lf_X10_101 (fkT_18 ho) rfl rfl eh3 ?_
  cases hyp
  exact V_vret C dX10_letOut_59
def F_X10_letOut_b3 (N : Nat) (o : Nat) : Nat → Int32 → Int32 → Int32 → Int32 → PH → Option PH
  | 0, _, _, _, _, _ => none
  | n + 1, x1, x2, x3, x4, h =>
    if (h.1 o 7) ≤ x4 then
      F_X10_letOut_b35 N o x1 x2 h
    else
      if ((x2 >>> (x4 &&& 31)) &&& (1 : Int32)) = 0 then
        F_X10_letOut_b29 N o (F_X10_letOut_b3 N o n) x1 x2 x3 x4 h
      else
        if inb x4 24 = true then
        hb (hs h (o + 3) x4.toNatClampNeg x3) fun h4 =>
        F_X10_letOut_b29 N o (F_X10_letOut_b3 N o n) x1 x2 x3 x4 h4
        else none
set_option maxRecDepth 20000 in
set_option maxHeartbeats 4000000 in
theorem T_X10_letOut_b3 {X : CT} (C : CX X 103 cX10_letOut 5 RX10 none 0 0) {h0 : PH} {N : Nat} {o : Nat} (ho : IST o) : ∀ (n : Nat) (x1 : Int32) (x2 : Int32) (x3 : Int32) (x4 : Int32) (h : PH), F_X10_letOut_b3 N o n x1 x2 x3 x4 h = some h0 → V X (QV X h0) h 3 [some (.ref o), some (.int x1), some (.int x2), some (.int x3), some (.int x4)] [] := by
  intro n
  induction n with
  | zero =>
    intro x1 x2 x3 x4 h hyp
    cases hyp
  | succ n ih =>
    intro x1 x2 x3 x4 h hyp
    unfold F_X10_letOut_b3 at hyp
    refine V_iload (pc := 3) C dX10_letOut_3 rfl ?_
    refine V_aload_n (pc := 5) C dX10_letOut_5 rfl ?_
    refine V_getI (pc := 6) C dX10_letOut_6 lf_X10_127 (fkT_7 ho) ?_
    refine V_icmp_ge (pc := 9) C dX10_letOut_9 (tgt := 35) (by decide) (fun q1 => ?_) (fun q1 => ?_)
    · replace hyp := (if_pos q1).symm.trans hyp
      refine V_weak (lv' := [some (.ref o), some (.int x1), some (.int x2), none, none]) (lvle_s (lvle_s (lvle_s (lvle_n (lvle_n lvle_0))))) ?_
      exact (T_X10_letOut_b35 C ho) x1 x2 h hyp
    · replace hyp := (if_neg q1).symm.trans hyp
      refine V_iload_n (pc := 12) C dX10_letOut_12 rfl ?_
      refine V_iload (pc := 13) C dX10_letOut_13 rfl ?_
      refine V_ishr (pc := 15) C dX10_letOut_15 ?_
      refine V_iconst (pc := 16) C dX10_letOut_16 (v := 1) (by decide) ?_
      refine V_iand (pc := 17) C dX10_letOut_17 ?_
      refine V_if_eq (pc := 18) C dX10_letOut_18 (tgt := 29) (by decide) (fun q2 => ?_) (fun q2 => ?_)
      · replace hyp := (if_pos q2).symm.trans hyp
        refine V_weak (lv' := [some (.ref o), some (.int x1), some (.int x2), some (.int x3), some (.int x4)]) (lvle_s (lvle_s (lvle_s (lvle_s (lvle_s lvle_0))))) ?_
        exact (T_X10_letOut_b29 C ho ih) x1 x2 x3 x4 h hyp
      · replace hyp := (if_neg q2).symm.trans hyp
        refine V_aload_n (pc := 21) C dX10_letOut_21 rfl ?_
        refine V_getR (pc := 22) C dX10_letOut_22 lf_X10_18 (fkT_2 ho) ?_
        refine V_iload (pc := 25) C dX10_letOut_25 rfl ?_
        refine V_iload_n (pc := 27) C dX10_letOut_27 rfl ?_
        obtain ⟨g3, hyp⟩ := gd_n hyp
        obtain ⟨h4, eh4, hyp⟩ := hb_n hyp
        refine V_iast (pc := 28) C dX10_letOut_28 (akT_3 ho) g3 eh4 ?_
        refine V_weak (lv' := [some (.ref o), some (.int x1), some (.int x2), some (.int x3), some (.int x4)]) (lvle_s (lvle_s (lvle_s (lvle_s (lvle_s lvle_0))))) ?_
        exact (T_X10_letOut_b29 C ho ih) x1 x2 x3 x4 h4 hyp
def F_X10_letOut (N : Nat) (o : Nat) (a1 : Int32) (a2 : Int32) (a3 : Int32) (h : PH) : Option PH :=
  F_X10_letOut_b3 N o N a1 a2 a3 (0 : Int32) h
set_option maxRecDepth 20000 in
set_option maxHeartbeats 4000000 in
theorem M_X10_letOut (E : EV) {N : Nat} {o : Nat} {a1 : Int32} {a2 : Int32} {a3 : Int32} (ho : IST o) {h h2 : PH} (hyp : F_X10_letOut N o a1 a2 a3 h = some h2) : MV E 103 yX10_letOut cX10_letOut 5 none 0 0 [.ref o, .int a1, .int a2, .int a3] h h2 := by
  refine MV.of 1 (by decide) rfl (fun X e1 C => ?_)
  subst e1
  replace C : CX X 103 cX10_letOut 5 RX10 none 0 0 := C
  show V X _ h 0 [some (.ref o), some (.int a1), some (.int a2), some (.int a3), none] []
  unfold F_X10_letOut at hyp
  refine V_iconst (pc := 0) C dX10_letOut_0 (v := 0) (by decide) ?_
  refine V_istore (pc := 1) C dX10_letOut_1 (by decide) rfl ?_
  refine V_weak (lv' := [some (.ref o), some (.int a1), some (.int a2), some (.int a3), some (.int (0 : Int32))]) (lvle_s (lvle_s (lvle_s (lvle_s (lvle_s lvle_0))))) ?_
  exact (T_X10_letOut_b3 C ho) N a1 a2 a3 (0 : Int32) h hyp
theorem dX10_flee_0 : decode cX10_flee 0 = .ok (.aload_n 0, 1) := by decide +kernel
theorem dX10_flee_1 : decode cX10_flee 1 = .ok (.getfield 32, 3) := by decide +kernel
theorem dX10_flee_4 : decode cX10_flee 4 = .ok (.iload_n 1, 1) := by decide +kernel
theorem dX10_flee_5 : decode cX10_flee 5 = .ok (.iaload, 1) := by decide +kernel
theorem dX10_flee_6 : decode cX10_flee 6 = .ok (.ifCond .le 12, 3) := by decide +kernel
theorem dX10_flee_9 : decode cX10_flee 9 = .ok (.aload_n 0, 1) := by decide +kernel
theorem dX10_flee_10 : decode cX10_flee 10 = .ok (.iload_n 1, 1) := by decide +kernel
theorem dX10_flee_11 : decode cX10_flee 11 = .ok (.iconst (-1), 1) := by decide +kernel
theorem dX10_flee_12 : decode cX10_flee 12 = .ok (.invokevirtual 201, 3) := by decide +kernel
theorem dX10_flee_15 : decode cX10_flee 15 = .ok (.goto 15, 3) := by decide +kernel
theorem dX10_flee_18 : decode cX10_flee 18 = .ok (.aload_n 0, 1) := by decide +kernel
theorem dX10_flee_19 : decode cX10_flee 19 = .ok (.iload_n 1, 1) := by decide +kernel
theorem dX10_flee_20 : decode cX10_flee 20 = .ok (.aload_n 0, 1) := by decide +kernel
theorem dX10_flee_21 : decode cX10_flee 21 = .ok (.getfield 41, 3) := by decide +kernel
theorem dX10_flee_24 : decode cX10_flee 24 = .ok (.iload_n 1, 1) := by decide +kernel
theorem dX10_flee_25 : decode cX10_flee 25 = .ok (.iaload, 1) := by decide +kernel
theorem dX10_flee_26 : decode cX10_flee 26 = .ok (.iload_n 2, 1) := by decide +kernel
theorem dX10_flee_27 : decode cX10_flee 27 = .ok (.invokevirtual 204, 3) := by decide +kernel
theorem dX10_flee_30 : decode cX10_flee 30 = .ok (.return_, 1) := by decide +kernel
def F_X10_flee (N : Nat) (o : Nat) (a1 : Int32) (a2 : Int32) (h : PH) : Option PH :=
  if inb a1 2 = true then
  if (h.1 (o + 9) a1.toNatClampNeg) ≤ 0 then
    if inb a1 2 = true then
    bV (F_X10_letOut N o a1 (h.1 (o + 12) a1.toNatClampNeg) a2 h) fun h5 =>
    some h5
    else none
  else
    bV (F_X10_move o a1 (-1 : Int32) h) fun h7 =>
    some h7
  else none
set_option maxRecDepth 20000 in
set_option maxHeartbeats 4000000 in
theorem M_X10_flee (E : EV) {N : Nat} {o : Nat} {a1 : Int32} {a2 : Int32} (ho : IST o) {h h2 : PH} (hyp : F_X10_flee N o a1 a2 h = some h2) : MV E 103 yX10_flee cX10_flee 3 none 2 44 [.ref o, .int a1, .int a2] h h2 := by
  refine MV.of 0 (by decide) rfl (fun X e1 C => ?_)
  subst e1
  replace C : CX X 103 cX10_flee 3 RX10 none 2 44 := C
  show V X _ h 0 [some (.ref o), some (.int a1), some (.int a2)] []
  unfold F_X10_flee at hyp
  refine V_aload_n (pc := 0) C dX10_flee_0 rfl ?_
  refine V_getR (pc := 1) C dX10_flee_1 lf_X10_32 (fkT_10 ho) ?_
  refine V_iload_n (pc := 4) C dX10_flee_4 rfl ?_
  obtain ⟨g1, hyp⟩ := gd_n hyp
  refine V_iald (pc := 5) C dX10_flee_5 (akT_9 ho) g1 ?_
  refine V_if_le (pc := 6) C dX10_flee_6 (tgt := 18) (by decide) (fun q2 => ?_) (fun q2 => ?_)
  · replace hyp := (if_pos q2).symm.trans hyp
    refine V_aload_n (pc := 18) C dX10_flee_18 rfl ?_
    refine V_iload_n (pc := 19) C dX10_flee_19 rfl ?_
    refine V_aload_n (pc := 20) C dX10_flee_20 rfl ?_
    refine V_getR (pc := 21) C dX10_flee_21 lf_X10_41 (fkT_13 ho) ?_
    refine V_iload_n (pc := 24) C dX10_flee_24 rfl ?_
    obtain ⟨g3, hyp⟩ := gd_n hyp
    refine V_iald (pc := 25) C dX10_flee_25 (akT_12 ho) g3 ?_
    refine V_iload_n (pc := 26) C dX10_flee_26 rfl ?_
    obtain ⟨h5, eh5, hyp⟩ := bV_n hyp
    refine V_callV (pc := 27) C dX10_flee_27 lm_X10_204 mk_X10_letOut (okT ho) rfl (M_X10_letOut _ ho eh5) rfl pd_X10_letOut (by decide) (by decide) (by decide) (As := [.int a1, .int (h.1 (o + 12) a1.toNatClampNeg), .int a2]) (rest := []) rfl (Nat.le_of_ble_eq_true rfl) ?_
    cases hyp
    exact V_vret C dX10_flee_30
  · replace hyp := (if_neg q2).symm.trans hyp
    refine V_aload_n (pc := 9) C dX10_flee_9 rfl ?_
    refine V_iload_n (pc := 10) C dX10_flee_10 rfl ?_
    refine V_iconst (pc := 11) C dX10_flee_11 (v := -1) (by decide) ?_
    obtain ⟨h7, eh7, hyp⟩ := bV_n hyp
    refine V_callV (pc := 12) C dX10_flee_12 lm_X10_201 mk_X10_move (okT ho) rfl (M_X10_move _ ho eh7) rfl pd_X10_move (by decide) (by decide) (by decide) (As := [.int a1, .int (-1 : Int32)]) (rest := []) rfl (Nat.le_of_ble_eq_true rfl) ?_
    refine V_goto (pc := 15) C dX10_flee_15 (tgt := 30) (by decide) ?_
    cases hyp
    exact V_vret C dX10_flee_30
