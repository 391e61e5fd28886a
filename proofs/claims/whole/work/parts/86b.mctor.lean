/-! the reference's constructor (printed by wip/whole/gen2/ctors.py) -/
set_option maxHeartbeats 4000000 in
set_option maxRecDepth 20000 in
theorem K_X12_103 {E : EB} {h : PH} (hz : ∀ k, 104 ≤ k → k ≤ 152 → Zr k h) : MB noX E yX12_init cX12_init 1 1 12 49 61927 [.ref 103] [103] [103, 104, 105, 106, 107, 108, 109, 110, 111, 112, 113, 114, 115, 116, 117, 118, 119, 120, 121, 122, 123, 124, 125, 126, 127, 128, 129, 130, 131, 132, 133, 134, 135, 136, 137, 138, 139, 140, 141, 142, 143, 144, 145, 146, 147, 148, 149, 150, 151, 152] [(103, 78), (103, 77), (103, 76), (103, 73), (103, 72), (103, 71), (103, 70), (103, 69), (103, 68), (103, 67), (103, 66), (103, 64), (103, 63), (103, 62), (103, 60), (103, 59), (103, 58), (103, 52), (103, 51), (103, 49), (103, 48), (103, 47), (103, 45), (103, 44), (103, 43), (103, 42), (103, 41), (103, 40), (103, 39), (103, 32), (103, 31), (103, 30), (103, 29), (103, 28), (103, 27), (103, 26), (103, 25), (103, 24), (103, 23), (103, 22), (103, 21), (103, 17), (103, 16), (103, 15), (103, 14), (103, 13), (103, 12), (103, 11), (103, 3)] h (hs (hs (hs (hs (hs (hs (hs (h) 103 1 (4)) 103 53 (1)) 103 54 (4)) 103 55 (1)) 103 65 (-1)) 103 80 (1000)) 103 81 (1)) := by
  refine MB.of 0 (by decide) rfl rfl (fun X e1 C nB hex => ?_)
  subst e1
  replace C : CB X cX12_init 1 RX12 1 12 49 61927 := C
  show VB X _ _ [103] [] h 0 0 0 [some (.ref 103)] []
  refine B_aload_n (pc := 0) C dX12_init_0 rfl ?_
  refine B_objInit (pc := 1) C dX12_init_1 lo_X12 wo_i wo_c (by omega) (by decide) ?_
  refine B_aload_n (pc := 4) C dX12_init_4 rfl ?_
  refine B_iconst (pc := 5) (v := (4)) C dX12_init_5 (by decide) ?_
  refine B_putI (pc := 6) C dX12_init_6 lf_X12_7 fk_103_1 (by decide) rfl rfl ?_
  refine B_aload_n (pc := 9) C dX12_init_9 rfl ?_
  refine B_sipush (pc := 10) (v := (1000)) C dX12_init_10 (by decide) ?_
  refine B_newa (pc := 13) (n := 104) (t := 0) (N := 1000) C dX12_init_13 rfl (by omega) wa_0 sh_104 (by decide) (by decide) (by omega) (by decide +kernel) (zr_s (by omega) (hz 104 (by omega) (by omega))) (by decide +kernel) rfl (by omega) (by omega) ?_
  show VB X _ _ [103, 104] [] (hs (h) 103 1 (4)) 1 1000 15 [some (.ref 103)] [.ref 104, .ref 103]
  refine B_putR (pc := 15) C dX12_init_15 lf_X12_13 fk_103_3 (by decide) (fun _ => ⟨nB, rfl⟩) rfl ?_
  refine B_aload_n (pc := 18) C dX12_init_18 rfl ?_
  refine B_bipush (pc := 19) (v := (26)) C dX12_init_19 (by decide) ?_
  refine B_newa (pc := 21) (n := 105) (t := 2) (N := 26) C dX12_init_21 rfl (by omega) wa_2 sh_105 (by decide) (by decide) (by omega) (by decide +kernel) (zr_s (by omega) (hz 105 (by omega) (by omega))) (by decide +kernel) rfl (by omega) (by omega) ?_
  show VB X _ _ [103, 104, 105] [(103, 3)] (hs (h) 103 1 (4)) 2 1026 23 [some (.ref 103)] [.ref 105, .ref 103]
  refine B_putR (pc := 23) C dX12_init_23 lf_X12_17 fk_103_11 (by decide) (fun _ => ⟨nB, rfl⟩) rfl ?_
  refine B_aload_n (pc := 26) C dX12_init_26 rfl ?_
  refine B_bipush (pc := 27) (v := (26)) C dX12_init_27 (by decide) ?_
  refine B_newa (pc := 29) (n := 106) (t := 0) (N := 26) C dX12_init_29 rfl (by omega) wa_0 sh_106 (by decide) (by decide) (by omega) (by decide +kernel) (zr_s (by omega) (hz 106 (by omega) (by omega))) (by decide +kernel) rfl (by omega) (by omega) ?_
  show VB X _ _ [103, 104, 105, 106] [(103, 11), (103, 3)] (hs (h) 103 1 (4)) 3 1052 31 [some (.ref 103)] [.ref 106, .ref 103]
  refine B_putR (pc := 31) C dX12_init_31 lf_X12_21 fk_103_12 (by decide) (fun _ => ⟨nB, rfl⟩) rfl ?_
  refine B_aload_n (pc := 34) C dX12_init_34 rfl ?_
  refine B_bipush (pc := 35) (v := (26)) C dX12_init_35 (by decide) ?_
  refine B_newa (pc := 37) (n := 107) (t := 0) (N := 26) C dX12_init_37 rfl (by omega) wa_0 sh_107 (by decide) (by decide) (by omega) (by decide +kernel) (zr_s (by omega) (hz 107 (by omega) (by omega))) (by decide +kernel) rfl (by omega) (by omega) ?_
  show VB X _ _ [103, 104, 105, 106, 107] [(103, 12), (103, 11), (103, 3)] (hs (h) 103 1 (4)) 4 1078 39 [some (.ref 103)] [.ref 107, .ref 103]
  refine B_putR (pc := 39) C dX12_init_39 lf_X12_24 fk_103_13 (by decide) (fun _ => ⟨nB, rfl⟩) rfl ?_
  refine B_aload_n (pc := 42) C dX12_init_42 rfl ?_
  refine B_bipush (pc := 43) (v := (26)) C dX12_init_43 (by decide) ?_
  refine B_newa (pc := 45) (n := 108) (t := 2) (N := 26) C dX12_init_45 rfl (by omega) wa_2 sh_108 (by decide) (by decide) (by omega) (by decide +kernel) (zr_s (by omega) (hz 108 (by omega) (by omega))) (by decide +kernel) rfl (by omega) (by omega) ?_
  show VB X _ _ [103, 104, 105, 106, 107, 108] [(103, 13), (103, 12), (103, 11), (103, 3)] (hs (h) 103 1 (4)) 5 1104 47 [some (.ref 103)] [.ref 108, .ref 103]
  refine B_putR (pc := 47) C dX12_init_47 lf_X12_27 fk_103_14 (by decide) (fun _ => ⟨nB, rfl⟩) rfl ?_
  refine B_aload_n (pc := 50) C dX12_init_50 rfl ?_
  refine B_bipush (pc := 51) (v := (26)) C dX12_init_51 (by decide) ?_
  refine B_newa (pc := 53) (n := 109) (t := 0) (N := 26) C dX12_init_53 rfl (by omega) wa_0 sh_109 (by decide) (by decide) (by omega) (by decide +kernel) (zr_s (by omega) (hz 109 (by omega) (by omega))) (by decide +kernel) rfl (by omega) (by omega) ?_
  show VB X _ _ [103, 104, 105, 106, 107, 108, 109] [(103, 14), (103, 13), (103, 12), (103, 11), (103, 3)] (hs (h) 103 1 (4)) 6 1130 55 [some (.ref 103)] [.ref 109, .ref 103]
  refine B_putR (pc := 55) C dX12_init_55 lf_X12_30 fk_103_15 (by decide) (fun _ => ⟨nB, rfl⟩) rfl ?_
  refine B_aload_n (pc := 58) C dX12_init_58 rfl ?_
  refine B_bipush (pc := 59) (v := (26)) C dX12_init_59 (by decide) ?_
  refine B_newa (pc := 61) (n := 110) (t := 0) (N := 26) C dX12_init_61 rfl (by omega) wa_0 sh_110 (by decide) (by decide) (by omega) (by decide +kernel) (zr_s (by omega) (hz 110 (by omega) (by omega))) (by decide +kernel) rfl (by omega) (by omega) ?_
  show VB X _ _ [103, 104, 105, 106, 107, 108, 109, 110] [(103, 15), (103, 14), (103, 13), (103, 12), (103, 11), (103, 3)] (hs (h) 103 1 (4)) 7 1156 63 [some (.ref 103)] [.ref 110, .ref 103]
  refine B_putR (pc := 63) C dX12_init_63 lf_X12_33 fk_103_16 (by decide) (fun _ => ⟨nB, rfl⟩) rfl ?_
  refine B_aload_n (pc := 66) C dX12_init_66 rfl ?_
  refine B_sipush (pc := 67) (v := (4000)) C dX12_init_67 (by decide) ?_
  refine B_newa (pc := 70) (n := 111) (t := 0) (N := 4000) C dX12_init_70 rfl (by omega) wa_0 sh_111 (by decide) (by decide) (by omega) (by decide +kernel) (zr_s (by omega) (hz 111 (by omega) (by omega))) (by decide +kernel) rfl (by omega) (by omega) ?_
  show VB X _ _ [103, 104, 105, 106, 107, 108, 109, 110, 111] [(103, 16), (103, 15), (103, 14), (103, 13), (103, 12), (103, 11), (103, 3)] (hs (h) 103 1 (4)) 8 5156 72 [some (.ref 103)] [.ref 111, .ref 103]
  refine B_putR (pc := 72) C dX12_init_72 lf_X12_36 fk_103_17 (by decide) (fun _ => ⟨nB, rfl⟩) rfl ?_
  refine B_aload_n (pc := 75) C dX12_init_75 rfl ?_
  refine B_bipush (pc := 76) (v := (7)) C dX12_init_76 (by decide) ?_
  refine B_newa (pc := 78) (n := 112) (t := 0) (N := 7) C dX12_init_78 rfl (by omega) wa_0 sh_112 (by decide) (by decide) (by omega) (by decide +kernel) (zr_s (by omega) (hz 112 (by omega) (by omega))) (by decide +kernel) rfl (by omega) (by omega) ?_
  show VB X _ _ [103, 104, 105, 106, 107, 108, 109, 110, 111, 112] [(103, 17), (103, 16), (103, 15), (103, 14), (103, 13), (103, 12), (103, 11), (103, 3)] (hs (h) 103 1 (4)) 9 5163 80 [some (.ref 103)] [.ref 112, .ref 103]
  refine B_putR (pc := 80) C dX12_init_80 lf_X12_39 fk_103_21 (by decide) (fun _ => ⟨nB, rfl⟩) rfl ?_
  refine B_aload_n (pc := 83) C dX12_init_83 rfl ?_
  refine B_bipush (pc := 84) (v := (7)) C dX12_init_84 (by decide) ?_
  refine B_newa (pc := 86) (n := 113) (t := 2) (N := 7) C dX12_init_86 rfl (by omega) wa_2 sh_113 (by decide) (by decide) (by omega) (by decide +kernel) (zr_s (by omega) (hz 113 (by omega) (by omega))) (by decide +kernel) rfl (by omega) (by omega) ?_
  show VB X _ _ [103, 104, 105, 106, 107, 108, 109, 110, 111, 112, 113] [(103, 21), (103, 17), (103, 16), (103, 15), (103, 14), (103, 13), (103, 12), (103, 11), (103, 3)] (hs (h) 103 1 (4)) 10 5170 88 [some (.ref 103)] [.ref 113, .ref 103]
  refine B_putR (pc := 88) C dX12_init_88 lf_X12_42 fk_103_22 (by decide) (fun _ => ⟨nB, rfl⟩) rfl ?_
  refine B_aload_n (pc := 91) C dX12_init_91 rfl ?_
  refine B_bipush (pc := 92) (v := (7)) C dX12_init_92 (by decide) ?_
  refine B_newa (pc := 94) (n := 114) (t := 0) (N := 7) C dX12_init_94 rfl (by omega) wa_0 sh_114 (by decide) (by decide) (by omega) (by decide +kernel) (zr_s (by omega) (hz 114 (by omega) (by omega))) (by decide +kernel) rfl (by omega) (by omega) ?_
  show VB X _ _ [103, 104, 105, 106, 107, 108, 109, 110, 111, 112, 113, 114] [(103, 22), (103, 21), (103, 17), (103, 16), (103, 15), (103, 14), (103, 13), (103, 12), (103, 11), (103, 3)] (hs (h) 103 1 (4)) 11 5177 96 [some (.ref 103)] [.ref 114, .ref 103]
  refine B_putR (pc := 96) C dX12_init_96 lf_X12_45 fk_103_23 (by decide) (fun _ => ⟨nB, rfl⟩) rfl ?_
  refine B_aload_n (pc := 99) C dX12_init_99 rfl ?_
  refine B_bipush (pc := 100) (v := (7)) C dX12_init_100 (by decide) ?_
  refine B_newa (pc := 102) (n := 115) (t := 0) (N := 7) C dX12_init_102 rfl (by omega) wa_0 sh_115 (by decide) (by decide) (by omega) (by decide +kernel) (zr_s (by omega) (hz 115 (by omega) (by omega))) (by decide +kernel) rfl (by omega) (by omega) ?_
  show VB X _ _ [103, 104, 105, 106, 107, 108, 109, 110, 111, 112, 113, 114, 115] [(103, 23), (103, 22), (103, 21), (103, 17), (103, 16), (103, 15), (103, 14), (103, 13), (103, 12), (103, 11), (103, 3)] (hs (h) 103 1 (4)) 12 5184 104 [some (.ref 103)] [.ref 115, .ref 103]
  refine B_putR (pc := 104) C dX12_init_104 lf_X12_48 fk_103_24 (by decide) (fun _ => ⟨nB, rfl⟩) rfl ?_
  refine B_aload_n (pc := 107) C dX12_init_107 rfl ?_
  refine B_bipush (pc := 108) (v := (7)) C dX12_init_108 (by decide) ?_
  refine B_newa (pc := 110) (n := 116) (t := 0) (N := 7) C dX12_init_110 rfl (by omega) wa_0 sh_116 (by decide) (by decide) (by omega) (by decide +kernel) (zr_s (by omega) (hz 116 (by omega) (by omega))) (by decide +kernel) rfl (by omega) (by omega) ?_
  show VB X _ _ [103, 104, 105, 106, 107, 108, 109, 110, 111, 112, 113, 114, 115, 116] [(103, 24), (103, 23), (103, 22), (103, 21), (103, 17), (103, 16), (103, 15), (103, 14), (103, 13), (103, 12), (103, 11), (103, 3)] (hs (h) 103 1 (4)) 13 5191 112 [some (.ref 103)] [.ref 116, .ref 103]
  refine B_putR (pc := 112) C dX12_init_112 lf_X12_51 fk_103_25 (by decide) (fun _ => ⟨nB, rfl⟩) rfl ?_
  refine B_aload_n (pc := 115) C dX12_init_115 rfl ?_
  refine B_bipush (pc := 116) (v := (7)) C dX12_init_116 (by decide) ?_
  refine B_newa (pc := 118) (n := 117) (t := 0) (N := 7) C dX12_init_118 rfl (by omega) wa_0 sh_117 (by decide) (by decide) (by omega) (by decide +kernel) (zr_s (by omega) (hz 117 (by omega) (by omega))) (by decide +kernel) rfl (by omega) (by omega) ?_
  show VB X _ _ [103, 104, 105, 106, 107, 108, 109, 110, 111, 112, 113, 114, 115, 116, 117] [(103, 25), (103, 24), (103, 23), (103, 22), (103, 21), (103, 17), (103, 16), (103, 15), (103, 14), (103, 13), (103, 12), (103, 11), (103, 3)] (hs (h) 103 1 (4)) 14 5198 120 [some (.ref 103)] [.ref 117, .ref 103]
  refine B_putR (pc := 120) C dX12_init_120 lf_X12_54 fk_103_26 (by decide) (fun _ => ⟨nB, rfl⟩) rfl ?_
  refine B_aload_n (pc := 123) C dX12_init_123 rfl ?_
  refine B_bipush (pc := 124) (v := (7)) C dX12_init_124 (by decide) ?_
  refine B_newa (pc := 126) (n := 118) (t := 0) (N := 7) C dX12_init_126 rfl (by omega) wa_0 sh_118 (by decide) (by decide) (by omega) (by decide +kernel) (zr_s (by omega) (hz 118 (by omega) (by omega))) (by decide +kernel) rfl (by omega) (by omega) ?_
  show VB X _ _ [103, 104, 105, 106, 107, 108, 109, 110, 111, 112, 113, 114, 115, 116, 117, 118] [(103, 26), (103, 25), (103, 24), (103, 23), (103, 22), (103, 21), (103, 17), (103, 16), (103, 15), (103, 14), (103, 13), (103, 12), (103, 11), (103, 3)] (hs (h) 103 1 (4)) 15 5205 128 [some (.ref 103)] [.ref 118, .ref 103]
  refine B_putR (pc := 128) C dX12_init_128 lf_X12_57 fk_103_27 (by decide) (fun _ => ⟨nB, rfl⟩) rfl ?_
  refine B_aload_n (pc := 131) C dX12_init_131 rfl ?_
  refine B_bipush (pc := 132) (v := (7)) C dX12_init_132 (by decide) ?_
  refine B_newa (pc := 134) (n := 119) (t := 0) (N := 7) C dX12_init_134 rfl (by omega) wa_0 sh_119 (by decide) (by decide) (by omega) (by decide +kernel) (zr_s (by omega) (hz 119 (by omega) (by omega))) (by decide +kernel) rfl (by omega) (by omega) ?_
  show VB X _ _ [103, 104, 105, 106, 107, 108, 109, 110, 111, 112, 113, 114, 115, 116, 117, 118, 119] [(103, 27), (103, 26), (103, 25), (103, 24), (103, 23), (103, 22), (103, 21), (103, 17), (103, 16), (103, 15), (103, 14), (103, 13), (103, 12), (103, 11), (103, 3)] (hs (h) 103 1 (4)) 16 5212 136 [some (.ref 103)] [.ref 119, .ref 103]
  refine B_putR (pc := 136) C dX12_init_136 lf_X12_60 fk_103_28 (by decide) (fun _ => ⟨nB, rfl⟩) rfl ?_
  refine B_aload_n (pc := 139) C dX12_init_139 rfl ?_
  refine B_bipush (pc := 140) (v := (7)) C dX12_init_140 (by decide) ?_
  refine B_newa (pc := 142) (n := 120) (t := 0) (N := 7) C dX12_init_142 rfl (by omega) wa_0 sh_120 (by decide) (by decide) (by omega) (by decide +kernel) (zr_s (by omega) (hz 120 (by omega) (by omega))) (by decide +kernel) rfl (by omega) (by omega) ?_
  show VB X _ _ [103, 104, 105, 106, 107, 108, 109, 110, 111, 112, 113, 114, 115, 116, 117, 118, 119, 120] [(103, 28), (103, 27), (103, 26), (103, 25), (103, 24), (103, 23), (103, 22), (103, 21), (103, 17), (103, 16), (103, 15), (103, 14), (103, 13), (103, 12), (103, 11), (103, 3)] (hs (h) 103 1 (4)) 17 5219 144 [some (.ref 103)] [.ref 120, .ref 103]
  refine B_putR (pc := 144) C dX12_init_144 lf_X12_63 fk_103_29 (by decide) (fun _ => ⟨nB, rfl⟩) rfl ?_
  refine B_aload_n (pc := 147) C dX12_init_147 rfl ?_
  refine B_bipush (pc := 148) (v := (7)) C dX12_init_148 (by decide) ?_
  refine B_newa (pc := 150) (n := 121) (t := 0) (N := 7) C dX12_init_150 rfl (by omega) wa_0 sh_121 (by decide) (by decide) (by omega) (by decide +kernel) (zr_s (by omega) (hz 121 (by omega) (by omega))) (by decide +kernel) rfl (by omega) (by omega) ?_
  show VB X _ _ [103, 104, 105, 106, 107, 108, 109, 110, 111, 112, 113, 114, 115, 116, 117, 118, 119, 120, 121] [(103, 29), (103, 28), (103, 27), (103, 26), (103, 25), (103, 24), (103, 23), (103, 22), (103, 21), (103, 17), (103, 16), (103, 15), (103, 14), (103, 13), (103, 12), (103, 11), (103, 3)] (hs (h) 103 1 (4)) 18 5226 152 [some (.ref 103)] [.ref 121, .ref 103]
  refine B_putR (pc := 152) C dX12_init_152 lf_X12_66 fk_103_30 (by decide) (fun _ => ⟨nB, rfl⟩) rfl ?_
  refine B_aload_n (pc := 155) C dX12_init_155 rfl ?_
  refine B_bipush (pc := 156) (v := (7)) C dX12_init_156 (by decide) ?_
  refine B_newa (pc := 158) (n := 122) (t := 0) (N := 7) C dX12_init_158 rfl (by omega) wa_0 sh_122 (by decide) (by decide) (by omega) (by decide +kernel) (zr_s (by omega) (hz 122 (by omega) (by omega))) (by decide +kernel) rfl (by omega) (by omega) ?_
  show VB X _ _ [103, 104, 105, 106, 107, 108, 109, 110, 111, 112, 113, 114, 115, 116, 117, 118, 119, 120, 121, 122] [(103, 30), (103, 29), (103, 28), (103, 27), (103, 26), (103, 25), (103, 24), (103, 23), (103, 22), (103, 21), (103, 17), (103, 16), (103, 15), (103, 14), (103, 13), (103, 12), (103, 11), (103, 3)] (hs (h) 103 1 (4)) 19 5233 160 [some (.ref 103)] [.ref 122, .ref 103]
  refine B_putR (pc := 160) C dX12_init_160 lf_X12_69 fk_103_31 (by decide) (fun _ => ⟨nB, rfl⟩) rfl ?_
  refine B_aload_n (pc := 163) C dX12_init_163 rfl ?_
  refine B_bipush (pc := 164) (v := (60)) C dX12_init_164 (by decide) ?_
  refine B_newa (pc := 166) (n := 123) (t := 0) (N := 60) C dX12_init_166 rfl (by omega) wa_0 sh_123 (by decide) (by decide) (by omega) (by decide +kernel) (zr_s (by omega) (hz 123 (by omega) (by omega))) (by decide +kernel) rfl (by omega) (by omega) ?_
  show VB X _ _ [103, 104, 105, 106, 107, 108, 109, 110, 111, 112, 113, 114, 115, 116, 117, 118, 119, 120, 121, 122, 123] [(103, 31), (103, 30), (103, 29), (103, 28), (103, 27), (103, 26), (103, 25), (103, 24), (103, 23), (103, 22), (103, 21), (103, 17), (103, 16), (103, 15), (103, 14), (103, 13), (103, 12), (103, 11), (103, 3)] (hs (h) 103 1 (4)) 20 5293 168 [some (.ref 103)] [.ref 123, .ref 103]
  refine B_putR (pc := 168) C dX12_init_168 lf_X12_72 fk_103_32 (by decide) (fun _ => ⟨nB, rfl⟩) rfl ?_
  refine B_aload_n (pc := 171) C dX12_init_171 rfl ?_
  refine B_sipush (pc := 172) (v := (3072)) C dX12_init_172 (by decide) ?_
  refine B_newa (pc := 175) (n := 124) (t := 0) (N := 3072) C dX12_init_175 rfl (by omega) wa_0 sh_124 (by decide) (by decide) (by omega) (by decide +kernel) (zr_s (by omega) (hz 124 (by omega) (by omega))) (by decide +kernel) rfl (by omega) (by omega) ?_
  show VB X _ _ [103, 104, 105, 106, 107, 108, 109, 110, 111, 112, 113, 114, 115, 116, 117, 118, 119, 120, 121, 122, 123, 124] [(103, 32), (103, 31), (103, 30), (103, 29), (103, 28), (103, 27), (103, 26), (103, 25), (103, 24), (103, 23), (103, 22), (103, 21), (103, 17), (103, 16), (103, 15), (103, 14), (103, 13), (103, 12), (103, 11), (103, 3)] (hs (h) 103 1 (4)) 21 8365 177 [some (.ref 103)] [.ref 124, .ref 103]
  refine B_putR (pc := 177) C dX12_init_177 lf_X12_75 fk_103_39 (by decide) (fun _ => ⟨nB, rfl⟩) rfl ?_
  refine B_aload_n (pc := 180) C dX12_init_180 rfl ?_
  refine B_sipush (pc := 181) (v := (3072)) C dX12_init_181 (by decide) ?_
  refine B_newa (pc := 184) (n := 125) (t := 0) (N := 3072) C dX12_init_184 rfl (by omega) wa_0 sh_125 (by decide) (by decide) (by omega) (by decide +kernel) (zr_s (by omega) (hz 125 (by omega) (by omega))) (by decide +kernel) rfl (by omega) (by omega) ?_
  show VB X _ _ [103, 104, 105, 106, 107, 108, 109, 110, 111, 112, 113, 114, 115, 116, 117, 118, 119, 120, 121, 122, 123, 124, 125] [(103, 39), (103, 32), (103, 31), (103, 30), (103, 29), (103, 28), (103, 27), (103, 26), (103, 25), (103, 24), (103, 23), (103, 22), (103, 21), (103, 17), (103, 16), (103, 15), (103, 14), (103, 13), (103, 12), (103, 11), (103, 3)] (hs (h) 103 1 (4)) 22 11437 186 [some (.ref 103)] [.ref 125, .ref 103]
  refine B_putR (pc := 186) C dX12_init_186 lf_X12_78 fk_103_40 (by decide) (fun _ => ⟨nB, rfl⟩) rfl ?_
  refine B_aload_n (pc := 189) C dX12_init_189 rfl ?_
  refine B_sipush (pc := 190) (v := (3072)) C dX12_init_190 (by decide) ?_
  refine B_newa (pc := 193) (n := 126) (t := 0) (N := 3072) C dX12_init_193 rfl (by omega) wa_0 sh_126 (by decide) (by decide) (by omega) (by decide +kernel) (zr_s (by omega) (hz 126 (by omega) (by omega))) (by decide +kernel) rfl (by omega) (by omega) ?_
  show VB X _ _ [103, 104, 105, 106, 107, 108, 109, 110, 111, 112, 113, 114, 115, 116, 117, 118, 119, 120, 121, 122, 123, 124, 125, 126] [(103, 40), (103, 39), (103, 32), (103, 31), (103, 30), (103, 29), (103, 28), (103, 27), (103, 26), (103, 25), (103, 24), (103, 23), (103, 22), (103, 21), (103, 17), (103, 16), (103, 15), (103, 14), (103, 13), (103, 12), (103, 11), (103, 3)] (hs (h) 103 1 (4)) 23 14509 195 [some (.ref 103)] [.ref 126, .ref 103]
  refine B_putR (pc := 195) C dX12_init_195 lf_X12_81 fk_103_41 (by decide) (fun _ => ⟨nB, rfl⟩) rfl ?_
  refine B_aload_n (pc := 198) C dX12_init_198 rfl ?_
  refine B_sipush (pc := 199) (v := (3072)) C dX12_init_199 (by decide) ?_
  refine B_newa (pc := 202) (n := 127) (t := 0) (N := 3072) C dX12_init_202 rfl (by omega) wa_0 sh_127 (by decide) (by decide) (by omega) (by decide +kernel) (zr_s (by omega) (hz 127 (by omega) (by omega))) (by decide +kernel) rfl (by omega) (by omega) ?_
  show VB X _ _ [103, 104, 105, 106, 107, 108, 109, 110, 111, 112, 113, 114, 115, 116, 117, 118, 119, 120, 121, 122, 123, 124, 125, 126, 127] [(103, 41), (103, 40), (103, 39), (103, 32), (103, 31), (103, 30), (103, 29), (103, 28), (103, 27), (103, 26), (103, 25), (103, 24), (103, 23), (103, 22), (103, 21), (103, 17), (103, 16), (103, 15), (103, 14), (103, 13), (103, 12), (103, 11), (103, 3)] (hs (h) 103 1 (4)) 24 17581 204 [some (.ref 103)] [.ref 127, .ref 103]
  refine B_putR (pc := 204) C dX12_init_204 lf_X12_84 fk_103_42 (by decide) (fun _ => ⟨nB, rfl⟩) rfl ?_
  refine B_aload_n (pc := 207) C dX12_init_207 rfl ?_
  refine B_sipush (pc := 208) (v := (3072)) C dX12_init_208 (by decide) ?_
  refine B_newa (pc := 211) (n := 128) (t := 2) (N := 3072) C dX12_init_211 rfl (by omega) wa_2 sh_128 (by decide) (by decide) (by omega) (by decide +kernel) (zr_s (by omega) (hz 128 (by omega) (by omega))) (by decide +kernel) rfl (by omega) (by omega) ?_
  show VB X _ _ [103, 104, 105, 106, 107, 108, 109, 110, 111, 112, 113, 114, 115, 116, 117, 118, 119, 120, 121, 122, 123, 124, 125, 126, 127, 128] [(103, 42), (103, 41), (103, 40), (103, 39), (103, 32), (103, 31), (103, 30), (103, 29), (103, 28), (103, 27), (103, 26), (103, 25), (103, 24), (103, 23), (103, 22), (103, 21), (103, 17), (103, 16), (103, 15), (103, 14), (103, 13), (103, 12), (103, 11), (103, 3)] (hs (h) 103 1 (4)) 25 20653 213 [some (.ref 103)] [.ref 128, .ref 103]
  refine B_putR (pc := 213) C dX12_init_213 lf_X12_87 fk_103_43 (by decide) (fun _ => ⟨nB, rfl⟩) rfl ?_
  refine B_aload_n (pc := 216) C dX12_init_216 rfl ?_
  refine B_sipush (pc := 217) (v := (21504)) C dX12_init_217 (by decide) ?_
  refine B_newa (pc := 220) (n := 129) (t := 0) (N := 21504) C dX12_init_220 rfl (by omega) wa_0 sh_129 (by decide) (by decide) (by omega) (by decide +kernel) (zr_s (by omega) (hz 129 (by omega) (by omega))) (by decide +kernel) rfl (by omega) (by omega) ?_
  show VB X _ _ [103, 104, 105, 106, 107, 108, 109, 110, 111, 112, 113, 114, 115, 116, 117, 118, 119, 120, 121, 122, 123, 124, 125, 126, 127, 128, 129] [(103, 43), (103, 42), (103, 41), (103, 40), (103, 39), (103, 32), (103, 31), (103, 30), (103, 29), (103, 28), (103, 27), (103, 26), (103, 25), (103, 24), (103, 23), (103, 22), (103, 21), (103, 17), (103, 16), (103, 15), (103, 14), (103, 13), (103, 12), (103, 11), (103, 3)] (hs (h) 103 1 (4)) 26 42157 222 [some (.ref 103)] [.ref 129, .ref 103]
  refine B_putR (pc := 222) C dX12_init_222 lf_X12_90 fk_103_44 (by decide) (fun _ => ⟨nB, rfl⟩) rfl ?_
  refine B_aload_n (pc := 225) C dX12_init_225 rfl ?_
  refine B_sipush (pc := 226) (v := (3072)) C dX12_init_226 (by decide) ?_
  refine B_newa (pc := 229) (n := 130) (t := 0) (N := 3072) C dX12_init_229 rfl (by omega) wa_0 sh_130 (by decide) (by decide) (by omega) (by decide +kernel) (zr_s (by omega) (hz 130 (by omega) (by omega))) (by decide +kernel) rfl (by omega) (by omega) ?_
  show VB X _ _ [103, 104, 105, 106, 107, 108, 109, 110, 111, 112, 113, 114, 115, 116, 117, 118, 119, 120, 121, 122, 123, 124, 125, 126, 127, 128, 129, 130] [(103, 44), (103, 43), (103, 42), (103, 41), (103, 40), (103, 39), (103, 32), (103, 31), (103, 30), (103, 29), (103, 28), (103, 27), (103, 26), (103, 25), (103, 24), (103, 23), (103, 22), (103, 21), (103, 17), (103, 16), (103, 15), (103, 14), (103, 13), (103, 12), (103, 11), (103, 3)] (hs (h) 103 1 (4)) 27 45229 231 [some (.ref 103)] [.ref 130, .ref 103]
  refine B_putR (pc := 231) C dX12_init_231 lf_X12_93 fk_103_45 (by decide) (fun _ => ⟨nB, rfl⟩) rfl ?_
  refine B_aload_n (pc := 234) C dX12_init_234 rfl ?_
  refine B_sipush (pc := 235) (v := (12288)) C dX12_init_235 (by decide) ?_
  refine B_newa (pc := 238) (n := 131) (t := 0) (N := 12288) C dX12_init_238 rfl (by omega) wa_0 sh_131 (by decide) (by decide) (by omega) (by decide +kernel) (zr_s (by omega) (hz 131 (by omega) (by omega))) (by decide +kernel) rfl (by omega) (by omega) ?_
  show VB X _ _ [103, 104, 105, 106, 107, 108, 109, 110, 111, 112, 113, 114, 115, 116, 117, 118, 119, 120, 121, 122, 123, 124, 125, 126, 127, 128, 129, 130, 131] [(103, 45), (103, 44), (103, 43), (103, 42), (103, 41), (103, 40), (103, 39), (103, 32), (103, 31), (103, 30), (103, 29), (103, 28), (103, 27), (103, 26), (103, 25), (103, 24), (103, 23), (103, 22), (103, 21), (103, 17), (103, 16), (103, 15), (103, 14), (103, 13), (103, 12), (103, 11), (103, 3)] (hs (h) 103 1 (4)) 28 57517 240 [some (.ref 103)] [.ref 131, .ref 103]
  refine B_putR (pc := 240) C dX12_init_240 lf_X12_96 fk_103_47 (by decide) (fun _ => ⟨nB, rfl⟩) rfl ?_
  refine B_aload_n (pc := 243) C dX12_init_243 rfl ?_
  refine B_iconst (pc := 244) (v := (4)) C dX12_init_244 (by decide) ?_
  refine B_newa (pc := 245) (n := 132) (t := 0) (N := 4) C dX12_init_245 rfl (by omega) wa_0 sh_132 (by decide) (by decide) (by omega) (by decide +kernel) (zr_s (by omega) (hz 132 (by omega) (by omega))) (by decide +kernel) rfl (by omega) (by omega) ?_
  show VB X _ _ [103, 104, 105, 106, 107, 108, 109, 110, 111, 112, 113, 114, 115, 116, 117, 118, 119, 120, 121, 122, 123, 124, 125, 126, 127, 128, 129, 130, 131, 132] [(103, 47), (103, 45), (103, 44), (103, 43), (103, 42), (103, 41), (103, 40), (103, 39), (103, 32), (103, 31), (103, 30), (103, 29), (103, 28), (103, 27), (103, 26), (103, 25), (103, 24), (103, 23), (103, 22), (103, 21), (103, 17), (103, 16), (103, 15), (103, 14), (103, 13), (103, 12), (103, 11), (103, 3)] (hs (h) 103 1 (4)) 29 57521 247 [some (.ref 103)] [.ref 132, .ref 103]
  refine B_putR (pc := 247) C dX12_init_247 lf_X12_99 fk_103_48 (by decide) (fun _ => ⟨nB, rfl⟩) rfl ?_
  refine B_aload_n (pc := 250) C dX12_init_250 rfl ?_
  refine B_sipush (pc := 251) (v := (3072)) C dX12_init_251 (by decide) ?_
  refine B_newa (pc := 254) (n := 133) (t := 0) (N := 3072) C dX12_init_254 rfl (by omega) wa_0 sh_133 (by decide) (by decide) (by omega) (by decide +kernel) (zr_s (by omega) (hz 133 (by omega) (by omega))) (by decide +kernel) rfl (by omega) (by omega) ?_
  show VB X _ _ [103, 104, 105, 106, 107, 108, 109, 110, 111, 112, 113, 114, 115, 116, 117, 118, 119, 120, 121, 122, 123, 124, 125, 126, 127, 128, 129, 130, 131, 132, 133] [(103, 48), (103, 47), (103, 45), (103, 44), (103, 43), (103, 42), (103, 41), (103, 40), (103, 39), (103, 32), (103, 31), (103, 30), (103, 29), (103, 28), (103, 27), (103, 26), (103, 25), (103, 24), (103, 23), (103, 22), (103, 21), (103, 17), (103, 16), (103, 15), (103, 14), (103, 13), (103, 12), (103, 11), (103, 3)] (hs (h) 103 1 (4)) 30 60593 256 [some (.ref 103)] [.ref 133, .ref 103]
  refine B_putR (pc := 256) C dX12_init_256 lf_X12_102 fk_103_49 (by decide) (fun _ => ⟨nB, rfl⟩) rfl ?_
  refine B_aload_n (pc := 259) C dX12_init_259 rfl ?_
  refine B_sipush (pc := 260) (v := (1024)) C dX12_init_260 (by decide) ?_
  refine B_newa (pc := 263) (n := 134) (t := 0) (N := 1024) C dX12_init_263 rfl (by omega) wa_0 sh_134 (by decide) (by decide) (by omega) (by decide +kernel) (zr_s (by omega) (hz 134 (by omega) (by omega))) (by decide +kernel) rfl (by omega) (by omega) ?_
  show VB X _ _ [103, 104, 105, 106, 107, 108, 109, 110, 111, 112, 113, 114, 115, 116, 117, 118, 119, 120, 121, 122, 123, 124, 125, 126, 127, 128, 129, 130, 131, 132, 133, 134] [(103, 49), (103, 48), (103, 47), (103, 45), (103, 44), (103, 43), (103, 42), (103, 41), (103, 40), (103, 39), (103, 32), (103, 31), (103, 30), (103, 29), (103, 28), (103, 27), (103, 26), (103, 25), (103, 24), (103, 23), (103, 22), (103, 21), (103, 17), (103, 16), (103, 15), (103, 14), (103, 13), (103, 12), (103, 11), (103, 3)] (hs (h) 103 1 (4)) 31 61617 265 [some (.ref 103)] [.ref 134, .ref 103]
  refine B_putR (pc := 265) C dX12_init_265 lf_X12_105 fk_103_51 (by decide) (fun _ => ⟨nB, rfl⟩) rfl ?_
  refine B_aload_n (pc := 268) C dX12_init_268 rfl ?_
  refine B_iconst (pc := 269) (v := (4)) C dX12_init_269 (by decide) ?_
  refine B_newa (pc := 270) (n := 135) (t := 0) (N := 4) C dX12_init_270 rfl (by omega) wa_0 sh_135 (by decide) (by decide) (by omega) (by decide +kernel) (zr_s (by omega) (hz 135 (by omega) (by omega))) (by decide +kernel) rfl (by omega) (by omega) ?_
  show VB X _ _ [103, 104, 105, 106, 107, 108, 109, 110, 111, 112, 113, 114, 115, 116, 117, 118, 119, 120, 121, 122, 123, 124, 125, 126, 127, 128, 129, 130, 131, 132, 133, 134, 135] [(103, 51), (103, 49), (103, 48), (103, 47), (103, 45), (103, 44), (103, 43), (103, 42), (103, 41), (103, 40), (103, 39), (103, 32), (103, 31), (103, 30), (103, 29), (103, 28), (103, 27), (103, 26), (103, 25), (103, 24), (103, 23), (103, 22), (103, 21), (103, 17), (103, 16), (103, 15), (103, 14), (103, 13), (103, 12), (103, 11), (103, 3)] (hs (h) 103 1 (4)) 32 61621 272 [some (.ref 103)] [.ref 135, .ref 103]
  refine B_putR (pc := 272) C dX12_init_272 lf_X12_108 fk_103_52 (by decide) (fun _ => ⟨nB, rfl⟩) rfl ?_
  refine B_aload_n (pc := 275) C dX12_init_275 rfl ?_
  refine B_iconst (pc := 276) (v := (1)) C dX12_init_276 (by decide) ?_
  refine B_putI (pc := 277) C dX12_init_277 lf_X12_111 fk_103_53 (by decide) rfl rfl ?_
  refine B_aload_n (pc := 280) C dX12_init_280 rfl ?_
  refine B_iconst (pc := 281) (v := (4)) C dX12_init_281 (by decide) ?_
  refine B_putI (pc := 282) C dX12_init_282 lf_X12_114 fk_103_54 (by decide) rfl rfl ?_
  refine B_aload_n (pc := 285) C dX12_init_285 rfl ?_
  refine B_iconst (pc := 286) (v := (1)) C dX12_init_286 (by decide) ?_
  refine B_putI (pc := 287) C dX12_init_287 lf_X12_117 fk_103_55 (by decide) rfl rfl ?_
  refine B_aload_n (pc := 290) C dX12_init_290 rfl ?_
  refine B_bipush (pc := 291) (v := (24)) C dX12_init_291 (by decide) ?_
  refine B_newa (pc := 293) (n := 136) (t := 0) (N := 24) C dX12_init_293 rfl (by omega) wa_0 sh_136 (by decide) (by decide) (by omega) (by decide +kernel) (zr_s (by omega) (zr_s (by omega) (zr_s (by omega) (zr_s (by omega) (hz 136 (by omega) (by omega)))))) (by decide +kernel) rfl (by omega) (by omega) ?_
  show VB X _ _ [103, 104, 105, 106, 107, 108, 109, 110, 111, 112, 113, 114, 115, 116, 117, 118, 119, 120, 121, 122, 123, 124, 125, 126, 127, 128, 129, 130, 131, 132, 133, 134, 135, 136] [(103, 52), (103, 51), (103, 49), (103, 48), (103, 47), (103, 45), (103, 44), (103, 43), (103, 42), (103, 41), (103, 40), (103, 39), (103, 32), (103, 31), (103, 30), (103, 29), (103, 28), (103, 27), (103, 26), (103, 25), (103, 24), (103, 23), (103, 22), (103, 21), (103, 17), (103, 16), (103, 15), (103, 14), (103, 13), (103, 12), (103, 11), (103, 3)] (hs (hs (hs (hs (h) 103 1 (4)) 103 53 (1)) 103 54 (4)) 103 55 (1)) 33 61645 295 [some (.ref 103)] [.ref 136, .ref 103]
  refine B_putR (pc := 295) C dX12_init_295 lf_X12_120 fk_103_58 (by decide) (fun _ => ⟨nB, rfl⟩) rfl ?_
  refine B_aload_n (pc := 298) C dX12_init_298 rfl ?_
  refine B_bipush (pc := 299) (v := (24)) C dX12_init_299 (by decide) ?_
  refine B_newa (pc := 301) (n := 137) (t := 0) (N := 24) C dX12_init_301 rfl (by omega) wa_0 sh_137 (by decide) (by decide) (by omega) (by decide +kernel) (zr_s (by omega) (zr_s (by omega) (zr_s (by omega) (zr_s (by omega) (hz 137 (by omega) (by omega)))))) (by decide +kernel) rfl (by omega) (by omega) ?_
  show VB X _ _ [103, 104, 105, 106, 107, 108, 109, 110, 111, 112, 113, 114, 115, 116, 117, 118, 119, 120, 121, 122, 123, 124, 125, 126, 127, 128, 129, 130, 131, 132, 133, 134, 135, 136, 137] [(103, 58), (103, 52), (103, 51), (103, 49), (103, 48), (103, 47), (103, 45), (103, 44), (103, 43), (103, 42), (103, 41), (103, 40), (103, 39), (103, 32), (103, 31), (103, 30), (103, 29), (103, 28), (103, 27), (103, 26), (103, 25), (103, 24), (103, 23), (103, 22), (103, 21), (103, 17), (103, 16), (103, 15), (103, 14), (103, 13), (103, 12), (103, 11), (103, 3)] (hs (hs (hs (hs (h) 103 1 (4)) 103 53 (1)) 103 54 (4)) 103 55 (1)) 34 61669 303 [some (.ref 103)] [.ref 137, .ref 103]
  refine B_putR (pc := 303) C dX12_init_303 lf_X12_123 fk_103_59 (by decide) (fun _ => ⟨nB, rfl⟩) rfl ?_
  refine B_aload_n (pc := 306) C dX12_init_306 rfl ?_
  refine B_bipush (pc := 307) (v := (24)) C dX12_init_307 (by decide) ?_
  refine B_newa (pc := 309) (n := 138) (t := 0) (N := 24) C dX12_init_309 rfl (by omega) wa_0 sh_138 (by decide) (by decide) (by omega) (by decide +kernel) (zr_s (by omega) (zr_s (by omega) (zr_s (by omega) (zr_s (by omega) (hz 138 (by omega) (by omega)))))) (by decide +kernel) rfl (by omega) (by omega) ?_
  show VB X _ _ [103, 104, 105, 106, 107, 108, 109, 110, 111, 112, 113, 114, 115, 116, 117, 118, 119, 120, 121, 122, 123, 124, 125, 126, 127, 128, 129, 130, 131, 132, 133, 134, 135, 136, 137, 138] [(103, 59), (103, 58), (103, 52), (103, 51), (103, 49), (103, 48), (103, 47), (103, 45), (103, 44), (103, 43), (103, 42), (103, 41), (103, 40), (103, 39), (103, 32), (103, 31), (103, 30), (103, 29), (103, 28), (103, 27), (103, 26), (103, 25), (103, 24), (103, 23), (103, 22), (103, 21), (103, 17), (103, 16), (103, 15), (103, 14), (103, 13), (103, 12), (103, 11), (103, 3)] (hs (hs (hs (hs (h) 103 1 (4)) 103 53 (1)) 103 54 (4)) 103 55 (1)) 35 61693 311 [some (.ref 103)] [.ref 138, .ref 103]
  refine B_putR (pc := 311) C dX12_init_311 lf_X12_126 fk_103_60 (by decide) (fun _ => ⟨nB, rfl⟩) rfl ?_
  refine B_aload_n (pc := 314) C dX12_init_314 rfl ?_
  refine B_bipush (pc := 315) (v := (8)) C dX12_init_315 (by decide) ?_
  refine B_newa (pc := 317) (n := 139) (t := 0) (N := 8) C dX12_init_317 rfl (by omega) wa_0 sh_139 (by decide) (by decide) (by omega) (by decide +kernel) (zr_s (by omega) (zr_s (by omega) (zr_s (by omega) (zr_s (by omega) (hz 139 (by omega) (by omega)))))) (by decide +kernel) rfl (by omega) (by omega) ?_
  show VB X _ _ [103, 104, 105, 106, 107, 108, 109, 110, 111, 112, 113, 114, 115, 116, 117, 118, 119, 120, 121, 122, 123, 124, 125, 126, 127, 128, 129, 130, 131, 132, 133, 134, 135, 136, 137, 138, 139] [(103, 60), (103, 59), (103, 58), (103, 52), (103, 51), (103, 49), (103, 48), (103, 47), (103, 45), (103, 44), (103, 43), (103, 42), (103, 41), (103, 40), (103, 39), (103, 32), (103, 31), (103, 30), (103, 29), (103, 28), (103, 27), (103, 26), (103, 25), (103, 24), (103, 23), (103, 22), (103, 21), (103, 17), (103, 16), (103, 15), (103, 14), (103, 13), (103, 12), (103, 11), (103, 3)] (hs (hs (hs (hs (h) 103 1 (4)) 103 53 (1)) 103 54 (4)) 103 55 (1)) 36 61701 319 [some (.ref 103)] [.ref 139, .ref 103]
  refine B_putR (pc := 319) C dX12_init_319 lf_X12_129 fk_103_62 (by decide) (fun _ => ⟨nB, rfl⟩) rfl ?_
  refine B_aload_n (pc := 322) C dX12_init_322 rfl ?_
  refine B_bipush (pc := 323) (v := (8)) C dX12_init_323 (by decide) ?_
  refine B_newa (pc := 325) (n := 140) (t := 0) (N := 8) C dX12_init_325 rfl (by omega) wa_0 sh_140 (by decide) (by decide) (by omega) (by decide +kernel) (zr_s (by omega) (zr_s (by omega) (zr_s (by omega) (zr_s (by omega) (hz 140 (by omega) (by omega)))))) (by decide +kernel) rfl (by omega) (by omega) ?_
  show VB X _ _ [103, 104, 105, 106, 107, 108, 109, 110, 111, 112, 113, 114, 115, 116, 117, 118, 119, 120, 121, 122, 123, 124, 125, 126, 127, 128, 129, 130, 131, 132, 133, 134, 135, 136, 137, 138, 139, 140] [(103, 62), (103, 60), (103, 59), (103, 58), (103, 52), (103, 51), (103, 49), (103, 48), (103, 47), (103, 45), (103, 44), (103, 43), (103, 42), (103, 41), (103, 40), (103, 39), (103, 32), (103, 31), (103, 30), (103, 29), (103, 28), (103, 27), (103, 26), (103, 25), (103, 24), (103, 23), (103, 22), (103, 21), (103, 17), (103, 16), (103, 15), (103, 14), (103, 13), (103, 12), (103, 11), (103, 3)] (hs (hs (hs (hs (h) 103 1 (4)) 103 53 (1)) 103 54 (4)) 103 55 (1)) 37 61709 327 [some (.ref 103)] [.ref 140, .ref 103]
  refine B_putR (pc := 327) C dX12_init_327 lf_X12_132 fk_103_63 (by decide) (fun _ => ⟨nB, rfl⟩) rfl ?_
  refine B_aload_n (pc := 330) C dX12_init_330 rfl ?_
  refine B_bipush (pc := 331) (v := (8)) C dX12_init_331 (by decide) ?_
  refine B_newa (pc := 333) (n := 141) (t := 0) (N := 8) C dX12_init_333 rfl (by omega) wa_0 sh_141 (by decide) (by decide) (by omega) (by decide +kernel) (zr_s (by omega) (zr_s (by omega) (zr_s (by omega) (zr_s (by omega) (hz 141 (by omega) (by omega)))))) (by decide +kernel) rfl (by omega) (by omega) ?_
  show VB X _ _ [103, 104, 105, 106, 107, 108, 109, 110, 111, 112, 113, 114, 115, 116, 117, 118, 119, 120, 121, 122, 123, 124, 125, 126, 127, 128, 129, 130, 131, 132, 133, 134, 135, 136, 137, 138, 139, 140, 141] [(103, 63), (103, 62), (103, 60), (103, 59), (103, 58), (103, 52), (103, 51), (103, 49), (103, 48), (103, 47), (103, 45), (103, 44), (103, 43), (103, 42), (103, 41), (103, 40), (103, 39), (103, 32), (103, 31), (103, 30), (103, 29), (103, 28), (103, 27), (103, 26), (103, 25), (103, 24), (103, 23), (103, 22), (103, 21), (103, 17), (103, 16), (103, 15), (103, 14), (103, 13), (103, 12), (103, 11), (103, 3)] (hs (hs (hs (hs (h) 103 1 (4)) 103 53 (1)) 103 54 (4)) 103 55 (1)) 38 61717 335 [some (.ref 103)] [.ref 141, .ref 103]
  refine B_putR (pc := 335) C dX12_init_335 lf_X12_135 fk_103_64 (by decide) (fun _ => ⟨nB, rfl⟩) rfl ?_
  refine B_aload_n (pc := 338) C dX12_init_338 rfl ?_
  refine B_iconst (pc := 339) (v := (-1)) C dX12_init_339 (by decide) ?_
  refine B_putI (pc := 340) C dX12_init_340 lf_X12_138 fk_103_65 (by decide) rfl rfl ?_
  refine B_aload_n (pc := 343) C dX12_init_343 rfl ?_
  refine B_bipush (pc := 344) (v := (24)) C dX12_init_344 (by decide) ?_
  refine B_newa (pc := 346) (n := 142) (t := 0) (N := 24) C dX12_init_346 rfl (by omega) wa_0 sh_142 (by decide) (by decide) (by omega) (by decide +kernel) (zr_s (by omega) (zr_s (by omega) (zr_s (by omega) (zr_s (by omega) (zr_s (by omega) (hz 142 (by omega) (by omega))))))) (by decide +kernel) rfl (by omega) (by omega) ?_
  show VB X _ _ [103, 104, 105, 106, 107, 108, 109, 110, 111, 112, 113, 114, 115, 116, 117, 118, 119, 120, 121, 122, 123, 124, 125, 126, 127, 128, 129, 130, 131, 132, 133, 134, 135, 136, 137, 138, 139, 140, 141, 142] [(103, 64), (103, 63), (103, 62), (103, 60), (103, 59), (103, 58), (103, 52), (103, 51), (103, 49), (103, 48), (103, 47), (103, 45), (103, 44), (103, 43), (103, 42), (103, 41), (103, 40), (103, 39), (103, 32), (103, 31), (103, 30), (103, 29), (103, 28), (103, 27), (103, 26), (103, 25), (103, 24), (103, 23), (103, 22), (103, 21), (103, 17), (103, 16), (103, 15), (103, 14), (103, 13), (103, 12), (103, 11), (103, 3)] (hs (hs (hs (hs (hs (h) 103 1 (4)) 103 53 (1)) 103 54 (4)) 103 55 (1)) 103 65 (-1)) 39 61741 348 [some (.ref 103)] [.ref 142, .ref 103]
  refine B_putR (pc := 348) C dX12_init_348 lf_X12_141 fk_103_66 (by decide) (fun _ => ⟨nB, rfl⟩) rfl ?_
  refine B_aload_n (pc := 351) C dX12_init_351 rfl ?_
  refine B_bipush (pc := 352) (v := (24)) C dX12_init_352 (by decide) ?_
  refine B_newa (pc := 354) (n := 143) (t := 0) (N := 24) C dX12_init_354 rfl (by omega) wa_0 sh_143 (by decide) (by decide) (by omega) (by decide +kernel) (zr_s (by omega) (zr_s (by omega) (zr_s (by omega) (zr_s (by omega) (zr_s (by omega) (hz 143 (by omega) (by omega))))))) (by decide +kernel) rfl (by omega) (by omega) ?_
  show VB X _ _ [103, 104, 105, 106, 107, 108, 109, 110, 111, 112, 113, 114, 115, 116, 117, 118, 119, 120, 121, 122, 123, 124, 125, 126, 127, 128, 129, 130, 131, 132, 133, 134, 135, 136, 137, 138, 139, 140, 141, 142, 143] [(103, 66), (103, 64), (103, 63), (103, 62), (103, 60), (103, 59), (103, 58), (103, 52), (103, 51), (103, 49), (103, 48), (103, 47), (103, 45), (103, 44), (103, 43), (103, 42), (103, 41), (103, 40), (103, 39), (103, 32), (103, 31), (103, 30), (103, 29), (103, 28), (103, 27), (103, 26), (103, 25), (103, 24), (103, 23), (103, 22), (103, 21), (103, 17), (103, 16), (103, 15), (103, 14), (103, 13), (103, 12), (103, 11), (103, 3)] (hs (hs (hs (hs (hs (h) 103 1 (4)) 103 53 (1)) 103 54 (4)) 103 55 (1)) 103 65 (-1)) 40 61765 356 [some (.ref 103)] [.ref 143, .ref 103]
  refine B_putR (pc := 356) C dX12_init_356 lf_X12_144 fk_103_67 (by decide) (fun _ => ⟨nB, rfl⟩) rfl ?_
  refine B_aload_n (pc := 359) C dX12_init_359 rfl ?_
  refine B_bipush (pc := 360) (v := (24)) C dX12_init_360 (by decide) ?_
  refine B_newa (pc := 362) (n := 144) (t := 0) (N := 24) C dX12_init_362 rfl (by omega) wa_0 sh_144 (by decide) (by decide) (by omega) (by decide +kernel) (zr_s (by omega) (zr_s (by omega) (zr_s (by omega) (zr_s (by omega) (zr_s (by omega) (hz 144 (by omega) (by omega))))))) (by decide +kernel) rfl (by omega) (by omega) ?_
  show VB X _ _ [103, 104, 105, 106, 107, 108, 109, 110, 111, 112, 113, 114, 115, 116, 117, 118, 119, 120, 121, 122, 123, 124, 125, 126, 127, 128, 129, 130, 131, 132, 133, 134, 135, 136, 137, 138, 139, 140, 141, 142, 143, 144] [(103, 67), (103, 66), (103, 64), (103, 63), (103, 62), (103, 60), (103, 59), (103, 58), (103, 52), (103, 51), (103, 49), (103, 48), (103, 47), (103, 45), (103, 44), (103, 43), (103, 42), (103, 41), (103, 40), (103, 39), (103, 32), (103, 31), (103, 30), (103, 29), (103, 28), (103, 27), (103, 26), (103, 25), (103, 24), (103, 23), (103, 22), (103, 21), (103, 17), (103, 16), (103, 15), (103, 14), (103, 13), (103, 12), (103, 11), (103, 3)] (hs (hs (hs (hs (hs (h) 103 1 (4)) 103 53 (1)) 103 54 (4)) 103 55 (1)) 103 65 (-1)) 41 61789 364 [some (.ref 103)] [.ref 144, .ref 103]
  refine B_putR (pc := 364) C dX12_init_364 lf_X12_147 fk_103_68 (by decide) (fun _ => ⟨nB, rfl⟩) rfl ?_
  refine B_aload_n (pc := 367) C dX12_init_367 rfl ?_
  refine B_iconst (pc := 368) (v := (2)) C dX12_init_368 (by decide) ?_
  refine B_newa (pc := 369) (n := 145) (t := 0) (N := 2) C dX12_init_369 rfl (by omega) wa_0 sh_145 (by decide) (by decide) (by omega) (by decide +kernel) (zr_s (by omega) (zr_s (by omega) (zr_s (by omega) (zr_s (by omega) (zr_s (by omega) (hz 145 (by omega) (by omega))))))) (by decide +kernel) rfl (by omega) (by omega) ?_
  show VB X _ _ [103, 104, 105, 106, 107, 108, 109, 110, 111, 112, 113, 114, 115, 116, 117, 118, 119, 120, 121, 122, 123, 124, 125, 126, 127, 128, 129, 130, 131, 132, 133, 134, 135, 136, 137, 138, 139, 140, 141, 142, 143, 144, 145] [(103, 68), (103, 67), (103, 66), (103, 64), (103, 63), (103, 62), (103, 60), (103, 59), (103, 58), (103, 52), (103, 51), (103, 49), (103, 48), (103, 47), (103, 45), (103, 44), (103, 43), (103, 42), (103, 41), (103, 40), (103, 39), (103, 32), (103, 31), (103, 30), (103, 29), (103, 28), (103, 27), (103, 26), (103, 25), (103, 24), (103, 23), (103, 22), (103, 21), (103, 17), (103, 16), (103, 15), (103, 14), (103, 13), (103, 12), (103, 11), (103, 3)] (hs (hs (hs (hs (hs (h) 103 1 (4)) 103 53 (1)) 103 54 (4)) 103 55 (1)) 103 65 (-1)) 42 61791 371 [some (.ref 103)] [.ref 145, .ref 103]
  refine B_putR (pc := 371) C dX12_init_371 lf_X12_150 fk_103_69 (by decide) (fun _ => ⟨nB, rfl⟩) rfl ?_
  refine B_aload_n (pc := 374) C dX12_init_374 rfl ?_
  refine B_iconst (pc := 375) (v := (2)) C dX12_init_375 (by decide) ?_
  refine B_newa (pc := 376) (n := 146) (t := 0) (N := 2) C dX12_init_376 rfl (by omega) wa_0 sh_146 (by decide) (by decide) (by omega) (by decide +kernel) (zr_s (by omega) (zr_s (by omega) (zr_s (by omega) (zr_s (by omega) (zr_s (by omega) (hz 146 (by omega) (by omega))))))) (by decide +kernel) rfl (by omega) (by omega) ?_
  show VB X _ _ [103, 104, 105, 106, 107, 108, 109, 110, 111, 112, 113, 114, 115, 116, 117, 118, 119, 120, 121, 122, 123, 124, 125, 126, 127, 128, 129, 130, 131, 132, 133, 134, 135, 136, 137, 138, 139, 140, 141, 142, 143, 144, 145, 146] [(103, 69), (103, 68), (103, 67), (103, 66), (103, 64), (103, 63), (103, 62), (103, 60), (103, 59), (103, 58), (103, 52), (103, 51), (103, 49), (103, 48), (103, 47), (103, 45), (103, 44), (103, 43), (103, 42), (103, 41), (103, 40), (103, 39), (103, 32), (103, 31), (103, 30), (103, 29), (103, 28), (103, 27), (103, 26), (103, 25), (103, 24), (103, 23), (103, 22), (103, 21), (103, 17), (103, 16), (103, 15), (103, 14), (103, 13), (103, 12), (103, 11), (103, 3)] (hs (hs (hs (hs (hs (h) 103 1 (4)) 103 53 (1)) 103 54 (4)) 103 55 (1)) 103 65 (-1)) 43 61793 378 [some (.ref 103)] [.ref 146, .ref 103]
  refine B_putR (pc := 378) C dX12_init_378 lf_X12_153 fk_103_70 (by decide) (fun _ => ⟨nB, rfl⟩) rfl ?_
  refine B_aload_n (pc := 381) C dX12_init_381 rfl ?_
  refine B_iconst (pc := 382) (v := (2)) C dX12_init_382 (by decide) ?_
  refine B_newa (pc := 383) (n := 147) (t := 0) (N := 2) C dX12_init_383 rfl (by omega) wa_0 sh_147 (by decide) (by decide) (by omega) (by decide +kernel) (zr_s (by omega) (zr_s (by omega) (zr_s (by omega) (zr_s (by omega) (zr_s (by omega) (hz 147 (by omega) (by omega))))))) (by decide +kernel) rfl (by omega) (by omega) ?_
  show VB X _ _ [103, 104, 105, 106, 107, 108, 109, 110, 111, 112, 113, 114, 115, 116, 117, 118, 119, 120, 121, 122, 123, 124, 125, 126, 127, 128, 129, 130, 131, 132, 133, 134, 135, 136, 137, 138, 139, 140, 141, 142, 143, 144, 145, 146, 147] [(103, 70), (103, 69), (103, 68), (103, 67), (103, 66), (103, 64), (103, 63), (103, 62), (103, 60), (103, 59), (103, 58), (103, 52), (103, 51), (103, 49), (103, 48), (103, 47), (103, 45), (103, 44), (103, 43), (103, 42), (103, 41), (103, 40), (103, 39), (103, 32), (103, 31), (103, 30), (103, 29), (103, 28), (103, 27), (103, 26), (103, 25), (103, 24), (103, 23), (103, 22), (103, 21), (103, 17), (103, 16), (103, 15), (103, 14), (103, 13), (103, 12), (103, 11), (103, 3)] (hs (hs (hs (hs (hs (h) 103 1 (4)) 103 53 (1)) 103 54 (4)) 103 55 (1)) 103 65 (-1)) 44 61795 385 [some (.ref 103)] [.ref 147, .ref 103]
  refine B_putR (pc := 385) C dX12_init_385 lf_X12_156 fk_103_71 (by decide) (fun _ => ⟨nB, rfl⟩) rfl ?_
  refine B_aload_n (pc := 388) C dX12_init_388 rfl ?_
  refine B_bipush (pc := 389) (v := (10)) C dX12_init_389 (by decide) ?_
  refine B_newa (pc := 391) (n := 148) (t := 0) (N := 10) C dX12_init_391 rfl (by omega) wa_0 sh_148 (by decide) (by decide) (by omega) (by decide +kernel) (zr_s (by omega) (zr_s (by omega) (zr_s (by omega) (zr_s (by omega) (zr_s (by omega) (hz 148 (by omega) (by omega))))))) (by decide +kernel) rfl (by omega) (by omega) ?_
  show VB X _ _ [103, 104, 105, 106, 107, 108, 109, 110, 111, 112, 113, 114, 115, 116, 117, 118, 119, 120, 121, 122, 123, 124, 125, 126, 127, 128, 129, 130, 131, 132, 133, 134, 135, 136, 137, 138, 139, 140, 141, 142, 143, 144, 145, 146, 147, 148] [(103, 71), (103, 70), (103, 69), (103, 68), (103, 67), (103, 66), (103, 64), (103, 63), (103, 62), (103, 60), (103, 59), (103, 58), (103, 52), (103, 51), (103, 49), (103, 48), (103, 47), (103, 45), (103, 44), (103, 43), (103, 42), (103, 41), (103, 40), (103, 39), (103, 32), (103, 31), (103, 30), (103, 29), (103, 28), (103, 27), (103, 26), (103, 25), (103, 24), (103, 23), (103, 22), (103, 21), (103, 17), (103, 16), (103, 15), (103, 14), (103, 13), (103, 12), (103, 11), (103, 3)] (hs (hs (hs (hs (hs (h) 103 1 (4)) 103 53 (1)) 103 54 (4)) 103 55 (1)) 103 65 (-1)) 45 61805 393 [some (.ref 103)] [.ref 148, .ref 103]
  refine B_putR (pc := 393) C dX12_init_393 lf_X12_159 fk_103_72 (by decide) (fun _ => ⟨nB, rfl⟩) rfl ?_
  refine B_aload_n (pc := 396) C dX12_init_396 rfl ?_
  refine B_iconst (pc := 397) (v := (2)) C dX12_init_397 (by decide) ?_
  refine B_newa (pc := 398) (n := 149) (t := 0) (N := 2) C dX12_init_398 rfl (by omega) wa_0 sh_149 (by decide) (by decide) (by omega) (by decide +kernel) (zr_s (by omega) (zr_s (by omega) (zr_s (by omega) (zr_s (by omega) (zr_s (by omega) (hz 149 (by omega) (by omega))))))) (by decide +kernel) rfl (by omega) (by omega) ?_
  show VB X _ _ [103, 104, 105, 106, 107, 108, 109, 110, 111, 112, 113, 114, 115, 116, 117, 118, 119, 120, 121, 122, 123, 124, 125, 126, 127, 128, 129, 130, 131, 132, 133, 134, 135, 136, 137, 138, 139, 140, 141, 142, 143, 144, 145, 146, 147, 148, 149] [(103, 72), (103, 71), (103, 70), (103, 69), (103, 68), (103, 67), (103, 66), (103, 64), (103, 63), (103, 62), (103, 60), (103, 59), (103, 58), (103, 52), (103, 51), (103, 49), (103, 48), (103, 47), (103, 45), (103, 44), (103, 43), (103, 42), (103, 41), (103, 40), (103, 39), (103, 32), (103, 31), (103, 30), (103, 29), (103, 28), (103, 27), (103, 26), (103, 25), (103, 24), (103, 23), (103, 22), (103, 21), (103, 17), (103, 16), (103, 15), (103, 14), (103, 13), (103, 12), (103, 11), (103, 3)] (hs (hs (hs (hs (hs (h) 103 1 (4)) 103 53 (1)) 103 54 (4)) 103 55 (1)) 103 65 (-1)) 46 61807 400 [some (.ref 103)] [.ref 149, .ref 103]
  refine B_putR (pc := 400) C dX12_init_400 lf_X12_162 fk_103_73 (by decide) (fun _ => ⟨nB, rfl⟩) rfl ?_
  refine B_aload_n (pc := 403) C dX12_init_403 rfl ?_
  refine B_bipush (pc := 404) (v := (40)) C dX12_init_404 (by decide) ?_
  refine B_newa (pc := 406) (n := 150) (t := 0) (N := 40) C dX12_init_406 rfl (by omega) wa_0 sh_150 (by decide) (by decide) (by omega) (by decide +kernel) (zr_s (by omega) (zr_s (by omega) (zr_s (by omega) (zr_s (by omega) (zr_s (by omega) (hz 150 (by omega) (by omega))))))) (by decide +kernel) rfl (by omega) (by omega) ?_
  show VB X _ _ [103, 104, 105, 106, 107, 108, 109, 110, 111, 112, 113, 114, 115, 116, 117, 118, 119, 120, 121, 122, 123, 124, 125, 126, 127, 128, 129, 130, 131, 132, 133, 134, 135, 136, 137, 138, 139, 140, 141, 142, 143, 144, 145, 146, 147, 148, 149, 150] [(103, 73), (103, 72), (103, 71), (103, 70), (103, 69), (103, 68), (103, 67), (103, 66), (103, 64), (103, 63), (103, 62), (103, 60), (103, 59), (103, 58), (103, 52), (103, 51), (103, 49), (103, 48), (103, 47), (103, 45), (103, 44), (103, 43), (103, 42), (103, 41), (103, 40), (103, 39), (103, 32), (103, 31), (103, 30), (103, 29), (103, 28), (103, 27), (103, 26), (103, 25), (103, 24), (103, 23), (103, 22), (103, 21), (103, 17), (103, 16), (103, 15), (103, 14), (103, 13), (103, 12), (103, 11), (103, 3)] (hs (hs (hs (hs (hs (h) 103 1 (4)) 103 53 (1)) 103 54 (4)) 103 55 (1)) 103 65 (-1)) 47 61847 408 [some (.ref 103)] [.ref 150, .ref 103]
  refine B_putR (pc := 408) C dX12_init_408 lf_X12_165 fk_103_76 (by decide) (fun _ => ⟨nB, rfl⟩) rfl ?_
  refine B_aload_n (pc := 411) C dX12_init_411 rfl ?_
  refine B_bipush (pc := 412) (v := (40)) C dX12_init_412 (by decide) ?_
  refine B_newa (pc := 414) (n := 151) (t := 0) (N := 40) C dX12_init_414 rfl (by omega) wa_0 sh_151 (by decide) (by decide) (by omega) (by decide +kernel) (zr_s (by omega) (zr_s (by omega) (zr_s (by omega) (zr_s (by omega) (zr_s (by omega) (hz 151 (by omega) (by omega))))))) (by decide +kernel) rfl (by omega) (by omega) ?_
  show VB X _ _ [103, 104, 105, 106, 107, 108, 109, 110, 111, 112, 113, 114, 115, 116, 117, 118, 119, 120, 121, 122, 123, 124, 125, 126, 127, 128, 129, 130, 131, 132, 133, 134, 135, 136, 137, 138, 139, 140, 141, 142, 143, 144, 145, 146, 147, 148, 149, 150, 151] [(103, 76), (103, 73), (103, 72), (103, 71), (103, 70), (103, 69), (103, 68), (103, 67), (103, 66), (103, 64), (103, 63), (103, 62), (103, 60), (103, 59), (103, 58), (103, 52), (103, 51), (103, 49), (103, 48), (103, 47), (103, 45), (103, 44), (103, 43), (103, 42), (103, 41), (103, 40), (103, 39), (103, 32), (103, 31), (103, 30), (103, 29), (103, 28), (103, 27), (103, 26), (103, 25), (103, 24), (103, 23), (103, 22), (103, 21), (103, 17), (103, 16), (103, 15), (103, 14), (103, 13), (103, 12), (103, 11), (103, 3)] (hs (hs (hs (hs (hs (h) 103 1 (4)) 103 53 (1)) 103 54 (4)) 103 55 (1)) 103 65 (-1)) 48 61887 416 [some (.ref 103)] [.ref 151, .ref 103]
  refine B_putR (pc := 416) C dX12_init_416 lf_X12_168 fk_103_77 (by decide) (fun _ => ⟨nB, rfl⟩) rfl ?_
  refine B_aload_n (pc := 419) C dX12_init_419 rfl ?_
  refine B_bipush (pc := 420) (v := (40)) C dX12_init_420 (by decide) ?_
  refine B_newa (pc := 422) (n := 152) (t := 0) (N := 40) C dX12_init_422 rfl (by omega) wa_0 sh_152 (by decide) (by decide) (by omega) (by decide +kernel) (zr_s (by omega) (zr_s (by omega) (zr_s (by omega) (zr_s (by omega) (zr_s (by omega) (hz 152 (by omega) (by omega))))))) (by decide +kernel) rfl (by omega) (by omega) ?_
  show VB X _ _ [103, 104, 105, 106, 107, 108, 109, 110, 111, 112, 113, 114, 115, 116, 117, 118, 119, 120, 121, 122, 123, 124, 125, 126, 127, 128, 129, 130, 131, 132, 133, 134, 135, 136, 137, 138, 139, 140, 141, 142, 143, 144, 145, 146, 147, 148, 149, 150, 151, 152] [(103, 77), (103, 76), (103, 73), (103, 72), (103, 71), (103, 70), (103, 69), (103, 68), (103, 67), (103, 66), (103, 64), (103, 63), (103, 62), (103, 60), (103, 59), (103, 58), (103, 52), (103, 51), (103, 49), (103, 48), (103, 47), (103, 45), (103, 44), (103, 43), (103, 42), (103, 41), (103, 40), (103, 39), (103, 32), (103, 31), (103, 30), (103, 29), (103, 28), (103, 27), (103, 26), (103, 25), (103, 24), (103, 23), (103, 22), (103, 21), (103, 17), (103, 16), (103, 15), (103, 14), (103, 13), (103, 12), (103, 11), (103, 3)] (hs (hs (hs (hs (hs (h) 103 1 (4)) 103 53 (1)) 103 54 (4)) 103 55 (1)) 103 65 (-1)) 49 61927 424 [some (.ref 103)] [.ref 152, .ref 103]
  refine B_putR (pc := 424) C dX12_init_424 lf_X12_171 fk_103_78 (by decide) (fun _ => ⟨nB, rfl⟩) rfl ?_
  refine B_aload_n (pc := 427) C dX12_init_427 rfl ?_
  refine B_sipush (pc := 428) (v := (1000)) C dX12_init_428 (by decide) ?_
  refine B_putI (pc := 431) C dX12_init_431 lf_X12_174 fk_103_80 (by decide) rfl rfl ?_
  refine B_aload_n (pc := 434) C dX12_init_434 rfl ?_
  refine B_iconst (pc := 435) (v := (1)) C dX12_init_435 (by decide) ?_
  refine B_putI (pc := 436) C dX12_init_436 lf_X12_177 fk_103_81 (by decide) rfl rfl ?_
  exact B_vret (pc := 439) C nB dX12_init_439
