/-! constructors (printed by wip/whole/gen2/ctors.py) -/
set_option maxRecDepth 20000 in
theorem wo_i : Cond.instanceMethod Lib.objectInit ∈ BW := bw_c1 (List.mem_of_getElem? (i := 33) (by decide +kernel)) rfl
set_option maxRecDepth 20000 in
theorem wo_c : Cond.code Lib.objectInit ⟨#[0xb1]⟩ 1 none ∈ BW := bw_c1 (List.mem_of_getElem? (i := 34) rfl) rfl
set_option maxRecDepth 20000 in
theorem wa_0 : Cond.arrayClass (tyN 0) ∈ BW := bw_c1 (List.mem_of_getElem? (i := 89) (by decide +kernel)) rfl
set_option maxRecDepth 20000 in
theorem wa_1 : Cond.arrayClass (tyN 1) ∈ BW := bw_c1 (List.mem_of_getElem? (i := 51) (by decide +kernel)) rfl
set_option maxRecDepth 20000 in
theorem wa_2 : Cond.arrayClass (tyN 2) ∈ BW := bw_c7 (List.mem_of_getElem? (i := 179) (by decide +kernel)) rfl
set_option maxRecDepth 20000 in
theorem wa_3 : Cond.arrayClass (tyN 3) ∈ BW := bw_c9 (List.mem_of_getElem? (i := 90) (by decide +kernel)) rfl
theorem dX0_init_0 : decode cX0_init 0 = .ok (.aload_n 0, 1) := by decide +kernel
theorem dX0_init_1 : decode cX0_init 1 = .ok (.invokespecial 3, 3) := by decide +kernel
theorem dX0_init_4 : decode cX0_init 4 = .ok (.aload_n 0, 1) := by decide +kernel
theorem dX0_init_5 : decode cX0_init 5 = .ok (.bipush 6, 2) := by decide +kernel
theorem dX0_init_7 : decode cX0_init 7 = .ok (.newarray .int, 2) := by decide +kernel
theorem dX0_init_9 : decode cX0_init 9 = .ok (.putfield 9, 3) := by decide +kernel
theorem dX0_init_12 : decode cX0_init 12 = .ok (.aload_n 0, 1) := by decide +kernel
theorem dX0_init_13 : decode cX0_init 13 = .ok (.bipush 6, 2) := by decide +kernel
theorem dX0_init_15 : decode cX0_init 15 = .ok (.bipush 61, 2) := by decide +kernel
theorem dX0_init_17 : decode cX0_init 17 = .ok (.multianewarray 15 2, 4) := by decide +kernel
theorem dX0_init_21 : decode cX0_init 21 = .ok (.putfield 17, 3) := by decide +kernel
theorem dX0_init_24 : decode cX0_init 24 = .ok (.aload_n 0, 1) := by decide +kernel
theorem dX0_init_25 : decode cX0_init 25 = .ok (.sipush 3072, 3) := by decide +kernel
theorem dX0_init_28 : decode cX0_init 28 = .ok (.newarray .int, 2) := by decide +kernel
theorem dX0_init_30 : decode cX0_init 30 = .ok (.putfield 20, 3) := by decide +kernel
theorem dX0_init_33 : decode cX0_init 33 = .ok (.aload_n 0, 1) := by decide +kernel
theorem dX0_init_34 : decode cX0_init 34 = .ok (.sipush 4096, 3) := by decide +kernel
theorem dX0_init_37 : decode cX0_init 37 = .ok (.newarray .int, 2) := by decide +kernel
theorem dX0_init_39 : decode cX0_init 39 = .ok (.putfield 23, 3) := by decide +kernel
theorem dX0_init_42 : decode cX0_init 42 = .ok (.aload_n 0, 1) := by decide +kernel
theorem dX0_init_43 : decode cX0_init 43 = .ok (.sipush 3072, 3) := by decide +kernel
theorem dX0_init_46 : decode cX0_init 46 = .ok (.newarray .int, 2) := by decide +kernel
theorem dX0_init_48 : decode cX0_init 48 = .ok (.putfield 26, 3) := by decide +kernel
theorem dX0_init_51 : decode cX0_init 51 = .ok (.aload_n 0, 1) := by decide +kernel
theorem dX0_init_52 : decode cX0_init 52 = .ok (.sipush 3072, 3) := by decide +kernel
theorem dX0_init_55 : decode cX0_init 55 = .ok (.newarray .int, 2) := by decide +kernel
theorem dX0_init_57 : decode cX0_init 57 = .ok (.putfield 29, 3) := by decide +kernel
theorem dX0_init_60 : decode cX0_init 60 = .ok (.aload_n 0, 1) := by decide +kernel
theorem dX0_init_61 : decode cX0_init 61 = .ok (.sipush 3072, 3) := by decide +kernel
theorem dX0_init_64 : decode cX0_init 64 = .ok (.newarray .int, 2) := by decide +kernel
theorem dX0_init_66 : decode cX0_init 66 = .ok (.putfield 32, 3) := by decide +kernel
theorem dX0_init_69 : decode cX0_init 69 = .ok (.aload_n 0, 1) := by decide +kernel
theorem dX0_init_70 : decode cX0_init 70 = .ok (.sipush 3072, 3) := by decide +kernel
theorem dX0_init_73 : decode cX0_init 73 = .ok (.newarray .int, 2) := by decide +kernel
theorem dX0_init_75 : decode cX0_init 75 = .ok (.putfield 35, 3) := by decide +kernel
theorem dX0_init_78 : decode cX0_init 78 = .ok (.aload_n 0, 1) := by decide +kernel
theorem dX0_init_79 : decode cX0_init 79 = .ok (.sipush 21504, 3) := by decide +kernel
theorem dX0_init_82 : decode cX0_init 82 = .ok (.newarray .int, 2) := by decide +kernel
theorem dX0_init_84 : decode cX0_init 84 = .ok (.putfield 38, 3) := by decide +kernel
theorem dX0_init_87 : decode cX0_init 87 = .ok (.aload_n 0, 1) := by decide +kernel
theorem dX0_init_88 : decode cX0_init 88 = .ok (.sipush 3072, 3) := by decide +kernel
theorem dX0_init_91 : decode cX0_init 91 = .ok (.newarray .int, 2) := by decide +kernel
theorem dX0_init_93 : decode cX0_init 93 = .ok (.putfield 41, 3) := by decide +kernel
theorem dX0_init_96 : decode cX0_init 96 = .ok (.aload_n 0, 1) := by decide +kernel
theorem dX0_init_97 : decode cX0_init 97 = .ok (.sipush 3072, 3) := by decide +kernel
theorem dX0_init_100 : decode cX0_init 100 = .ok (.newarray .int, 2) := by decide +kernel
theorem dX0_init_102 : decode cX0_init 102 = .ok (.putfield 44, 3) := by decide +kernel
theorem dX0_init_105 : decode cX0_init 105 = .ok (.aload_n 0, 1) := by decide +kernel
theorem dX0_init_106 : decode cX0_init 106 = .ok (.aload_n 1, 1) := by decide +kernel
theorem dX0_init_107 : decode cX0_init 107 = .ok (.putfield 47, 3) := by decide +kernel
theorem dX0_init_110 : decode cX0_init 110 = .ok (.return_, 1) := by decide +kernel
set_option maxRecDepth 20000 in
theorem mc_X0 : MC yX0_init cX0_init 2 := ⟨bw_c1 (List.mem_of_getElem? (i := 174) (by decide +kernel)) rfl, bw_c1 (List.mem_of_getElem? (i := 7) (by decide +kernel)) rfl, bw_c1 (List.mem_of_getElem? (i := 175) rfl) rfl, rfl, by decide, by decide⟩
theorem pi_X0 : (parseMethodDescriptor yX0_init.desc).map (fun d => d.parameters.length) = some 1 := by decide +kernel
set_option maxRecDepth 20000 in
theorem lo_X0 : Cond.methodLink RX0 3 Lib.objectInit ∈ BW := bw_c1 (List.mem_of_getElem? (i := 176) (by decide +kernel)) rfl
set_option maxRecDepth 20000 in
theorem wm_X0_15 : Cond.classLink RX0 15 "[[I" ∈ BW := bw_c1 (List.mem_of_getElem? (i := 177) (by decide +kernel)) rfl
theorem dX1_init_0 : decode cX1_init 0 = .ok (.aload_n 0, 1) := by decide +kernel
theorem dX1_init_1 : decode cX1_init 1 = .ok (.invokespecial 3, 3) := by decide +kernel
theorem dX1_init_4 : decode cX1_init 4 = .ok (.aload_n 0, 1) := by decide +kernel
theorem dX1_init_5 : decode cX1_init 5 = .ok (.iconst 3, 1) := by decide +kernel
theorem dX1_init_6 : decode cX1_init 6 = .ok (.newarray .int, 2) := by decide +kernel
theorem dX1_init_8 : decode cX1_init 8 = .ok (.putfield 9, 3) := by decide +kernel
theorem dX1_init_11 : decode cX1_init 11 = .ok (.aload_n 0, 1) := by decide +kernel
theorem dX1_init_12 : decode cX1_init 12 = .ok (.iconst 3, 1) := by decide +kernel
theorem dX1_init_13 : decode cX1_init 13 = .ok (.newarray .int, 2) := by decide +kernel
theorem dX1_init_15 : decode cX1_init 15 = .ok (.putfield 15, 3) := by decide +kernel
theorem dX1_init_18 : decode cX1_init 18 = .ok (.aload_n 0, 1) := by decide +kernel
theorem dX1_init_19 : decode cX1_init 19 = .ok (.iconst (-1), 1) := by decide +kernel
theorem dX1_init_20 : decode cX1_init 20 = .ok (.putfield 18, 3) := by decide +kernel
theorem dX1_init_23 : decode cX1_init 23 = .ok (.aload_n 0, 1) := by decide +kernel
theorem dX1_init_24 : decode cX1_init 24 = .ok (.aload_n 1, 1) := by decide +kernel
theorem dX1_init_25 : decode cX1_init 25 = .ok (.putfield 22, 3) := by decide +kernel
theorem dX1_init_28 : decode cX1_init 28 = .ok (.aload_n 0, 1) := by decide +kernel
theorem dX1_init_29 : decode cX1_init 29 = .ok (.new 26, 3) := by decide +kernel
theorem dX1_init_32 : decode cX1_init 32 = .ok (.dup, 1) := by decide +kernel
theorem dX1_init_33 : decode cX1_init 33 = .ok (.aload_n 1, 1) := by decide +kernel
theorem dX1_init_34 : decode cX1_init 34 = .ok (.invokespecial 28, 3) := by decide +kernel
theorem dX1_init_37 : decode cX1_init 37 = .ok (.putfield 31, 3) := by decide +kernel
theorem dX1_init_40 : decode cX1_init 40 = .ok (.return_, 1) := by decide +kernel
set_option maxRecDepth 20000 in
theorem mc_X1 : MC yX1_init cX1_init 2 := ⟨bw_c2 (List.mem_of_getElem? (i := 199) (by decide +kernel)) rfl, bw_c1 (List.mem_of_getElem? (i := 11) (by decide +kernel)) rfl, bw_c2 (List.mem_of_getElem? (i := 200) rfl) rfl, rfl, by decide, by decide⟩
theorem pi_X1 : (parseMethodDescriptor yX1_init.desc).map (fun d => d.parameters.length) = some 1 := by decide +kernel
set_option maxRecDepth 20000 in
theorem lo_X1 : Cond.methodLink RX1 3 Lib.objectInit ∈ BW := bw_c2 (List.mem_of_getElem? (i := 201) (by decide +kernel)) rfl
theorem dX2_init_0 : decode cX2_init 0 = .ok (.aload_n 0, 1) := by decide +kernel
theorem dX2_init_1 : decode cX2_init 1 = .ok (.invokespecial 3, 3) := by decide +kernel
theorem dX2_init_4 : decode cX2_init 4 = .ok (.aload_n 0, 1) := by decide +kernel
theorem dX2_init_5 : decode cX2_init 5 = .ok (.bipush 10, 2) := by decide +kernel
theorem dX2_init_7 : decode cX2_init 7 = .ok (.newarray .int, 2) := by decide +kernel
theorem dX2_init_9 : decode cX2_init 9 = .ok (.putfield 9, 3) := by decide +kernel
theorem dX2_init_12 : decode cX2_init 12 = .ok (.aload_n 0, 1) := by decide +kernel
theorem dX2_init_13 : decode cX2_init 13 = .ok (.sipush 1000, 3) := by decide +kernel
theorem dX2_init_16 : decode cX2_init 16 = .ok (.newarray .int, 2) := by decide +kernel
theorem dX2_init_18 : decode cX2_init 18 = .ok (.putfield 15, 3) := by decide +kernel
theorem dX2_init_21 : decode cX2_init 21 = .ok (.aload_n 0, 1) := by decide +kernel
theorem dX2_init_22 : decode cX2_init 22 = .ok (.bipush 25, 2) := by decide +kernel
theorem dX2_init_24 : decode cX2_init 24 = .ok (.newarray .int, 2) := by decide +kernel
theorem dX2_init_26 : decode cX2_init 26 = .ok (.putfield 18, 3) := by decide +kernel
theorem dX2_init_29 : decode cX2_init 29 = .ok (.aload_n 0, 1) := by decide +kernel
theorem dX2_init_30 : decode cX2_init 30 = .ok (.bipush 25, 2) := by decide +kernel
theorem dX2_init_32 : decode cX2_init 32 = .ok (.newarray .int, 2) := by decide +kernel
theorem dX2_init_34 : decode cX2_init 34 = .ok (.putfield 21, 3) := by decide +kernel
theorem dX2_init_37 : decode cX2_init 37 = .ok (.aload_n 0, 1) := by decide +kernel
theorem dX2_init_38 : decode cX2_init 38 = .ok (.bipush 32, 2) := by decide +kernel
theorem dX2_init_40 : decode cX2_init 40 = .ok (.newarray .int, 2) := by decide +kernel
theorem dX2_init_42 : decode cX2_init 42 = .ok (.putfield 24, 3) := by decide +kernel
theorem dX2_init_45 : decode cX2_init 45 = .ok (.return_, 1) := by decide +kernel
set_option maxRecDepth 20000 in
theorem mc_X2 : MC yX2_init cX2_init 1 := ⟨bw_c1 (List.mem_of_getElem? (i := 61) (by decide +kernel)) rfl, bw_c1 (List.mem_of_getElem? (i := 4) (by decide +kernel)) rfl, bw_c1 (List.mem_of_getElem? (i := 62) rfl) rfl, rfl, by decide, by decide⟩
theorem pi_X2 : (parseMethodDescriptor yX2_init.desc).map (fun d => d.parameters.length) = some 0 := by decide +kernel
set_option maxRecDepth 20000 in
theorem lo_X2 : Cond.methodLink RX2 3 Lib.objectInit ∈ BW := bw_c1 (List.mem_of_getElem? (i := 63) (by decide +kernel)) rfl
theorem dX3_init_0 : decode cX3_init 0 = .ok (.aload_n 0, 1) := by decide +kernel
theorem dX3_init_1 : decode cX3_init 1 = .ok (.invokespecial 3, 3) := by decide +kernel
theorem dX3_init_4 : decode cX3_init 4 = .ok (.aload_n 0, 1) := by decide +kernel
theorem dX3_init_5 : decode cX3_init 5 = .ok (.sipush 256, 3) := by decide +kernel
theorem dX3_init_8 : decode cX3_init 8 = .ok (.newarray .int, 2) := by decide +kernel
theorem dX3_init_10 : decode cX3_init 10 = .ok (.putfield 9, 3) := by decide +kernel
theorem dX3_init_13 : decode cX3_init 13 = .ok (.aload_n 0, 1) := by decide +kernel
theorem dX3_init_14 : decode cX3_init 14 = .ok (.sipush 256, 3) := by decide +kernel
theorem dX3_init_17 : decode cX3_init 17 = .ok (.newarray .int, 2) := by decide +kernel
theorem dX3_init_19 : decode cX3_init 19 = .ok (.putfield 15, 3) := by decide +kernel
theorem dX3_init_22 : decode cX3_init 22 = .ok (.aload_n 0, 1) := by decide +kernel
theorem dX3_init_23 : decode cX3_init 23 = .ok (.sipush 3072, 3) := by decide +kernel
theorem dX3_init_26 : decode cX3_init 26 = .ok (.newarray .int, 2) := by decide +kernel
theorem dX3_init_28 : decode cX3_init 28 = .ok (.putfield 18, 3) := by decide +kernel
theorem dX3_init_31 : decode cX3_init 31 = .ok (.aload_n 0, 1) := by decide +kernel
theorem dX3_init_32 : decode cX3_init 32 = .ok (.sipush 3072, 3) := by decide +kernel
theorem dX3_init_35 : decode cX3_init 35 = .ok (.newarray .int, 2) := by decide +kernel
theorem dX3_init_37 : decode cX3_init 37 = .ok (.putfield 21, 3) := by decide +kernel
theorem dX3_init_40 : decode cX3_init 40 = .ok (.aload_n 0, 1) := by decide +kernel
theorem dX3_init_41 : decode cX3_init 41 = .ok (.sipush 3072, 3) := by decide +kernel
theorem dX3_init_44 : decode cX3_init 44 = .ok (.newarray .int, 2) := by decide +kernel
theorem dX3_init_46 : decode cX3_init 46 = .ok (.putfield 24, 3) := by decide +kernel
theorem dX3_init_49 : decode cX3_init 49 = .ok (.aload_n 0, 1) := by decide +kernel
theorem dX3_init_50 : decode cX3_init 50 = .ok (.iconst 2, 1) := by decide +kernel
theorem dX3_init_51 : decode cX3_init 51 = .ok (.sipush 3072, 3) := by decide +kernel
theorem dX3_init_54 : decode cX3_init 54 = .ok (.multianewarray 27 2, 4) := by decide +kernel
theorem dX3_init_58 : decode cX3_init 58 = .ok (.putfield 29, 3) := by decide +kernel
theorem dX3_init_61 : decode cX3_init 61 = .ok (.aload_n 0, 1) := by decide +kernel
theorem dX3_init_62 : decode cX3_init 62 = .ok (.iconst 2, 1) := by decide +kernel
theorem dX3_init_63 : decode cX3_init 63 = .ok (.sipush 256, 3) := by decide +kernel
theorem dX3_init_66 : decode cX3_init 66 = .ok (.multianewarray 27 2, 4) := by decide +kernel
theorem dX3_init_70 : decode cX3_init 70 = .ok (.putfield 32, 3) := by decide +kernel
theorem dX3_init_73 : decode cX3_init 73 = .ok (.aload_n 0, 1) := by decide +kernel
theorem dX3_init_74 : decode cX3_init 74 = .ok (.aload_n 1, 1) := by decide +kernel
theorem dX3_init_75 : decode cX3_init 75 = .ok (.putfield 35, 3) := by decide +kernel
theorem dX3_init_78 : decode cX3_init 78 = .ok (.return_, 1) := by decide +kernel
set_option maxRecDepth 20000 in
theorem mc_X3 : MC yX3_init cX3_init 2 := ⟨bw_c1 (List.mem_of_getElem? (i := 225) (by decide +kernel)) rfl, bw_c1 (List.mem_of_getElem? (i := 8) (by decide +kernel)) rfl, bw_c1 (List.mem_of_getElem? (i := 226) rfl) rfl, rfl, by decide, by decide⟩
theorem pi_X3 : (parseMethodDescriptor yX3_init.desc).map (fun d => d.parameters.length) = some 1 := by decide +kernel
set_option maxRecDepth 20000 in
theorem lo_X3 : Cond.methodLink RX3 3 Lib.objectInit ∈ BW := bw_c1 (List.mem_of_getElem? (i := 227) (by decide +kernel)) rfl
set_option maxRecDepth 20000 in
theorem wm_X3_27 : Cond.classLink RX3 27 "[[I" ∈ BW := bw_c1 (List.mem_of_getElem? (i := 228) (by decide +kernel)) rfl
theorem dX4_init_0 : decode cX4_init 0 = .ok (.aload_n 0, 1) := by decide +kernel
theorem dX4_init_1 : decode cX4_init 1 = .ok (.invokespecial 3, 3) := by decide +kernel
theorem dX4_init_4 : decode cX4_init 4 = .ok (.aload_n 0, 1) := by decide +kernel
theorem dX4_init_5 : decode cX4_init 5 = .ok (.new 9, 3) := by decide +kernel
theorem dX4_init_8 : decode cX4_init 8 = .ok (.dup, 1) := by decide +kernel
theorem dX4_init_9 : decode cX4_init 9 = .ok (.invokespecial 11, 3) := by decide +kernel
theorem dX4_init_12 : decode cX4_init 12 = .ok (.putfield 12, 3) := by decide +kernel
theorem dX4_init_15 : decode cX4_init 15 = .ok (.return_, 1) := by decide +kernel
set_option maxRecDepth 20000 in
theorem mc_X4 : MC yX4_init cX4_init 1 := ⟨bw_c1 (List.mem_of_getElem? (i := 144) (by decide +kernel)) rfl, bw_c1 (List.mem_of_getElem? (i := 6) (by decide +kernel)) rfl, bw_c1 (List.mem_of_getElem? (i := 145) rfl) rfl, rfl, by decide, by decide⟩
theorem pi_X4 : (parseMethodDescriptor yX4_init.desc).map (fun d => d.parameters.length) = some 0 := by decide +kernel
set_option maxRecDepth 20000 in
theorem lo_X4 : Cond.methodLink RX4 3 Lib.objectInit ∈ BW := bw_c1 (List.mem_of_getElem? (i := 146) (by decide +kernel)) rfl
theorem dX5_init_0 : decode cX5_init 0 = .ok (.aload_n 0, 1) := by decide +kernel
theorem dX5_init_1 : decode cX5_init 1 = .ok (.invokespecial 3, 3) := by decide +kernel
theorem dX5_init_4 : decode cX5_init 4 = .ok (.aload_n 0, 1) := by decide +kernel
theorem dX5_init_5 : decode cX5_init 5 = .ok (.new 9, 3) := by decide +kernel
theorem dX5_init_8 : decode cX5_init 8 = .ok (.dup, 1) := by decide +kernel
theorem dX5_init_9 : decode cX5_init 9 = .ok (.invokespecial 11, 3) := by decide +kernel
theorem dX5_init_12 : decode cX5_init 12 = .ok (.putfield 12, 3) := by decide +kernel
theorem dX5_init_15 : decode cX5_init 15 = .ok (.aload_n 0, 1) := by decide +kernel
theorem dX5_init_16 : decode cX5_init 16 = .ok (.new 18, 3) := by decide +kernel
theorem dX5_init_19 : decode cX5_init 19 = .ok (.dup, 1) := by decide +kernel
theorem dX5_init_20 : decode cX5_init 20 = .ok (.aload_n 1, 1) := by decide +kernel
theorem dX5_init_21 : decode cX5_init 21 = .ok (.invokespecial 20, 3) := by decide +kernel
theorem dX5_init_24 : decode cX5_init 24 = .ok (.putfield 23, 3) := by decide +kernel
theorem dX5_init_27 : decode cX5_init 27 = .ok (.return_, 1) := by decide +kernel
set_option maxRecDepth 20000 in
theorem mc_X5 : MC yX5_init cX5_init 2 := ⟨bw_c1 (List.mem_of_getElem? (i := 55) (by decide +kernel)) rfl, bw_c1 (List.mem_of_getElem? (i := 3) (by decide +kernel)) rfl, bw_c1 (List.mem_of_getElem? (i := 56) rfl) rfl, rfl, by decide, by decide⟩
theorem pi_X5 : (parseMethodDescriptor yX5_init.desc).map (fun d => d.parameters.length) = some 1 := by decide +kernel
set_option maxRecDepth 20000 in
theorem lo_X5 : Cond.methodLink RX5 3 Lib.objectInit ∈ BW := bw_c1 (List.mem_of_getElem? (i := 57) (by decide +kernel)) rfl
theorem dX6_init_0 : decode cX6_init 0 = .ok (.aload_n 0, 1) := by decide +kernel
theorem dX6_init_1 : decode cX6_init 1 = .ok (.invokespecial 3, 3) := by decide +kernel
theorem dX6_init_4 : decode cX6_init 4 = .ok (.aload_n 0, 1) := by decide +kernel
theorem dX6_init_5 : decode cX6_init 5 = .ok (.new 9, 3) := by decide +kernel
theorem dX6_init_8 : decode cX6_init 8 = .ok (.dup, 1) := by decide +kernel
theorem dX6_init_9 : decode cX6_init 9 = .ok (.invokespecial 11, 3) := by decide +kernel
theorem dX6_init_12 : decode cX6_init 12 = .ok (.putfield 12, 3) := by decide +kernel
theorem dX6_init_15 : decode cX6_init 15 = .ok (.aload_n 0, 1) := by decide +kernel
theorem dX6_init_16 : decode cX6_init 16 = .ok (.bipush 24, 2) := by decide +kernel
theorem dX6_init_18 : decode cX6_init 18 = .ok (.newarray .int, 2) := by decide +kernel
theorem dX6_init_20 : decode cX6_init 20 = .ok (.putfield 18, 3) := by decide +kernel
theorem dX6_init_23 : decode cX6_init 23 = .ok (.aload_n 0, 1) := by decide +kernel
theorem dX6_init_24 : decode cX6_init 24 = .ok (.bipush 24, 2) := by decide +kernel
theorem dX6_init_26 : decode cX6_init 26 = .ok (.newarray .int, 2) := by decide +kernel
theorem dX6_init_28 : decode cX6_init 28 = .ok (.putfield 22, 3) := by decide +kernel
theorem dX6_init_31 : decode cX6_init 31 = .ok (.aload_n 0, 1) := by decide +kernel
theorem dX6_init_32 : decode cX6_init 32 = .ok (.bipush 24, 2) := by decide +kernel
theorem dX6_init_34 : decode cX6_init 34 = .ok (.newarray .int, 2) := by decide +kernel
theorem dX6_init_36 : decode cX6_init 36 = .ok (.putfield 25, 3) := by decide +kernel
theorem dX6_init_39 : decode cX6_init 39 = .ok (.aload_n 0, 1) := by decide +kernel
theorem dX6_init_40 : decode cX6_init 40 = .ok (.bipush 8, 2) := by decide +kernel
theorem dX6_init_42 : decode cX6_init 42 = .ok (.newarray .int, 2) := by decide +kernel
theorem dX6_init_44 : decode cX6_init 44 = .ok (.putfield 28, 3) := by decide +kernel
theorem dX6_init_47 : decode cX6_init 47 = .ok (.aload_n 0, 1) := by decide +kernel
theorem dX6_init_48 : decode cX6_init 48 = .ok (.bipush 8, 2) := by decide +kernel
theorem dX6_init_50 : decode cX6_init 50 = .ok (.newarray .int, 2) := by decide +kernel
theorem dX6_init_52 : decode cX6_init 52 = .ok (.putfield 31, 3) := by decide +kernel
theorem dX6_init_55 : decode cX6_init 55 = .ok (.aload_n 0, 1) := by decide +kernel
theorem dX6_init_56 : decode cX6_init 56 = .ok (.bipush 8, 2) := by decide +kernel
theorem dX6_init_58 : decode cX6_init 58 = .ok (.newarray .int, 2) := by decide +kernel
theorem dX6_init_60 : decode cX6_init 60 = .ok (.putfield 34, 3) := by decide +kernel
theorem dX6_init_63 : decode cX6_init 63 = .ok (.return_, 1) := by decide +kernel
set_option maxRecDepth 20000 in
theorem mc_X6 : MC yX6_init cX6_init 1 := ⟨bw_c2 (List.mem_of_getElem? (i := 39) (by decide +kernel)) rfl, bw_c1 (List.mem_of_getElem? (i := 9) (by decide +kernel)) rfl, bw_c2 (List.mem_of_getElem? (i := 40) rfl) rfl, rfl, by decide, by decide⟩
theorem pi_X6 : (parseMethodDescriptor yX6_init.desc).map (fun d => d.parameters.length) = some 0 := by decide +kernel
set_option maxRecDepth 20000 in
theorem lo_X6 : Cond.methodLink RX6 3 Lib.objectInit ∈ BW := bw_c2 (List.mem_of_getElem? (i := 41) (by decide +kernel)) rfl
theorem dX7_init_0 : decode cX7_init 0 = .ok (.aload_n 0, 1) := by decide +kernel
theorem dX7_init_1 : decode cX7_init 1 = .ok (.invokespecial 3, 3) := by decide +kernel
theorem dX7_init_4 : decode cX7_init 4 = .ok (.aload_n 0, 1) := by decide +kernel
theorem dX7_init_5 : decode cX7_init 5 = .ok (.bipush 40, 2) := by decide +kernel
theorem dX7_init_7 : decode cX7_init 7 = .ok (.newarray .int, 2) := by decide +kernel
theorem dX7_init_9 : decode cX7_init 9 = .ok (.putfield 9, 3) := by decide +kernel
theorem dX7_init_12 : decode cX7_init 12 = .ok (.aload_n 0, 1) := by decide +kernel
theorem dX7_init_13 : decode cX7_init 13 = .ok (.bipush 40, 2) := by decide +kernel
theorem dX7_init_15 : decode cX7_init 15 = .ok (.newarray .int, 2) := by decide +kernel
theorem dX7_init_17 : decode cX7_init 17 = .ok (.putfield 15, 3) := by decide +kernel
theorem dX7_init_20 : decode cX7_init 20 = .ok (.aload_n 0, 1) := by decide +kernel
theorem dX7_init_21 : decode cX7_init 21 = .ok (.bipush 40, 2) := by decide +kernel
theorem dX7_init_23 : decode cX7_init 23 = .ok (.newarray .int, 2) := by decide +kernel
theorem dX7_init_25 : decode cX7_init 25 = .ok (.putfield 18, 3) := by decide +kernel
theorem dX7_init_28 : decode cX7_init 28 = .ok (.return_, 1) := by decide +kernel
set_option maxRecDepth 20000 in
theorem mc_X7 : MC yX7_init cX7_init 1 := ⟨bw_c2 (List.mem_of_getElem? (i := 225) (by decide +kernel)) rfl, bw_c1 (List.mem_of_getElem? (i := 12) (by decide +kernel)) rfl, bw_c2 (List.mem_of_getElem? (i := 226) rfl) rfl, rfl, by decide, by decide⟩
theorem pi_X7 : (parseMethodDescriptor yX7_init.desc).map (fun d => d.parameters.length) = some 0 := by decide +kernel
set_option maxRecDepth 20000 in
theorem lo_X7 : Cond.methodLink RX7 3 Lib.objectInit ∈ BW := bw_c2 (List.mem_of_getElem? (i := 227) (by decide +kernel)) rfl
theorem dX8_init_0 : decode cX8_init 0 = .ok (.aload_n 0, 1) := by decide +kernel
theorem dX8_init_1 : decode cX8_init 1 = .ok (.invokespecial 3, 3) := by decide +kernel
theorem dX8_init_4 : decode cX8_init 4 = .ok (.aload_n 0, 1) := by decide +kernel
theorem dX8_init_5 : decode cX8_init 5 = .ok (.sipush 1000, 3) := by decide +kernel
theorem dX8_init_8 : decode cX8_init 8 = .ok (.newarray .char, 2) := by decide +kernel
theorem dX8_init_10 : decode cX8_init 10 = .ok (.putfield 9, 3) := by decide +kernel
theorem dX8_init_13 : decode cX8_init 13 = .ok (.return_, 1) := by decide +kernel
set_option maxRecDepth 20000 in
theorem mc_X8 : MC yX8_init cX8_init 1 := ⟨bw_c1 (List.mem_of_getElem? (i := 38) (by decide +kernel)) rfl, bw_c1 (List.mem_of_getElem? (i := 2) (by decide +kernel)) rfl, bw_c1 (List.mem_of_getElem? (i := 39) rfl) rfl, rfl, by decide, by decide⟩
theorem pi_X8 : (parseMethodDescriptor yX8_init.desc).map (fun d => d.parameters.length) = some 0 := by decide +kernel
set_option maxRecDepth 20000 in
theorem lo_X8 : Cond.methodLink RX8 3 Lib.objectInit ∈ BW := bw_c1 (List.mem_of_getElem? (i := 40) (by decide +kernel)) rfl
theorem dX9_init_0 : decode cX9_init 0 = .ok (.aload_n 0, 1) := by decide +kernel
theorem dX9_init_1 : decode cX9_init 1 = .ok (.invokespecial 3, 3) := by decide +kernel
theorem dX9_init_4 : decode cX9_init 4 = .ok (.aload_n 0, 1) := by decide +kernel
theorem dX9_init_5 : decode cX9_init 5 = .ok (.sipush 1001, 3) := by decide +kernel
theorem dX9_init_8 : decode cX9_init 8 = .ok (.newarray .int, 2) := by decide +kernel
theorem dX9_init_10 : decode cX9_init 10 = .ok (.putfield 9, 3) := by decide +kernel
theorem dX9_init_13 : decode cX9_init 13 = .ok (.aload_n 0, 1) := by decide +kernel
theorem dX9_init_14 : decode cX9_init 14 = .ok (.sipush 1001, 3) := by decide +kernel
theorem dX9_init_17 : decode cX9_init 17 = .ok (.newarray .int, 2) := by decide +kernel
theorem dX9_init_19 : decode cX9_init 19 = .ok (.putfield 15, 3) := by decide +kernel
theorem dX9_init_22 : decode cX9_init 22 = .ok (.aload_n 0, 1) := by decide +kernel
theorem dX9_init_23 : decode cX9_init 23 = .ok (.sipush 1001, 3) := by decide +kernel
theorem dX9_init_26 : decode cX9_init 26 = .ok (.newarray .int, 2) := by decide +kernel
theorem dX9_init_28 : decode cX9_init 28 = .ok (.putfield 18, 3) := by decide +kernel
theorem dX9_init_31 : decode cX9_init 31 = .ok (.aload_n 0, 1) := by decide +kernel
theorem dX9_init_32 : decode cX9_init 32 = .ok (.aload_n 1, 1) := by decide +kernel
theorem dX9_init_33 : decode cX9_init 33 = .ok (.putfield 21, 3) := by decide +kernel
theorem dX9_init_36 : decode cX9_init 36 = .ok (.return_, 1) := by decide +kernel
set_option maxRecDepth 20000 in
theorem mc_X9 : MC yX9_init cX9_init 2 := ⟨bw_c1 (List.mem_of_getElem? (i := 93) (by decide +kernel)) rfl, bw_c1 (List.mem_of_getElem? (i := 5) (by decide +kernel)) rfl, bw_c1 (List.mem_of_getElem? (i := 94) rfl) rfl, rfl, by decide, by decide⟩
theorem pi_X9 : (parseMethodDescriptor yX9_init.desc).map (fun d => d.parameters.length) = some 1 := by decide +kernel
set_option maxRecDepth 20000 in
theorem lo_X9 : Cond.methodLink RX9 3 Lib.objectInit ∈ BW := bw_c1 (List.mem_of_getElem? (i := 95) (by decide +kernel)) rfl
theorem dX10_init_0 : decode cX10_init 0 = .ok (.aload_n 0, 1) := by decide +kernel
theorem dX10_init_1 : decode cX10_init 1 = .ok (.invokespecial 3, 3) := by decide +kernel
theorem dX10_init_4 : decode cX10_init 4 = .ok (.aload_n 0, 1) := by decide +kernel
theorem dX10_init_5 : decode cX10_init 5 = .ok (.bipush 24, 2) := by decide +kernel
theorem dX10_init_7 : decode cX10_init 7 = .ok (.newarray .int, 2) := by decide +kernel
theorem dX10_init_9 : decode cX10_init 9 = .ok (.putfield 9, 3) := by decide +kernel
theorem dX10_init_12 : decode cX10_init 12 = .ok (.aload_n 0, 1) := by decide +kernel
theorem dX10_init_13 : decode cX10_init 13 = .ok (.bipush 24, 2) := by decide +kernel
theorem dX10_init_15 : decode cX10_init 15 = .ok (.newarray .int, 2) := by decide +kernel
theorem dX10_init_17 : decode cX10_init 17 = .ok (.putfield 15, 3) := by decide +kernel
theorem dX10_init_20 : decode cX10_init 20 = .ok (.aload_n 0, 1) := by decide +kernel
theorem dX10_init_21 : decode cX10_init 21 = .ok (.bipush 24, 2) := by decide +kernel
theorem dX10_init_23 : decode cX10_init 23 = .ok (.newarray .int, 2) := by decide +kernel
theorem dX10_init_25 : decode cX10_init 25 = .ok (.putfield 18, 3) := by decide +kernel
theorem dX10_init_28 : decode cX10_init 28 = .ok (.aload_n 0, 1) := by decide +kernel
theorem dX10_init_29 : decode cX10_init 29 = .ok (.bipush 24, 2) := by decide +kernel
theorem dX10_init_31 : decode cX10_init 31 = .ok (.newarray .int, 2) := by decide +kernel
theorem dX10_init_33 : decode cX10_init 33 = .ok (.putfield 21, 3) := by decide +kernel
theorem dX10_init_36 : decode cX10_init 36 = .ok (.aload_n 0, 1) := by decide +kernel
theorem dX10_init_37 : decode cX10_init 37 = .ok (.iconst 2, 1) := by decide +kernel
theorem dX10_init_38 : decode cX10_init 38 = .ok (.newarray .int, 2) := by decide +kernel
theorem dX10_init_40 : decode cX10_init 40 = .ok (.putfield 24, 3) := by decide +kernel
theorem dX10_init_43 : decode cX10_init 43 = .ok (.aload_n 0, 1) := by decide +kernel
theorem dX10_init_44 : decode cX10_init 44 = .ok (.iconst 2, 1) := by decide +kernel
theorem dX10_init_45 : decode cX10_init 45 = .ok (.iconst 5, 1) := by decide +kernel
theorem dX10_init_46 : decode cX10_init 46 = .ok (.multianewarray 27 2, 4) := by decide +kernel
theorem dX10_init_50 : decode cX10_init 50 = .ok (.putfield 29, 3) := by decide +kernel
theorem dX10_init_53 : decode cX10_init 53 = .ok (.aload_n 0, 1) := by decide +kernel
theorem dX10_init_54 : decode cX10_init 54 = .ok (.iconst 2, 1) := by decide +kernel
theorem dX10_init_55 : decode cX10_init 55 = .ok (.newarray .int, 2) := by decide +kernel
theorem dX10_init_57 : decode cX10_init 57 = .ok (.putfield 32, 3) := by decide +kernel
theorem dX10_init_60 : decode cX10_init 60 = .ok (.aload_n 0, 1) := by decide +kernel
theorem dX10_init_61 : decode cX10_init 61 = .ok (.iconst 2, 1) := by decide +kernel
theorem dX10_init_62 : decode cX10_init 62 = .ok (.newarray .int, 2) := by decide +kernel
theorem dX10_init_64 : decode cX10_init 64 = .ok (.putfield 35, 3) := by decide +kernel
theorem dX10_init_67 : decode cX10_init 67 = .ok (.aload_n 0, 1) := by decide +kernel
theorem dX10_init_68 : decode cX10_init 68 = .ok (.iconst 2, 1) := by decide +kernel
theorem dX10_init_69 : decode cX10_init 69 = .ok (.newarray .int, 2) := by decide +kernel
theorem dX10_init_71 : decode cX10_init 71 = .ok (.putfield 38, 3) := by decide +kernel
theorem dX10_init_74 : decode cX10_init 74 = .ok (.aload_n 0, 1) := by decide +kernel
theorem dX10_init_75 : decode cX10_init 75 = .ok (.iconst 2, 1) := by decide +kernel
theorem dX10_init_76 : decode cX10_init 76 = .ok (.newarray .int, 2) := by decide +kernel
theorem dX10_init_78 : decode cX10_init 78 = .ok (.putfield 41, 3) := by decide +kernel
theorem dX10_init_81 : decode cX10_init 81 = .ok (.aload_n 0, 1) := by decide +kernel
theorem dX10_init_82 : decode cX10_init 82 = .ok (.iconst 2, 1) := by decide +kernel
theorem dX10_init_83 : decode cX10_init 83 = .ok (.newarray .int, 2) := by decide +kernel
theorem dX10_init_85 : decode cX10_init 85 = .ok (.putfield 44, 3) := by decide +kernel
theorem dX10_init_88 : decode cX10_init 88 = .ok (.aload_n 0, 1) := by decide +kernel
theorem dX10_init_89 : decode cX10_init 89 = .ok (.bipush 6, 2) := by decide +kernel
theorem dX10_init_91 : decode cX10_init 91 = .ok (.newarray .int, 2) := by decide +kernel
theorem dX10_init_93 : decode cX10_init 93 = .ok (.putfield 47, 3) := by decide +kernel
theorem dX10_init_96 : decode cX10_init 96 = .ok (.aload_n 0, 1) := by decide +kernel
theorem dX10_init_97 : decode cX10_init 97 = .ok (.bipush 6, 2) := by decide +kernel
theorem dX10_init_99 : decode cX10_init 99 = .ok (.newarray .int, 2) := by decide +kernel
theorem dX10_init_101 : decode cX10_init 101 = .ok (.putfield 50, 3) := by decide +kernel
theorem dX10_init_104 : decode cX10_init 104 = .ok (.aload_n 0, 1) := by decide +kernel
theorem dX10_init_105 : decode cX10_init 105 = .ok (.iconst (-1), 1) := by decide +kernel
theorem dX10_init_106 : decode cX10_init 106 = .ok (.putfield 53, 3) := by decide +kernel
theorem dX10_init_109 : decode cX10_init 109 = .ok (.aload_n 0, 1) := by decide +kernel
theorem dX10_init_110 : decode cX10_init 110 = .ok (.aload_n 1, 1) := by decide +kernel
theorem dX10_init_111 : decode cX10_init 111 = .ok (.putfield 57, 3) := by decide +kernel
theorem dX10_init_114 : decode cX10_init 114 = .ok (.return_, 1) := by decide +kernel
set_option maxRecDepth 20000 in
theorem mc_X10 : MC yX10_init cX10_init 2 := ⟨bw_c2 (List.mem_of_getElem? (i := 121) (by decide +kernel)) rfl, bw_c1 (List.mem_of_getElem? (i := 10) (by decide +kernel)) rfl, bw_c2 (List.mem_of_getElem? (i := 122) rfl) rfl, rfl, by decide, by decide⟩
theorem pi_X10 : (parseMethodDescriptor yX10_init.desc).map (fun d => d.parameters.length) = some 1 := by decide +kernel
set_option maxRecDepth 20000 in
theorem lo_X10 : Cond.methodLink RX10 3 Lib.objectInit ∈ BW := bw_c2 (List.mem_of_getElem? (i := 123) (by decide +kernel)) rfl
set_option maxRecDepth 20000 in
theorem wm_X10_27 : Cond.classLink RX10 27 "[[I" ∈ BW := bw_c2 (List.mem_of_getElem? (i := 124) (by decide +kernel)) rfl
theorem dX11_init_0 : decode cX11_init 0 = .ok (.aload_n 0, 1) := by decide +kernel
theorem dX11_init_1 : decode cX11_init 1 = .ok (.invokespecial 1, 3) := by decide +kernel
theorem dX11_init_4 : decode cX11_init 4 = .ok (.aload_n 0, 1) := by decide +kernel
theorem dX11_init_5 : decode cX11_init 5 = .ok (.new 7, 3) := by decide +kernel
theorem dX11_init_8 : decode cX11_init 8 = .ok (.dup, 1) := by decide +kernel
theorem dX11_init_9 : decode cX11_init 9 = .ok (.invokespecial 9, 3) := by decide +kernel
theorem dX11_init_12 : decode cX11_init 12 = .ok (.putfield 10, 3) := by decide +kernel
theorem dX11_init_15 : decode cX11_init 15 = .ok (.aload_n 0, 1) := by decide +kernel
theorem dX11_init_16 : decode cX11_init 16 = .ok (.new 16, 3) := by decide +kernel
theorem dX11_init_19 : decode cX11_init 19 = .ok (.dup, 1) := by decide +kernel
theorem dX11_init_20 : decode cX11_init 20 = .ok (.aload_n 0, 1) := by decide +kernel
theorem dX11_init_21 : decode cX11_init 21 = .ok (.getfield 10, 3) := by decide +kernel
theorem dX11_init_24 : decode cX11_init 24 = .ok (.invokespecial 18, 3) := by decide +kernel
theorem dX11_init_27 : decode cX11_init 27 = .ok (.putfield 21, 3) := by decide +kernel
theorem dX11_init_30 : decode cX11_init 30 = .ok (.aload_n 0, 1) := by decide +kernel
theorem dX11_init_31 : decode cX11_init 31 = .ok (.new 25, 3) := by decide +kernel
theorem dX11_init_34 : decode cX11_init 34 = .ok (.dup, 1) := by decide +kernel
theorem dX11_init_35 : decode cX11_init 35 = .ok (.invokespecial 27, 3) := by decide +kernel
theorem dX11_init_38 : decode cX11_init 38 = .ok (.putfield 28, 3) := by decide +kernel
theorem dX11_init_41 : decode cX11_init 41 = .ok (.aload_n 0, 1) := by decide +kernel
theorem dX11_init_42 : decode cX11_init 42 = .ok (.new 32, 3) := by decide +kernel
theorem dX11_init_45 : decode cX11_init 45 = .ok (.dup, 1) := by decide +kernel
theorem dX11_init_46 : decode cX11_init 46 = .ok (.aload_n 0, 1) := by decide +kernel
theorem dX11_init_47 : decode cX11_init 47 = .ok (.getfield 28, 3) := by decide +kernel
theorem dX11_init_50 : decode cX11_init 50 = .ok (.invokespecial 34, 3) := by decide +kernel
theorem dX11_init_53 : decode cX11_init 53 = .ok (.putfield 37, 3) := by decide +kernel
theorem dX11_init_56 : decode cX11_init 56 = .ok (.aload_n 0, 1) := by decide +kernel
theorem dX11_init_57 : decode cX11_init 57 = .ok (.new 41, 3) := by decide +kernel
theorem dX11_init_60 : decode cX11_init 60 = .ok (.dup, 1) := by decide +kernel
theorem dX11_init_61 : decode cX11_init 61 = .ok (.aload_n 0, 1) := by decide +kernel
theorem dX11_init_62 : decode cX11_init 62 = .ok (.getfield 37, 3) := by decide +kernel
theorem dX11_init_65 : decode cX11_init 65 = .ok (.invokespecial 43, 3) := by decide +kernel
theorem dX11_init_68 : decode cX11_init 68 = .ok (.putfield 46, 3) := by decide +kernel
theorem dX11_init_71 : decode cX11_init 71 = .ok (.aload_n 0, 1) := by decide +kernel
theorem dX11_init_72 : decode cX11_init 72 = .ok (.new 50, 3) := by decide +kernel
theorem dX11_init_75 : decode cX11_init 75 = .ok (.dup, 1) := by decide +kernel
theorem dX11_init_76 : decode cX11_init 76 = .ok (.invokespecial 52, 3) := by decide +kernel
theorem dX11_init_79 : decode cX11_init 79 = .ok (.putfield 53, 3) := by decide +kernel
theorem dX11_init_82 : decode cX11_init 82 = .ok (.aload_n 0, 1) := by decide +kernel
theorem dX11_init_83 : decode cX11_init 83 = .ok (.new 57, 3) := by decide +kernel
theorem dX11_init_86 : decode cX11_init 86 = .ok (.dup, 1) := by decide +kernel
theorem dX11_init_87 : decode cX11_init 87 = .ok (.aload_n 0, 1) := by decide +kernel
theorem dX11_init_88 : decode cX11_init 88 = .ok (.getfield 53, 3) := by decide +kernel
theorem dX11_init_91 : decode cX11_init 91 = .ok (.invokespecial 59, 3) := by decide +kernel
theorem dX11_init_94 : decode cX11_init 94 = .ok (.putfield 62, 3) := by decide +kernel
theorem dX11_init_97 : decode cX11_init 97 = .ok (.aload_n 0, 1) := by decide +kernel
theorem dX11_init_98 : decode cX11_init 98 = .ok (.new 66, 3) := by decide +kernel
theorem dX11_init_101 : decode cX11_init 101 = .ok (.dup, 1) := by decide +kernel
theorem dX11_init_102 : decode cX11_init 102 = .ok (.aload_n 0, 1) := by decide +kernel
theorem dX11_init_103 : decode cX11_init 103 = .ok (.getfield 53, 3) := by decide +kernel
theorem dX11_init_106 : decode cX11_init 106 = .ok (.invokespecial 68, 3) := by decide +kernel
theorem dX11_init_109 : decode cX11_init 109 = .ok (.putfield 69, 3) := by decide +kernel
theorem dX11_init_112 : decode cX11_init 112 = .ok (.aload_n 0, 1) := by decide +kernel
theorem dX11_init_113 : decode cX11_init 113 = .ok (.new 73, 3) := by decide +kernel
theorem dX11_init_116 : decode cX11_init 116 = .ok (.dup, 1) := by decide +kernel
theorem dX11_init_117 : decode cX11_init 117 = .ok (.invokespecial 75, 3) := by decide +kernel
theorem dX11_init_120 : decode cX11_init 120 = .ok (.putfield 76, 3) := by decide +kernel
theorem dX11_init_123 : decode cX11_init 123 = .ok (.aload_n 0, 1) := by decide +kernel
theorem dX11_init_124 : decode cX11_init 124 = .ok (.iconst 4, 1) := by decide +kernel
theorem dX11_init_125 : decode cX11_init 125 = .ok (.invokevirtual 80, 3) := by decide +kernel
theorem dX11_init_128 : decode cX11_init 128 = .ok (.return_, 1) := by decide +kernel
set_option maxRecDepth 20000 in
theorem mc_X11 : MC yX11_init cX11_init 1 := ⟨bw_c1 (List.mem_of_getElem? (i := 30) (by decide +kernel)) rfl, bw_c1 (List.mem_of_getElem? (i := 1) (by decide +kernel)) rfl, bw_c1 (List.mem_of_getElem? (i := 31) rfl) rfl, rfl, by decide, by decide⟩
theorem pi_X11 : (parseMethodDescriptor yX11_init.desc).map (fun d => d.parameters.length) = some 0 := by decide +kernel
set_option maxRecDepth 20000 in
theorem lo_X11 : Cond.methodLink RX11 1 Lib.objectInit ∈ BW := bw_c1 (List.mem_of_getElem? (i := 32) (by decide +kernel)) rfl
theorem dX12_init_0 : decode cX12_init 0 = .ok (.aload_n 0, 1) := by decide +kernel
theorem dX12_init_1 : decode cX12_init 1 = .ok (.invokespecial 1, 3) := by decide +kernel
theorem dX12_init_4 : decode cX12_init 4 = .ok (.aload_n 0, 1) := by decide +kernel
theorem dX12_init_5 : decode cX12_init 5 = .ok (.iconst 4, 1) := by decide +kernel
theorem dX12_init_6 : decode cX12_init 6 = .ok (.putfield 7, 3) := by decide +kernel
theorem dX12_init_9 : decode cX12_init 9 = .ok (.aload_n 0, 1) := by decide +kernel
theorem dX12_init_10 : decode cX12_init 10 = .ok (.sipush 1000, 3) := by decide +kernel
theorem dX12_init_13 : decode cX12_init 13 = .ok (.newarray .int, 2) := by decide +kernel
theorem dX12_init_15 : decode cX12_init 15 = .ok (.putfield 13, 3) := by decide +kernel
theorem dX12_init_18 : decode cX12_init 18 = .ok (.aload_n 0, 1) := by decide +kernel
theorem dX12_init_19 : decode cX12_init 19 = .ok (.bipush 26, 2) := by decide +kernel
theorem dX12_init_21 : decode cX12_init 21 = .ok (.newarray .boolean, 2) := by decide +kernel
theorem dX12_init_23 : decode cX12_init 23 = .ok (.putfield 17, 3) := by decide +kernel
theorem dX12_init_26 : decode cX12_init 26 = .ok (.aload_n 0, 1) := by decide +kernel
theorem dX12_init_27 : decode cX12_init 27 = .ok (.bipush 26, 2) := by decide +kernel
theorem dX12_init_29 : decode cX12_init 29 = .ok (.newarray .int, 2) := by decide +kernel
theorem dX12_init_31 : decode cX12_init 31 = .ok (.putfield 21, 3) := by decide +kernel
theorem dX12_init_34 : decode cX12_init 34 = .ok (.aload_n 0, 1) := by decide +kernel
theorem dX12_init_35 : decode cX12_init 35 = .ok (.bipush 26, 2) := by decide +kernel
theorem dX12_init_37 : decode cX12_init 37 = .ok (.newarray .int, 2) := by decide +kernel
theorem dX12_init_39 : decode cX12_init 39 = .ok (.putfield 24, 3) := by decide +kernel
theorem dX12_init_42 : decode cX12_init 42 = .ok (.aload_n 0, 1) := by decide +kernel
theorem dX12_init_43 : decode cX12_init 43 = .ok (.bipush 26, 2) := by decide +kernel
theorem dX12_init_45 : decode cX12_init 45 = .ok (.newarray .boolean, 2) := by decide +kernel
theorem dX12_init_47 : decode cX12_init 47 = .ok (.putfield 27, 3) := by decide +kernel
theorem dX12_init_50 : decode cX12_init 50 = .ok (.aload_n 0, 1) := by decide +kernel
theorem dX12_init_51 : decode cX12_init 51 = .ok (.bipush 26, 2) := by decide +kernel
theorem dX12_init_53 : decode cX12_init 53 = .ok (.newarray .int, 2) := by decide +kernel
theorem dX12_init_55 : decode cX12_init 55 = .ok (.putfield 30, 3) := by decide +kernel
theorem dX12_init_58 : decode cX12_init 58 = .ok (.aload_n 0, 1) := by decide +kernel
theorem dX12_init_59 : decode cX12_init 59 = .ok (.bipush 26, 2) := by decide +kernel
theorem dX12_init_61 : decode cX12_init 61 = .ok (.newarray .int, 2) := by decide +kernel
theorem dX12_init_63 : decode cX12_init 63 = .ok (.putfield 33, 3) := by decide +kernel
theorem dX12_init_66 : decode cX12_init 66 = .ok (.aload_n 0, 1) := by decide +kernel
theorem dX12_init_67 : decode cX12_init 67 = .ok (.sipush 4000, 3) := by decide +kernel
theorem dX12_init_70 : decode cX12_init 70 = .ok (.newarray .int, 2) := by decide +kernel
theorem dX12_init_72 : decode cX12_init 72 = .ok (.putfield 36, 3) := by decide +kernel
theorem dX12_init_75 : decode cX12_init 75 = .ok (.aload_n 0, 1) := by decide +kernel
theorem dX12_init_76 : decode cX12_init 76 = .ok (.bipush 7, 2) := by decide +kernel
theorem dX12_init_78 : decode cX12_init 78 = .ok (.newarray .int, 2) := by decide +kernel
theorem dX12_init_80 : decode cX12_init 80 = .ok (.putfield 39, 3) := by decide +kernel
theorem dX12_init_83 : decode cX12_init 83 = .ok (.aload_n 0, 1) := by decide +kernel
theorem dX12_init_84 : decode cX12_init 84 = .ok (.bipush 7, 2) := by decide +kernel
theorem dX12_init_86 : decode cX12_init 86 = .ok (.newarray .boolean, 2) := by decide +kernel
theorem dX12_init_88 : decode cX12_init 88 = .ok (.putfield 42, 3) := by decide +kernel
theorem dX12_init_91 : decode cX12_init 91 = .ok (.aload_n 0, 1) := by decide +kernel
theorem dX12_init_92 : decode cX12_init 92 = .ok (.bipush 7, 2) := by decide +kernel
theorem dX12_init_94 : decode cX12_init 94 = .ok (.newarray .int, 2) := by decide +kernel
theorem dX12_init_96 : decode cX12_init 96 = .ok (.putfield 45, 3) := by decide +kernel
theorem dX12_init_99 : decode cX12_init 99 = .ok (.aload_n 0, 1) := by decide +kernel
theorem dX12_init_100 : decode cX12_init 100 = .ok (.bipush 7, 2) := by decide +kernel
theorem dX12_init_102 : decode cX12_init 102 = .ok (.newarray .int, 2) := by decide +kernel
theorem dX12_init_104 : decode cX12_init 104 = .ok (.putfield 48, 3) := by decide +kernel
theorem dX12_init_107 : decode cX12_init 107 = .ok (.aload_n 0, 1) := by decide +kernel
theorem dX12_init_108 : decode cX12_init 108 = .ok (.bipush 7, 2) := by decide +kernel
theorem dX12_init_110 : decode cX12_init 110 = .ok (.newarray .int, 2) := by decide +kernel
theorem dX12_init_112 : decode cX12_init 112 = .ok (.putfield 51, 3) := by decide +kernel
theorem dX12_init_115 : decode cX12_init 115 = .ok (.aload_n 0, 1) := by decide +kernel
theorem dX12_init_116 : decode cX12_init 116 = .ok (.bipush 7, 2) := by decide +kernel
theorem dX12_init_118 : decode cX12_init 118 = .ok (.newarray .int, 2) := by decide +kernel
theorem dX12_init_120 : decode cX12_init 120 = .ok (.putfield 54, 3) := by decide +kernel
theorem dX12_init_123 : decode cX12_init 123 = .ok (.aload_n 0, 1) := by decide +kernel
theorem dX12_init_124 : decode cX12_init 124 = .ok (.bipush 7, 2) := by decide +kernel
theorem dX12_init_126 : decode cX12_init 126 = .ok (.newarray .int, 2) := by decide +kernel
theorem dX12_init_128 : decode cX12_init 128 = .ok (.putfield 57, 3) := by decide +kernel
theorem dX12_init_131 : decode cX12_init 131 = .ok (.aload_n 0, 1) := by decide +kernel
theorem dX12_init_132 : decode cX12_init 132 = .ok (.bipush 7, 2) := by decide +kernel
theorem dX12_init_134 : decode cX12_init 134 = .ok (.newarray .int, 2) := by decide +kernel
theorem dX12_init_136 : decode cX12_init 136 = .ok (.putfield 60, 3) := by decide +kernel
theorem dX12_init_139 : decode cX12_init 139 = .ok (.aload_n 0, 1) := by decide +kernel
theorem dX12_init_140 : decode cX12_init 140 = .ok (.bipush 7, 2) := by decide +kernel
theorem dX12_init_142 : decode cX12_init 142 = .ok (.newarray .int, 2) := by decide +kernel
theorem dX12_init_144 : decode cX12_init 144 = .ok (.putfield 63, 3) := by decide +kernel
theorem dX12_init_147 : decode cX12_init 147 = .ok (.aload_n 0, 1) := by decide +kernel
theorem dX12_init_148 : decode cX12_init 148 = .ok (.bipush 7, 2) := by decide +kernel
theorem dX12_init_150 : decode cX12_init 150 = .ok (.newarray .int, 2) := by decide +kernel
theorem dX12_init_152 : decode cX12_init 152 = .ok (.putfield 66, 3) := by decide +kernel
theorem dX12_init_155 : decode cX12_init 155 = .ok (.aload_n 0, 1) := by decide +kernel
theorem dX12_init_156 : decode cX12_init 156 = .ok (.bipush 7, 2) := by decide +kernel
theorem dX12_init_158 : decode cX12_init 158 = .ok (.newarray .int, 2) := by decide +kernel
theorem dX12_init_160 : decode cX12_init 160 = .ok (.putfield 69, 3) := by decide +kernel
theorem dX12_init_163 : decode cX12_init 163 = .ok (.aload_n 0, 1) := by decide +kernel
theorem dX12_init_164 : decode cX12_init 164 = .ok (.bipush 60, 2) := by decide +kernel
theorem dX12_init_166 : decode cX12_init 166 = .ok (.newarray .int, 2) := by decide +kernel
theorem dX12_init_168 : decode cX12_init 168 = .ok (.putfield 72, 3) := by decide +kernel
theorem dX12_init_171 : decode cX12_init 171 = .ok (.aload_n 0, 1) := by decide +kernel
theorem dX12_init_172 : decode cX12_init 172 = .ok (.sipush 3072, 3) := by decide +kernel
theorem dX12_init_175 : decode cX12_init 175 = .ok (.newarray .int, 2) := by decide +kernel
theorem dX12_init_177 : decode cX12_init 177 = .ok (.putfield 75, 3) := by decide +kernel
theorem dX12_init_180 : decode cX12_init 180 = .ok (.aload_n 0, 1) := by decide +kernel
theorem dX12_init_181 : decode cX12_init 181 = .ok (.sipush 3072, 3) := by decide +kernel
theorem dX12_init_184 : decode cX12_init 184 = .ok (.newarray .int, 2) := by decide +kernel
theorem dX12_init_186 : decode cX12_init 186 = .ok (.putfield 78, 3) := by decide +kernel
theorem dX12_init_189 : decode cX12_init 189 = .ok (.aload_n 0, 1) := by decide +kernel
theorem dX12_init_190 : decode cX12_init 190 = .ok (.sipush 3072, 3) := by decide +kernel
theorem dX12_init_193 : decode cX12_init 193 = .ok (.newarray .int, 2) := by decide +kernel
theorem dX12_init_195 : decode cX12_init 195 = .ok (.putfield 81, 3) := by decide +kernel
theorem dX12_init_198 : decode cX12_init 198 = .ok (.aload_n 0, 1) := by decide +kernel
theorem dX12_init_199 : decode cX12_init 199 = .ok (.sipush 3072, 3) := by decide +kernel
theorem dX12_init_202 : decode cX12_init 202 = .ok (.newarray .int, 2) := by decide +kernel
theorem dX12_init_204 : decode cX12_init 204 = .ok (.putfield 84, 3) := by decide +kernel
theorem dX12_init_207 : decode cX12_init 207 = .ok (.aload_n 0, 1) := by decide +kernel
theorem dX12_init_208 : decode cX12_init 208 = .ok (.sipush 3072, 3) := by decide +kernel
theorem dX12_init_211 : decode cX12_init 211 = .ok (.newarray .boolean, 2) := by decide +kernel
theorem dX12_init_213 : decode cX12_init 213 = .ok (.putfield 87, 3) := by decide +kernel
theorem dX12_init_216 : decode cX12_init 216 = .ok (.aload_n 0, 1) := by decide +kernel
theorem dX12_init_217 : decode cX12_init 217 = .ok (.sipush 21504, 3) := by decide +kernel
theorem dX12_init_220 : decode cX12_init 220 = .ok (.newarray .int, 2) := by decide +kernel
theorem dX12_init_222 : decode cX12_init 222 = .ok (.putfield 90, 3) := by decide +kernel
theorem dX12_init_225 : decode cX12_init 225 = .ok (.aload_n 0, 1) := by decide +kernel
theorem dX12_init_226 : decode cX12_init 226 = .ok (.sipush 3072, 3) := by decide +kernel
theorem dX12_init_229 : decode cX12_init 229 = .ok (.newarray .int, 2) := by decide +kernel
theorem dX12_init_231 : decode cX12_init 231 = .ok (.putfield 93, 3) := by decide +kernel
theorem dX12_init_234 : decode cX12_init 234 = .ok (.aload_n 0, 1) := by decide +kernel
theorem dX12_init_235 : decode cX12_init 235 = .ok (.sipush 12288, 3) := by decide +kernel
theorem dX12_init_238 : decode cX12_init 238 = .ok (.newarray .int, 2) := by decide +kernel
theorem dX12_init_240 : decode cX12_init 240 = .ok (.putfield 96, 3) := by decide +kernel
theorem dX12_init_243 : decode cX12_init 243 = .ok (.aload_n 0, 1) := by decide +kernel
theorem dX12_init_244 : decode cX12_init 244 = .ok (.iconst 4, 1) := by decide +kernel
theorem dX12_init_245 : decode cX12_init 245 = .ok (.newarray .int, 2) := by decide +kernel
theorem dX12_init_247 : decode cX12_init 247 = .ok (.putfield 99, 3) := by decide +kernel
theorem dX12_init_250 : decode cX12_init 250 = .ok (.aload_n 0, 1) := by decide +kernel
theorem dX12_init_251 : decode cX12_init 251 = .ok (.sipush 3072, 3) := by decide +kernel
theorem dX12_init_254 : decode cX12_init 254 = .ok (.newarray .int, 2) := by decide +kernel
theorem dX12_init_256 : decode cX12_init 256 = .ok (.putfield 102, 3) := by decide +kernel
theorem dX12_init_259 : decode cX12_init 259 = .ok (.aload_n 0, 1) := by decide +kernel
theorem dX12_init_260 : decode cX12_init 260 = .ok (.sipush 1024, 3) := by decide +kernel
theorem dX12_init_263 : decode cX12_init 263 = .ok (.newarray .int, 2) := by decide +kernel
theorem dX12_init_265 : decode cX12_init 265 = .ok (.putfield 105, 3) := by decide +kernel
theorem dX12_init_268 : decode cX12_init 268 = .ok (.aload_n 0, 1) := by decide +kernel
theorem dX12_init_269 : decode cX12_init 269 = .ok (.iconst 4, 1) := by decide +kernel
theorem dX12_init_270 : decode cX12_init 270 = .ok (.newarray .int, 2) := by decide +kernel
theorem dX12_init_272 : decode cX12_init 272 = .ok (.putfield 108, 3) := by decide +kernel
theorem dX12_init_275 : decode cX12_init 275 = .ok (.aload_n 0, 1) := by decide +kernel
theorem dX12_init_276 : decode cX12_init 276 = .ok (.iconst 1, 1) := by decide +kernel
theorem dX12_init_277 : decode cX12_init 277 = .ok (.putfield 111, 3) := by decide +kernel
theorem dX12_init_280 : decode cX12_init 280 = .ok (.aload_n 0, 1) := by decide +kernel
theorem dX12_init_281 : decode cX12_init 281 = .ok (.iconst 4, 1) := by decide +kernel
theorem dX12_init_282 : decode cX12_init 282 = .ok (.putfield 114, 3) := by decide +kernel
theorem dX12_init_285 : decode cX12_init 285 = .ok (.aload_n 0, 1) := by decide +kernel
theorem dX12_init_286 : decode cX12_init 286 = .ok (.iconst 1, 1) := by decide +kernel
theorem dX12_init_287 : decode cX12_init 287 = .ok (.putfield 117, 3) := by decide +kernel
theorem dX12_init_290 : decode cX12_init 290 = .ok (.aload_n 0, 1) := by decide +kernel
theorem dX12_init_291 : decode cX12_init 291 = .ok (.bipush 24, 2) := by decide +kernel
theorem dX12_init_293 : decode cX12_init 293 = .ok (.newarray .int, 2) := by decide +kernel
theorem dX12_init_295 : decode cX12_init 295 = .ok (.putfield 120, 3) := by decide +kernel
theorem dX12_init_298 : decode cX12_init 298 = .ok (.aload_n 0, 1) := by decide +kernel
theorem dX12_init_299 : decode cX12_init 299 = .ok (.bipush 24, 2) := by decide +kernel
theorem dX12_init_301 : decode cX12_init 301 = .ok (.newarray .int, 2) := by decide +kernel
theorem dX12_init_303 : decode cX12_init 303 = .ok (.putfield 123, 3) := by decide +kernel
theorem dX12_init_306 : decode cX12_init 306 = .ok (.aload_n 0, 1) := by decide +kernel
theorem dX12_init_307 : decode cX12_init 307 = .ok (.bipush 24, 2) := by decide +kernel
theorem dX12_init_309 : decode cX12_init 309 = .ok (.newarray .int, 2) := by decide +kernel
theorem dX12_init_311 : decode cX12_init 311 = .ok (.putfield 126, 3) := by decide +kernel
theorem dX12_init_314 : decode cX12_init 314 = .ok (.aload_n 0, 1) := by decide +kernel
theorem dX12_init_315 : decode cX12_init 315 = .ok (.bipush 8, 2) := by decide +kernel
theorem dX12_init_317 : decode cX12_init 317 = .ok (.newarray .int, 2) := by decide +kernel
theorem dX12_init_319 : decode cX12_init 319 = .ok (.putfield 129, 3) := by decide +kernel
theorem dX12_init_322 : decode cX12_init 322 = .ok (.aload_n 0, 1) := by decide +kernel
theorem dX12_init_323 : decode cX12_init 323 = .ok (.bipush 8, 2) := by decide +kernel
theorem dX12_init_325 : decode cX12_init 325 = .ok (.newarray .int, 2) := by decide +kernel
theorem dX12_init_327 : decode cX12_init 327 = .ok (.putfield 132, 3) := by decide +kernel
theorem dX12_init_330 : decode cX12_init 330 = .ok (.aload_n 0, 1) := by decide +kernel
theorem dX12_init_331 : decode cX12_init 331 = .ok (.bipush 8, 2) := by decide +kernel
theorem dX12_init_333 : decode cX12_init 333 = .ok (.newarray .int, 2) := by decide +kernel
theorem dX12_init_335 : decode cX12_init 335 = .ok (.putfield 135, 3) := by decide +kernel
theorem dX12_init_338 : decode cX12_init 338 = .ok (.aload_n 0, 1) := by decide +kernel
theorem dX12_init_339 : decode cX12_init 339 = .ok (.iconst (-1), 1) := by decide +kernel
theorem dX12_init_340 : decode cX12_init 340 = .ok (.putfield 138, 3) := by decide +kernel
theorem dX12_init_343 : decode cX12_init 343 = .ok (.aload_n 0, 1) := by decide +kernel
theorem dX12_init_344 : decode cX12_init 344 = .ok (.bipush 24, 2) := by decide +kernel
theorem dX12_init_346 : decode cX12_init 346 = .ok (.newarray .int, 2) := by decide +kernel
theorem dX12_init_348 : decode cX12_init 348 = .ok (.putfield 141, 3) := by decide +kernel
theorem dX12_init_351 : decode cX12_init 351 = .ok (.aload_n 0, 1) := by decide +kernel
theorem dX12_init_352 : decode cX12_init 352 = .ok (.bipush 24, 2) := by decide +kernel
theorem dX12_init_354 : decode cX12_init 354 = .ok (.newarray .int, 2) := by decide +kernel
theorem dX12_init_356 : decode cX12_init 356 = .ok (.putfield 144, 3) := by decide +kernel
theorem dX12_init_359 : decode cX12_init 359 = .ok (.aload_n 0, 1) := by decide +kernel
theorem dX12_init_360 : decode cX12_init 360 = .ok (.bipush 24, 2) := by decide +kernel
theorem dX12_init_362 : decode cX12_init 362 = .ok (.newarray .int, 2) := by decide +kernel
theorem dX12_init_364 : decode cX12_init 364 = .ok (.putfield 147, 3) := by decide +kernel
theorem dX12_init_367 : decode cX12_init 367 = .ok (.aload_n 0, 1) := by decide +kernel
theorem dX12_init_368 : decode cX12_init 368 = .ok (.iconst 2, 1) := by decide +kernel
theorem dX12_init_369 : decode cX12_init 369 = .ok (.newarray .int, 2) := by decide +kernel
theorem dX12_init_371 : decode cX12_init 371 = .ok (.putfield 150, 3) := by decide +kernel
theorem dX12_init_374 : decode cX12_init 374 = .ok (.aload_n 0, 1) := by decide +kernel
theorem dX12_init_375 : decode cX12_init 375 = .ok (.iconst 2, 1) := by decide +kernel
theorem dX12_init_376 : decode cX12_init 376 = .ok (.newarray .int, 2) := by decide +kernel
theorem dX12_init_378 : decode cX12_init 378 = .ok (.putfield 153, 3) := by decide +kernel
theorem dX12_init_381 : decode cX12_init 381 = .ok (.aload_n 0, 1) := by decide +kernel
theorem dX12_init_382 : decode cX12_init 382 = .ok (.iconst 2, 1) := by decide +kernel
theorem dX12_init_383 : decode cX12_init 383 = .ok (.newarray .int, 2) := by decide +kernel
theorem dX12_init_385 : decode cX12_init 385 = .ok (.putfield 156, 3) := by decide +kernel
theorem dX12_init_388 : decode cX12_init 388 = .ok (.aload_n 0, 1) := by decide +kernel
theorem dX12_init_389 : decode cX12_init 389 = .ok (.bipush 10, 2) := by decide +kernel
theorem dX12_init_391 : decode cX12_init 391 = .ok (.newarray .int, 2) := by decide +kernel
theorem dX12_init_393 : decode cX12_init 393 = .ok (.putfield 159, 3) := by decide +kernel
theorem dX12_init_396 : decode cX12_init 396 = .ok (.aload_n 0, 1) := by decide +kernel
theorem dX12_init_397 : decode cX12_init 397 = .ok (.iconst 2, 1) := by decide +kernel
theorem dX12_init_398 : decode cX12_init 398 = .ok (.newarray .int, 2) := by decide +kernel
theorem dX12_init_400 : decode cX12_init 400 = .ok (.putfield 162, 3) := by decide +kernel
theorem dX12_init_403 : decode cX12_init 403 = .ok (.aload_n 0, 1) := by decide +kernel
theorem dX12_init_404 : decode cX12_init 404 = .ok (.bipush 40, 2) := by decide +kernel
theorem dX12_init_406 : decode cX12_init 406 = .ok (.newarray .int, 2) := by decide +kernel
theorem dX12_init_408 : decode cX12_init 408 = .ok (.putfield 165, 3) := by decide +kernel
theorem dX12_init_411 : decode cX12_init 411 = .ok (.aload_n 0, 1) := by decide +kernel
theorem dX12_init_412 : decode cX12_init 412 = .ok (.bipush 40, 2) := by decide +kernel
theorem dX12_init_414 : decode cX12_init 414 = .ok (.newarray .int, 2) := by decide +kernel
theorem dX12_init_416 : decode cX12_init 416 = .ok (.putfield 168, 3) := by decide +kernel
theorem dX12_init_419 : decode cX12_init 419 = .ok (.aload_n 0, 1) := by decide +kernel
theorem dX12_init_420 : decode cX12_init 420 = .ok (.bipush 40, 2) := by decide +kernel
theorem dX12_init_422 : decode cX12_init 422 = .ok (.newarray .int, 2) := by decide +kernel
theorem dX12_init_424 : decode cX12_init 424 = .ok (.putfield 171, 3) := by decide +kernel
theorem dX12_init_427 : decode cX12_init 427 = .ok (.aload_n 0, 1) := by decide +kernel
theorem dX12_init_428 : decode cX12_init 428 = .ok (.sipush 1000, 3) := by decide +kernel
theorem dX12_init_431 : decode cX12_init 431 = .ok (.putfield 174, 3) := by decide +kernel
theorem dX12_init_434 : decode cX12_init 434 = .ok (.aload_n 0, 1) := by decide +kernel
theorem dX12_init_435 : decode cX12_init 435 = .ok (.iconst 1, 1) := by decide +kernel
theorem dX12_init_436 : decode cX12_init 436 = .ok (.putfield 177, 3) := by decide +kernel
theorem dX12_init_439 : decode cX12_init 439 = .ok (.return_, 1) := by decide +kernel
set_option maxRecDepth 20000 in
theorem mc_X12 : MC yX12_init cX12_init 1 := ⟨bw_c6 (List.mem_of_getElem? (i := 169) (by decide +kernel)) rfl, bw_c1 (List.mem_of_getElem? (i := 14) (by decide +kernel)) rfl, bw_c6 (List.mem_of_getElem? (i := 170) rfl) rfl, rfl, by decide, by decide⟩
theorem pi_X12 : (parseMethodDescriptor yX12_init.desc).map (fun d => d.parameters.length) = some 0 := by decide +kernel
set_option maxRecDepth 20000 in
theorem lo_X12 : Cond.methodLink RX12 1 Lib.objectInit ∈ BW := bw_c6 (List.mem_of_getElem? (i := 171) (by decide +kernel)) rfl
set_option maxRecDepth 20000 in
theorem nk_X11_7_1 : NWK RX11 7 8 1 2 := ⟨RX8, TX8, tyX8, _, rfl, bw_c1 (List.mem_of_getElem? (i := 35) (by decide +kernel)) rfl, bw_c1 (List.mem_of_getElem? (i := 36) (by decide +kernel)) rfl, bw_c1 (List.mem_of_getElem? (i := 2) (by decide +kernel)) rfl, inBX8, tyX8_ok, sh_1, rfl, by decide +kernel⟩
set_option maxHeartbeats 4000000 in
set_option maxRecDepth 20000 in
theorem K_X8_1 {E : EB} {h : PH} (hz : ∀ k, 2 ≤ k → k ≤ 2 → Zr k h) : MB noX E yX8_init cX8_init 1 1 12 1 1000 [.ref 1] [1] [1, 2] [(1, 0)] h (h) := by
  refine MB.of 0 (by decide) rfl rfl (fun X e1 C nB hex => ?_)
  subst e1
  replace C : CB X cX8_init 1 RX8 1 12 1 1000 := C
  show VB X _ _ [1] [] h 0 0 0 [some (.ref 1)] []
  refine B_aload_n (pc := 0) C dX8_init_0 rfl ?_
  refine B_objInit (pc := 1) C dX8_init_1 lo_X8 wo_i wo_c (by omega) (by decide) ?_
  refine B_aload_n (pc := 4) C dX8_init_4 rfl ?_
  refine B_sipush (pc := 5) (v := (1000)) C dX8_init_5 (by decide) ?_
  refine B_newa (pc := 8) (n := 2) (t := 1) (N := 1000) C dX8_init_8 rfl (by omega) wa_1 sh_2 (by decide) (by decide) (by omega) (by decide +kernel) (hz 2 (by omega) (by omega)) (by decide +kernel) rfl (by omega) (by omega) ?_
  show VB X _ _ [1, 2] [] (h) 1 1000 10 [some (.ref 1)] [.ref 2, .ref 1]
  refine B_putR (pc := 10) C dX8_init_10 lf_X8_9 fk_1_0 (by decide) (fun _ => ⟨nB, rfl⟩) rfl ?_
  exact B_vret (pc := 13) C nB dX8_init_13
set_option maxRecDepth 20000 in
theorem nk_X11_16_3 : NWK RX11 16 5 3 8 := ⟨RX5, TX5, tyX5, _, rfl, bw_c1 (List.mem_of_getElem? (i := 52) (by decide +kernel)) rfl, bw_c1 (List.mem_of_getElem? (i := 53) (by decide +kernel)) rfl, bw_c1 (List.mem_of_getElem? (i := 3) (by decide +kernel)) rfl, inBX5, tyX5_ok, sh_3, rfl, by decide +kernel⟩
set_option maxRecDepth 20000 in
theorem nk_X5_9_4 : NWK RX5 9 2 4 7 := ⟨RX2, TX2, tyX2, _, rfl, bw_c1 (List.mem_of_getElem? (i := 58) (by decide +kernel)) rfl, bw_c1 (List.mem_of_getElem? (i := 59) (by decide +kernel)) rfl, bw_c1 (List.mem_of_getElem? (i := 4) (by decide +kernel)) rfl, inBX2, tyX2_ok, sh_4, rfl, by decide +kernel⟩
set_option maxHeartbeats 4000000 in
set_option maxRecDepth 20000 in
theorem K_X2_4 {E : EB} {h : PH} (hz : ∀ k, 5 ≤ k → k ≤ 9 → Zr k h) : MB noX E yX2_init cX2_init 1 1 12 5 1092 [.ref 4] [4] [4, 5, 6, 7, 8, 9] [(4, 5), (4, 4), (4, 3), (4, 2), (4, 0)] h (h) := by
  refine MB.of 0 (by decide) rfl rfl (fun X e1 C nB hex => ?_)
  subst e1
  replace C : CB X cX2_init 1 RX2 1 12 5 1092 := C
  show VB X _ _ [4] [] h 0 0 0 [some (.ref 4)] []
  refine B_aload_n (pc := 0) C dX2_init_0 rfl ?_
  refine B_objInit (pc := 1) C dX2_init_1 lo_X2 wo_i wo_c (by omega) (by decide) ?_
  refine B_aload_n (pc := 4) C dX2_init_4 rfl ?_
  refine B_bipush (pc := 5) (v := (10)) C dX2_init_5 (by decide) ?_
  refine B_newa (pc := 7) (n := 5) (t := 0) (N := 10) C dX2_init_7 rfl (by omega) wa_0 sh_5 (by decide) (by decide) (by omega) (by decide +kernel) (hz 5 (by omega) (by omega)) (by decide +kernel) rfl (by omega) (by omega) ?_
  show VB X _ _ [4, 5] [] (h) 1 10 9 [some (.ref 4)] [.ref 5, .ref 4]
  refine B_putR (pc := 9) C dX2_init_9 lf_X2_9 fk_4_0 (by decide) (fun _ => ⟨nB, rfl⟩) rfl ?_
  refine B_aload_n (pc := 12) C dX2_init_12 rfl ?_
  refine B_sipush (pc := 13) (v := (1000)) C dX2_init_13 (by decide) ?_
  refine B_newa (pc := 16) (n := 6) (t := 0) (N := 1000) C dX2_init_16 rfl (by omega) wa_0 sh_6 (by decide) (by decide) (by omega) (by decide +kernel) (hz 6 (by omega) (by omega)) (by decide +kernel) rfl (by omega) (by omega) ?_
  show VB X _ _ [4, 5, 6] [(4, 0)] (h) 2 1010 18 [some (.ref 4)] [.ref 6, .ref 4]
  refine B_putR (pc := 18) C dX2_init_18 lf_X2_15 fk_4_2 (by decide) (fun _ => ⟨nB, rfl⟩) rfl ?_
  refine B_aload_n (pc := 21) C dX2_init_21 rfl ?_
  refine B_bipush (pc := 22) (v := (25)) C dX2_init_22 (by decide) ?_
  refine B_newa (pc := 24) (n := 7) (t := 0) (N := 25) C dX2_init_24 rfl (by omega) wa_0 sh_7 (by decide) (by decide) (by omega) (by decide +kernel) (hz 7 (by omega) (by omega)) (by decide +kernel) rfl (by omega) (by omega) ?_
  show VB X _ _ [4, 5, 6, 7] [(4, 2), (4, 0)] (h) 3 1035 26 [some (.ref 4)] [.ref 7, .ref 4]
  refine B_putR (pc := 26) C dX2_init_26 lf_X2_18 fk_4_3 (by decide) (fun _ => ⟨nB, rfl⟩) rfl ?_
  refine B_aload_n (pc := 29) C dX2_init_29 rfl ?_
  refine B_bipush (pc := 30) (v := (25)) C dX2_init_30 (by decide) ?_
  refine B_newa (pc := 32) (n := 8) (t := 0) (N := 25) C dX2_init_32 rfl (by omega) wa_0 sh_8 (by decide) (by decide) (by omega) (by decide +kernel) (hz 8 (by omega) (by omega)) (by decide +kernel) rfl (by omega) (by omega) ?_
  show VB X _ _ [4, 5, 6, 7, 8] [(4, 3), (4, 2), (4, 0)] (h) 4 1060 34 [some (.ref 4)] [.ref 8, .ref 4]
  refine B_putR (pc := 34) C dX2_init_34 lf_X2_21 fk_4_4 (by decide) (fun _ => ⟨nB, rfl⟩) rfl ?_
  refine B_aload_n (pc := 37) C dX2_init_37 rfl ?_
  refine B_bipush (pc := 38) (v := (32)) C dX2_init_38 (by decide) ?_
  refine B_newa (pc := 40) (n := 9) (t := 0) (N := 32) C dX2_init_40 rfl (by omega) wa_0 sh_9 (by decide) (by decide) (by omega) (by decide +kernel) (hz 9 (by omega) (by omega)) (by decide +kernel) rfl (by omega) (by omega) ?_
  show VB X _ _ [4, 5, 6, 7, 8, 9] [(4, 4), (4, 3), (4, 2), (4, 0)] (h) 5 1092 42 [some (.ref 4)] [.ref 9, .ref 4]
  refine B_putR (pc := 42) C dX2_init_42 lf_X2_24 fk_4_5 (by decide) (fun _ => ⟨nB, rfl⟩) rfl ?_
  exact B_vret (pc := 45) C nB dX2_init_45
set_option maxRecDepth 20000 in
theorem nk_X5_18_10 : NWK RX5 18 9 10 5 := ⟨RX9, TX9, tyX9, _, rfl, bw_c1 (List.mem_of_getElem? (i := 90) (by decide +kernel)) rfl, bw_c1 (List.mem_of_getElem? (i := 91) (by decide +kernel)) rfl, bw_c1 (List.mem_of_getElem? (i := 5) (by decide +kernel)) rfl, inBX9, tyX9_ok, sh_10, rfl, by decide +kernel⟩
set_option maxHeartbeats 4000000 in
set_option maxRecDepth 20000 in
theorem K_X9_10 {E : EB} {h : PH} (hz : ∀ k, 11 ≤ k → k ≤ 13 → Zr k h) : MB noX E yX9_init cX9_init 2 1 12 3 3003 [.ref 10, .ref 1] [10] [10, 11, 12, 13] [(10, 3), (10, 2), (10, 1), (10, 0)] h (h) := by
  refine MB.of 0 (by decide) rfl rfl (fun X e1 C nB hex => ?_)
  subst e1
  replace C : CB X cX9_init 2 RX9 1 12 3 3003 := C
  show VB X _ _ [10] [] h 0 0 0 [some (.ref 10), some (.ref 1)] []
  refine B_aload_n (pc := 0) C dX9_init_0 rfl ?_
  refine B_objInit (pc := 1) C dX9_init_1 lo_X9 wo_i wo_c (by omega) (by decide) ?_
  refine B_aload_n (pc := 4) C dX9_init_4 rfl ?_
  refine B_sipush (pc := 5) (v := (1001)) C dX9_init_5 (by decide) ?_
  refine B_newa (pc := 8) (n := 11) (t := 0) (N := 1001) C dX9_init_8 rfl (by omega) wa_0 sh_11 (by decide) (by decide) (by omega) (by decide +kernel) (hz 11 (by omega) (by omega)) (by decide +kernel) rfl (by omega) (by omega) ?_
  show VB X _ _ [10, 11] [] (h) 1 1001 10 [some (.ref 10), some (.ref 1)] [.ref 11, .ref 10]
  refine B_putR (pc := 10) C dX9_init_10 lf_X9_9 fk_10_0 (by decide) (fun _ => ⟨nB, rfl⟩) rfl ?_
  refine B_aload_n (pc := 13) C dX9_init_13 rfl ?_
  refine B_sipush (pc := 14) (v := (1001)) C dX9_init_14 (by decide) ?_
  refine B_newa (pc := 17) (n := 12) (t := 0) (N := 1001) C dX9_init_17 rfl (by omega) wa_0 sh_12 (by decide) (by decide) (by omega) (by decide +kernel) (hz 12 (by omega) (by omega)) (by decide +kernel) rfl (by omega) (by omega) ?_
  show VB X _ _ [10, 11, 12] [(10, 0)] (h) 2 2002 19 [some (.ref 10), some (.ref 1)] [.ref 12, .ref 10]
  refine B_putR (pc := 19) C dX9_init_19 lf_X9_15 fk_10_1 (by decide) (fun _ => ⟨nB, rfl⟩) rfl ?_
  refine B_aload_n (pc := 22) C dX9_init_22 rfl ?_
  refine B_sipush (pc := 23) (v := (1001)) C dX9_init_23 (by decide) ?_
  refine B_newa (pc := 26) (n := 13) (t := 0) (N := 1001) C dX9_init_26 rfl (by omega) wa_0 sh_13 (by decide) (by decide) (by omega) (by decide +kernel) (hz 13 (by omega) (by omega)) (by decide +kernel) rfl (by omega) (by omega) ?_
  show VB X _ _ [10, 11, 12, 13] [(10, 1), (10, 0)] (h) 3 3003 28 [some (.ref 10), some (.ref 1)] [.ref 13, .ref 10]
  refine B_putR (pc := 28) C dX9_init_28 lf_X9_18 fk_10_2 (by decide) (fun _ => ⟨nB, rfl⟩) rfl ?_
  refine B_aload_n (pc := 31) C dX9_init_31 rfl ?_
  refine B_aload_n (pc := 32) C dX9_init_32 rfl ?_
  refine B_putR (pc := 33) C dX9_init_33 lf_X9_21 fk_10_3 (by decide) (fun _ => ⟨nB, rfl⟩) rfl ?_
  exact B_vret (pc := 36) C nB dX9_init_36
set_option maxHeartbeats 4000000 in
set_option maxRecDepth 20000 in
theorem K_X5_3 {E : EB} {h : PH} (hz : ∀ k, 4 ≤ k → k ≤ 13 → Zr k h) : MB noX E yX5_init cX5_init 2 2 33 10 4107 [.ref 3, .ref 1] [3] [3, 4, 5, 6, 7, 8, 9, 10, 11, 12, 13] [(3, 1), (10, 3), (10, 2), (10, 1), (10, 0), (3, 0), (4, 5), (4, 4), (4, 3), (4, 2), (4, 0)] h (h) := by
  refine MB.of 0 (by decide) rfl rfl (fun X e1 C nB hex => ?_)
  subst e1
  replace C : CB X cX5_init 2 RX5 2 33 10 4107 := C
  show VB X _ _ [3] [] h 0 0 0 [some (.ref 3), some (.ref 1)] []
  refine B_aload_n (pc := 0) C dX5_init_0 rfl ?_
  refine B_objInit (pc := 1) C dX5_init_1 lo_X5 wo_i wo_c (by omega) (by decide) ?_
  refine B_aload_n (pc := 4) C dX5_init_4 rfl ?_
  refine B_new (pc := 5) (n := 4) (N := 7) C dX5_init_5 nk_X5_9_4 (by decide +kernel) (hz 4 (by omega) (by omega)) (by decide +kernel) (by decide +kernel) rfl (by omega) (by omega) ?_
  show VB X _ _ [3, 4] [] (h) 1 7 8 [some (.ref 3), some (.ref 1)] [.ref 4, .ref 3]
  refine B_dup (pc := 8) C dX5_init_8 ?_
  refine B_ctor (pc := 9) (a := 4) (nw := [5, 6, 7, 8, 9]) (As := []) (rest := [.ref 4, .ref 3]) C dX5_init_9 (Or.inr ln_X5_11) mc_X2 (hexT hex) (K_X2_4 (E := xB X) (fun k q1 q2 => hz k (by omega) (by omega))) rfl pi_X2 (by omega) (by omega) rfl (by decide) (by omega) (by omega) (by decide) (by decide +kernel) (by decide) (by decide +kernel) (by decide +kernel) rfl (fun _ _ => ⟨rfl, rfl⟩) ?_
  show VB X _ _ [3, 4, 5, 6, 7, 8, 9] [(4, 5), (4, 4), (4, 3), (4, 2), (4, 0)] (h) 6 1099 12 [some (.ref 3), some (.ref 1)] [.ref 4, .ref 3]
  refine B_putR (pc := 12) C dX5_init_12 lf_X5_12 fk_3_0 (by decide) (fun _ => ⟨nB, rfl⟩) rfl ?_
  refine B_aload_n (pc := 15) C dX5_init_15 rfl ?_
  refine B_new (pc := 16) (n := 10) (N := 5) C dX5_init_16 nk_X5_18_10 (by decide +kernel) (hz 10 (by omega) (by omega)) (by decide +kernel) (by decide +kernel) rfl (by omega) (by omega) ?_
  show VB X _ _ [3, 4, 5, 6, 7, 8, 9, 10] [(3, 0), (4, 5), (4, 4), (4, 3), (4, 2), (4, 0)] (h) 7 1104 19 [some (.ref 3), some (.ref 1)] [.ref 10, .ref 3]
  refine B_dup (pc := 19) C dX5_init_19 ?_
  refine B_aload_n (pc := 20) C dX5_init_20 rfl ?_
  refine B_ctor (pc := 21) (a := 10) (nw := [11, 12, 13]) (As := [.ref 1]) (rest := [.ref 10, .ref 3]) C dX5_init_21 (Or.inl lm_X5_20) mc_X9 (hexT hex) (K_X9_10 (E := xB X) (fun k q1 q2 => hz k (by omega) (by omega))) rfl pi_X9 (by omega) (by omega) rfl (by decide) (by omega) (by omega) (by decide) (by decide +kernel) (by decide) (by decide +kernel) (by decide +kernel) rfl (fun _ _ => ⟨rfl, rfl⟩) ?_
  show VB X _ _ [3, 4, 5, 6, 7, 8, 9, 10, 11, 12, 13] [(10, 3), (10, 2), (10, 1), (10, 0), (3, 0), (4, 5), (4, 4), (4, 3), (4, 2), (4, 0)] (h) 10 4107 24 [some (.ref 3), some (.ref 1)] [.ref 10, .ref 3]
  refine B_putR (pc := 24) C dX5_init_24 lf_X5_23 fk_3_1 (by decide) (fun _ => ⟨nB, rfl⟩) rfl ?_
  exact B_vret (pc := 27) C nB dX5_init_27
set_option maxRecDepth 20000 in
theorem nk_X11_25_14 : NWK RX11 25 4 14 5 := ⟨RX4, TX4, tyX4, _, rfl, bw_c1 (List.mem_of_getElem? (i := 141) (by decide +kernel)) rfl, bw_c1 (List.mem_of_getElem? (i := 142) (by decide +kernel)) rfl, bw_c1 (List.mem_of_getElem? (i := 6) (by decide +kernel)) rfl, inBX4, tyX4_ok, sh_14, rfl, by decide +kernel⟩
set_option maxRecDepth 20000 in
theorem nk_X4_9_15 : NWK RX4 9 2 15 7 := ⟨RX2, TX2, tyX2, _, rfl, bw_c1 (List.mem_of_getElem? (i := 147) (by decide +kernel)) rfl, bw_c1 (List.mem_of_getElem? (i := 59) (by decide +kernel)) rfl, bw_c1 (List.mem_of_getElem? (i := 4) (by decide +kernel)) rfl, inBX2, tyX2_ok, sh_15, rfl, by decide +kernel⟩
set_option maxHeartbeats 4000000 in
set_option maxRecDepth 20000 in
theorem K_X2_15 {E : EB} {h : PH} (hz : ∀ k, 16 ≤ k → k ≤ 20 → Zr k h) : MB noX E yX2_init cX2_init 1 1 12 5 1092 [.ref 15] [15] [15, 16, 17, 18, 19, 20] [(15, 5), (15, 4), (15, 3), (15, 2), (15, 0)] h (h) := by
  refine MB.of 0 (by decide) rfl rfl (fun X e1 C nB hex => ?_)
  subst e1
  replace C : CB X cX2_init 1 RX2 1 12 5 1092 := C
  show VB X _ _ [15] [] h 0 0 0 [some (.ref 15)] []
  refine B_aload_n (pc := 0) C dX2_init_0 rfl ?_
  refine B_objInit (pc := 1) C dX2_init_1 lo_X2 wo_i wo_c (by omega) (by decide) ?_
  refine B_aload_n (pc := 4) C dX2_init_4 rfl ?_
  refine B_bipush (pc := 5) (v := (10)) C dX2_init_5 (by decide) ?_
  refine B_newa (pc := 7) (n := 16) (t := 0) (N := 10) C dX2_init_7 rfl (by omega) wa_0 sh_16 (by decide) (by decide) (by omega) (by decide +kernel) (hz 16 (by omega) (by omega)) (by decide +kernel) rfl (by omega) (by omega) ?_
  show VB X _ _ [15, 16] [] (h) 1 10 9 [some (.ref 15)] [.ref 16, .ref 15]
  refine B_putR (pc := 9) C dX2_init_9 lf_X2_9 fk_15_0 (by decide) (fun _ => ⟨nB, rfl⟩) rfl ?_
  refine B_aload_n (pc := 12) C dX2_init_12 rfl ?_
  refine B_sipush (pc := 13) (v := (1000)) C dX2_init_13 (by decide) ?_
  refine B_newa (pc := 16) (n := 17) (t := 0) (N := 1000) C dX2_init_16 rfl (by omega) wa_0 sh_17 (by decide) (by decide) (by omega) (by decide +kernel) (hz 17 (by omega) (by omega)) (by decide +kernel) rfl (by omega) (by omega) ?_
  show VB X _ _ [15, 16, 17] [(15, 0)] (h) 2 1010 18 [some (.ref 15)] [.ref 17, .ref 15]
  refine B_putR (pc := 18) C dX2_init_18 lf_X2_15 fk_15_2 (by decide) (fun _ => ⟨nB, rfl⟩) rfl ?_
  refine B_aload_n (pc := 21) C dX2_init_21 rfl ?_
  refine B_bipush (pc := 22) (v := (25)) C dX2_init_22 (by decide) ?_
  refine B_newa (pc := 24) (n := 18) (t := 0) (N := 25) C dX2_init_24 rfl (by omega) wa_0 sh_18 (by decide) (by decide) (by omega) (by decide +kernel) (hz 18 (by omega) (by omega)) (by decide +kernel) rfl (by omega) (by omega) ?_
  show VB X _ _ [15, 16, 17, 18] [(15, 2), (15, 0)] (h) 3 1035 26 [some (.ref 15)] [.ref 18, .ref 15]
  refine B_putR (pc := 26) C dX2_init_26 lf_X2_18 fk_15_3 (by decide) (fun _ => ⟨nB, rfl⟩) rfl ?_
  refine B_aload_n (pc := 29) C dX2_init_29 rfl ?_
  refine B_bipush (pc := 30) (v := (25)) C dX2_init_30 (by decide) ?_
  refine B_newa (pc := 32) (n := 19) (t := 0) (N := 25) C dX2_init_32 rfl (by omega) wa_0 sh_19 (by decide) (by decide) (by omega) (by decide +kernel) (hz 19 (by omega) (by omega)) (by decide +kernel) rfl (by omega) (by omega) ?_
  show VB X _ _ [15, 16, 17, 18, 19] [(15, 3), (15, 2), (15, 0)] (h) 4 1060 34 [some (.ref 15)] [.ref 19, .ref 15]
  refine B_putR (pc := 34) C dX2_init_34 lf_X2_21 fk_15_4 (by decide) (fun _ => ⟨nB, rfl⟩) rfl ?_
  refine B_aload_n (pc := 37) C dX2_init_37 rfl ?_
  refine B_bipush (pc := 38) (v := (32)) C dX2_init_38 (by decide) ?_
  refine B_newa (pc := 40) (n := 20) (t := 0) (N := 32) C dX2_init_40 rfl (by omega) wa_0 sh_20 (by decide) (by decide) (by omega) (by decide +kernel) (hz 20 (by omega) (by omega)) (by decide +kernel) rfl (by omega) (by omega) ?_
  show VB X _ _ [15, 16, 17, 18, 19, 20] [(15, 4), (15, 3), (15, 2), (15, 0)] (h) 5 1092 42 [some (.ref 15)] [.ref 20, .ref 15]
  refine B_putR (pc := 42) C dX2_init_42 lf_X2_24 fk_15_5 (by decide) (fun _ => ⟨nB, rfl⟩) rfl ?_
  exact B_vret (pc := 45) C nB dX2_init_45
set_option maxHeartbeats 4000000 in
set_option maxRecDepth 20000 in
theorem K_X4_14 {E : EB} {h : PH} (hz : ∀ k, 15 ≤ k → k ≤ 20 → Zr k h) : MB noX E yX4_init cX4_init 1 2 32 6 1099 [.ref 14] [14] [14, 15, 16, 17, 18, 19, 20] [(14, 0), (15, 5), (15, 4), (15, 3), (15, 2), (15, 0)] h (h) := by
  refine MB.of 0 (by decide) rfl rfl (fun X e1 C nB hex => ?_)
  subst e1
  replace C : CB X cX4_init 1 RX4 2 32 6 1099 := C
  show VB X _ _ [14] [] h 0 0 0 [some (.ref 14)] []
  refine B_aload_n (pc := 0) C dX4_init_0 rfl ?_
  refine B_objInit (pc := 1) C dX4_init_1 lo_X4 wo_i wo_c (by omega) (by decide) ?_
  refine B_aload_n (pc := 4) C dX4_init_4 rfl ?_
  refine B_new (pc := 5) (n := 15) (N := 7) C dX4_init_5 nk_X4_9_15 (by decide +kernel) (hz 15 (by omega) (by omega)) (by decide +kernel) (by decide +kernel) rfl (by omega) (by omega) ?_
  show VB X _ _ [14, 15] [] (h) 1 7 8 [some (.ref 14)] [.ref 15, .ref 14]
  refine B_dup (pc := 8) C dX4_init_8 ?_
  refine B_ctor (pc := 9) (a := 15) (nw := [16, 17, 18, 19, 20]) (As := []) (rest := [.ref 15, .ref 14]) C dX4_init_9 (Or.inr ln_X4_11) mc_X2 (hexT hex) (K_X2_15 (E := xB X) (fun k q1 q2 => hz k (by omega) (by omega))) rfl pi_X2 (by omega) (by omega) rfl (by decide) (by omega) (by omega) (by decide) (by decide +kernel) (by decide) (by decide +kernel) (by decide +kernel) rfl (fun _ _ => ⟨rfl, rfl⟩) ?_
  show VB X _ _ [14, 15, 16, 17, 18, 19, 20] [(15, 5), (15, 4), (15, 3), (15, 2), (15, 0)] (h) 6 1099 12 [some (.ref 14)] [.ref 15, .ref 14]
  refine B_putR (pc := 12) C dX4_init_12 lf_X4_12 fk_14_0 (by decide) (fun _ => ⟨nB, rfl⟩) rfl ?_
  exact B_vret (pc := 15) C nB dX4_init_15
set_option maxRecDepth 20000 in
theorem nk_X11_32_21 : NWK RX11 32 0 21 14 := ⟨RX0, TX0, tyX0, _, rfl, bw_c1 (List.mem_of_getElem? (i := 171) (by decide +kernel)) rfl, bw_c1 (List.mem_of_getElem? (i := 172) (by decide +kernel)) rfl, bw_c1 (List.mem_of_getElem? (i := 7) (by decide +kernel)) rfl, inBX0, tyX0_ok, sh_21, rfl, by decide +kernel⟩
set_option maxHeartbeats 4000000 in
set_option maxRecDepth 20000 in
theorem K_X0_21 {E : EB} {h : PH} (hz : ∀ k, 22 ≤ k → k ≤ 38 → Zr k h) : MB noX E yX0_init cX0_init 2 1 12 17 47482 [.ref 21, .ref 14] [21] [21, 22, 23, 24, 25, 26, 27, 28, 29, 30, 31, 32, 33, 34, 35, 36, 37, 38] [(21, 0), (21, 11), (21, 10), (21, 9), (21, 8), (21, 7), (21, 6), (21, 5), (21, 4), (21, 3), (21, 2), (21, 1)] h (h) := by
  refine MB.of 0 (by decide) rfl rfl (fun X e1 C nB hex => ?_)
  subst e1
  replace C : CB X cX0_init 2 RX0 1 12 17 47482 := C
  show VB X _ _ [21] [] h 0 0 0 [some (.ref 21), some (.ref 14)] []
  refine B_aload_n (pc := 0) C dX0_init_0 rfl ?_
  refine B_objInit (pc := 1) C dX0_init_1 lo_X0 wo_i wo_c (by omega) (by decide) ?_
  refine B_aload_n (pc := 4) C dX0_init_4 rfl ?_
  refine B_bipush (pc := 5) (v := (6)) C dX0_init_5 (by decide) ?_
  refine B_newa (pc := 7) (n := 22) (t := 0) (N := 6) C dX0_init_7 rfl (by omega) wa_0 sh_22 (by decide) (by decide) (by omega) (by decide +kernel) (hz 22 (by omega) (by omega)) (by decide +kernel) rfl (by omega) (by omega) ?_
  show VB X _ _ [21, 22] [] (h) 1 6 9 [some (.ref 21), some (.ref 14)] [.ref 22, .ref 21]
  refine B_putR (pc := 9) C dX0_init_9 lf_X0_9 fk_21_1 (by decide) (fun _ => ⟨nB, rfl⟩) rfl ?_
  refine B_aload_n (pc := 12) C dX0_init_12 rfl ?_
  refine B_bipush (pc := 13) (v := (6)) C dX0_init_13 (by decide) ?_
  refine B_bipush (pc := 15) (v := (61)) C dX0_init_15 (by decide) ?_
  refine B_multi (pc := 17) (n := 23) (N := 6) (M := 61) (nw := [23, 24, 25, 26, 27, 28, 29]) C dX0_init_17 wm_X0_15 hex wa_0 sh_23 (fun j hj => by rcases (show j = 0 ∨ j = 1 ∨ j = 2 ∨ j = 3 ∨ j = 4 ∨ j = 5 by omega) with rfl | rfl | rfl | rfl | rfl | rfl <;> decide +kernel) (by decide) (by decide) (by decide) (by decide) (by omega) (by omega) (by decide) (by decide +kernel) (fun k mk => by simp at mk; exact hz k (by omega) (by omega)) (by decide +kernel) rfl (by omega) (by omega) ?_
  show VB X _ _ [21, 22, 23, 24, 25, 26, 27, 28, 29] [(21, 1)] (h) 8 378 21 [some (.ref 21), some (.ref 14)] [.ref 23, .ref 21]
  refine B_putR (pc := 21) C dX0_init_21 lf_X0_17 fk_21_2 (by decide) (fun _ => ⟨nB, rfl⟩) rfl ?_
  refine B_aload_n (pc := 24) C dX0_init_24 rfl ?_
  refine B_sipush (pc := 25) (v := (3072)) C dX0_init_25 (by decide) ?_
  refine B_newa (pc := 28) (n := 30) (t := 0) (N := 3072) C dX0_init_28 rfl (by omega) wa_0 sh_30 (by decide) (by decide) (by omega) (by decide +kernel) (hz 30 (by omega) (by omega)) (by decide +kernel) rfl (by omega) (by omega) ?_
  show VB X _ _ [21, 22, 23, 24, 25, 26, 27, 28, 29, 30] [(21, 2), (21, 1)] (h) 9 3450 30 [some (.ref 21), some (.ref 14)] [.ref 30, .ref 21]
  refine B_putR (pc := 30) C dX0_init_30 lf_X0_20 fk_21_3 (by decide) (fun _ => ⟨nB, rfl⟩) rfl ?_
  refine B_aload_n (pc := 33) C dX0_init_33 rfl ?_
  refine B_sipush (pc := 34) (v := (4096)) C dX0_init_34 (by decide) ?_
  refine B_newa (pc := 37) (n := 31) (t := 0) (N := 4096) C dX0_init_37 rfl (by omega) wa_0 sh_31 (by decide) (by decide) (by omega) (by decide +kernel) (hz 31 (by omega) (by omega)) (by decide +kernel) rfl (by omega) (by omega) ?_
  show VB X _ _ [21, 22, 23, 24, 25, 26, 27, 28, 29, 30, 31] [(21, 3), (21, 2), (21, 1)] (h) 10 7546 39 [some (.ref 21), some (.ref 14)] [.ref 31, .ref 21]
  refine B_putR (pc := 39) C dX0_init_39 lf_X0_23 fk_21_4 (by decide) (fun _ => ⟨nB, rfl⟩) rfl ?_
  refine B_aload_n (pc := 42) C dX0_init_42 rfl ?_
  refine B_sipush (pc := 43) (v := (3072)) C dX0_init_43 (by decide) ?_
  refine B_newa (pc := 46) (n := 32) (t := 0) (N := 3072) C dX0_init_46 rfl (by omega) wa_0 sh_32 (by decide) (by decide) (by omega) (by decide +kernel) (hz 32 (by omega) (by omega)) (by decide +kernel) rfl (by omega) (by omega) ?_
  show VB X _ _ [21, 22, 23, 24, 25, 26, 27, 28, 29, 30, 31, 32] [(21, 4), (21, 3), (21, 2), (21, 1)] (h) 11 10618 48 [some (.ref 21), some (.ref 14)] [.ref 32, .ref 21]
  refine B_putR (pc := 48) C dX0_init_48 lf_X0_26 fk_21_5 (by decide) (fun _ => ⟨nB, rfl⟩) rfl ?_
  refine B_aload_n (pc := 51) C dX0_init_51 rfl ?_
  refine B_sipush (pc := 52) (v := (3072)) C dX0_init_52 (by decide) ?_
  refine B_newa (pc := 55) (n := 33) (t := 0) (N := 3072) C dX0_init_55 rfl (by omega) wa_0 sh_33 (by decide) (by decide) (by omega) (by decide +kernel) (hz 33 (by omega) (by omega)) (by decide +kernel) rfl (by omega) (by omega) ?_
  show VB X _ _ [21, 22, 23, 24, 25, 26, 27, 28, 29, 30, 31, 32, 33] [(21, 5), (21, 4), (21, 3), (21, 2), (21, 1)] (h) 12 13690 57 [some (.ref 21), some (.ref 14)] [.ref 33, .ref 21]
  refine B_putR (pc := 57) C dX0_init_57 lf_X0_29 fk_21_6 (by decide) (fun _ => ⟨nB, rfl⟩) rfl ?_
  refine B_aload_n (pc := 60) C dX0_init_60 rfl ?_
  refine B_sipush (pc := 61) (v := (3072)) C dX0_init_61 (by decide) ?_
  refine B_newa (pc := 64) (n := 34) (t := 0) (N := 3072) C dX0_init_64 rfl (by omega) wa_0 sh_34 (by decide) (by decide) (by omega) (by decide +kernel) (hz 34 (by omega) (by omega)) (by decide +kernel) rfl (by omega) (by omega) ?_
  show VB X _ _ [21, 22, 23, 24, 25, 26, 27, 28, 29, 30, 31, 32, 33, 34] [(21, 6), (21, 5), (21, 4), (21, 3), (21, 2), (21, 1)] (h) 13 16762 66 [some (.ref 21), some (.ref 14)] [.ref 34, .ref 21]
  refine B_putR (pc := 66) C dX0_init_66 lf_X0_32 fk_21_7 (by decide) (fun _ => ⟨nB, rfl⟩) rfl ?_
  refine B_aload_n (pc := 69) C dX0_init_69 rfl ?_
  refine B_sipush (pc := 70) (v := (3072)) C dX0_init_70 (by decide) ?_
  refine B_newa (pc := 73) (n := 35) (t := 0) (N := 3072) C dX0_init_73 rfl (by omega) wa_0 sh_35 (by decide) (by decide) (by omega) (by decide +kernel) (hz 35 (by omega) (by omega)) (by decide +kernel) rfl (by omega) (by omega) ?_
  show VB X _ _ [21, 22, 23, 24, 25, 26, 27, 28, 29, 30, 31, 32, 33, 34, 35] [(21, 7), (21, 6), (21, 5), (21, 4), (21, 3), (21, 2), (21, 1)] (h) 14 19834 75 [some (.ref 21), some (.ref 14)] [.ref 35, .ref 21]
  refine B_putR (pc := 75) C dX0_init_75 lf_X0_35 fk_21_8 (by decide) (fun _ => ⟨nB, rfl⟩) rfl ?_
  refine B_aload_n (pc := 78) C dX0_init_78 rfl ?_
  refine B_sipush (pc := 79) (v := (21504)) C dX0_init_79 (by decide) ?_
  refine B_newa (pc := 82) (n := 36) (t := 0) (N := 21504) C dX0_init_82 rfl (by omega) wa_0 sh_36 (by decide) (by decide) (by omega) (by decide +kernel) (hz 36 (by omega) (by omega)) (by decide +kernel) rfl (by omega) (by omega) ?_
  show VB X _ _ [21, 22, 23, 24, 25, 26, 27, 28, 29, 30, 31, 32, 33, 34, 35, 36] [(21, 8), (21, 7), (21, 6), (21, 5), (21, 4), (21, 3), (21, 2), (21, 1)] (h) 15 41338 84 [some (.ref 21), some (.ref 14)] [.ref 36, .ref 21]
  refine B_putR (pc := 84) C dX0_init_84 lf_X0_38 fk_21_9 (by decide) (fun _ => ⟨nB, rfl⟩) rfl ?_
  refine B_aload_n (pc := 87) C dX0_init_87 rfl ?_
  refine B_sipush (pc := 88) (v := (3072)) C dX0_init_88 (by decide) ?_
  refine B_newa (pc := 91) (n := 37) (t := 0) (N := 3072) C dX0_init_91 rfl (by omega) wa_0 sh_37 (by decide) (by decide) (by omega) (by decide +kernel) (hz 37 (by omega) (by omega)) (by decide +kernel) rfl (by omega) (by omega) ?_
  show VB X _ _ [21, 22, 23, 24, 25, 26, 27, 28, 29, 30, 31, 32, 33, 34, 35, 36, 37] [(21, 9), (21, 8), (21, 7), (21, 6), (21, 5), (21, 4), (21, 3), (21, 2), (21, 1)] (h) 16 44410 93 [some (.ref 21), some (.ref 14)] [.ref 37, .ref 21]
  refine B_putR (pc := 93) C dX0_init_93 lf_X0_41 fk_21_10 (by decide) (fun _ => ⟨nB, rfl⟩) rfl ?_
  refine B_aload_n (pc := 96) C dX0_init_96 rfl ?_
  refine B_sipush (pc := 97) (v := (3072)) C dX0_init_97 (by decide) ?_
  refine B_newa (pc := 100) (n := 38) (t := 0) (N := 3072) C dX0_init_100 rfl (by omega) wa_0 sh_38 (by decide) (by decide) (by omega) (by decide +kernel) (hz 38 (by omega) (by omega)) (by decide +kernel) rfl (by omega) (by omega) ?_
  show VB X _ _ [21, 22, 23, 24, 25, 26, 27, 28, 29, 30, 31, 32, 33, 34, 35, 36, 37, 38] [(21, 10), (21, 9), (21, 8), (21, 7), (21, 6), (21, 5), (21, 4), (21, 3), (21, 2), (21, 1)] (h) 17 47482 102 [some (.ref 21), some (.ref 14)] [.ref 38, .ref 21]
  refine B_putR (pc := 102) C dX0_init_102 lf_X0_44 fk_21_11 (by decide) (fun _ => ⟨nB, rfl⟩) rfl ?_
  refine B_aload_n (pc := 105) C dX0_init_105 rfl ?_
  refine B_aload_n (pc := 106) C dX0_init_106 rfl ?_
  refine B_putR (pc := 107) C dX0_init_107 lf_X0_47 fk_21_0 (by decide) (fun _ => ⟨nB, rfl⟩) rfl ?_
  exact B_vret (pc := 110) C nB dX0_init_110
set_option maxRecDepth 20000 in
theorem nk_X11_41_39 : NWK RX11 41 3 39 14 := ⟨RX3, TX3, tyX3, _, rfl, bw_c1 (List.mem_of_getElem? (i := 222) (by decide +kernel)) rfl, bw_c1 (List.mem_of_getElem? (i := 223) (by decide +kernel)) rfl, bw_c1 (List.mem_of_getElem? (i := 8) (by decide +kernel)) rfl, inBX3, tyX3_ok, sh_39, rfl, by decide +kernel⟩
set_option maxHeartbeats 4000000 in
set_option maxRecDepth 20000 in
theorem K_X3_39 {E : EB} {h : PH} (hz : ∀ k, 40 ≤ k → k ≤ 50 → Zr k h) : MB noX E yX3_init cX3_init 2 1 12 11 16388 [.ref 39, .ref 21] [39] [39, 40, 41, 42, 43, 44, 45, 46, 47, 48, 49, 50] [(39, 4), (39, 11), (39, 10), (39, 9), (39, 8), (39, 7), (39, 6), (39, 5)] h (h) := by
  refine MB.of 0 (by decide) rfl rfl (fun X e1 C nB hex => ?_)
  subst e1
  replace C : CB X cX3_init 2 RX3 1 12 11 16388 := C
  show VB X _ _ [39] [] h 0 0 0 [some (.ref 39), some (.ref 21)] []
  refine B_aload_n (pc := 0) C dX3_init_0 rfl ?_
  refine B_objInit (pc := 1) C dX3_init_1 lo_X3 wo_i wo_c (by omega) (by decide) ?_
  refine B_aload_n (pc := 4) C dX3_init_4 rfl ?_
  refine B_sipush (pc := 5) (v := (256)) C dX3_init_5 (by decide) ?_
  refine B_newa (pc := 8) (n := 40) (t := 0) (N := 256) C dX3_init_8 rfl (by omega) wa_0 sh_40 (by decide) (by decide) (by omega) (by decide +kernel) (hz 40 (by omega) (by omega)) (by decide +kernel) rfl (by omega) (by omega) ?_
  show VB X _ _ [39, 40] [] (h) 1 256 10 [some (.ref 39), some (.ref 21)] [.ref 40, .ref 39]
  refine B_putR (pc := 10) C dX3_init_10 lf_X3_9 fk_39_5 (by decide) (fun _ => ⟨nB, rfl⟩) rfl ?_
  refine B_aload_n (pc := 13) C dX3_init_13 rfl ?_
  refine B_sipush (pc := 14) (v := (256)) C dX3_init_14 (by decide) ?_
  refine B_newa (pc := 17) (n := 41) (t := 0) (N := 256) C dX3_init_17 rfl (by omega) wa_0 sh_41 (by decide) (by decide) (by omega) (by decide +kernel) (hz 41 (by omega) (by omega)) (by decide +kernel) rfl (by omega) (by omega) ?_
  show VB X _ _ [39, 40, 41] [(39, 5)] (h) 2 512 19 [some (.ref 39), some (.ref 21)] [.ref 41, .ref 39]
  refine B_putR (pc := 19) C dX3_init_19 lf_X3_15 fk_39_6 (by decide) (fun _ => ⟨nB, rfl⟩) rfl ?_
  refine B_aload_n (pc := 22) C dX3_init_22 rfl ?_
  refine B_sipush (pc := 23) (v := (3072)) C dX3_init_23 (by decide) ?_
  refine B_newa (pc := 26) (n := 42) (t := 0) (N := 3072) C dX3_init_26 rfl (by omega) wa_0 sh_42 (by decide) (by decide) (by omega) (by decide +kernel) (hz 42 (by omega) (by omega)) (by decide +kernel) rfl (by omega) (by omega) ?_
  show VB X _ _ [39, 40, 41, 42] [(39, 6), (39, 5)] (h) 3 3584 28 [some (.ref 39), some (.ref 21)] [.ref 42, .ref 39]
  refine B_putR (pc := 28) C dX3_init_28 lf_X3_18 fk_39_7 (by decide) (fun _ => ⟨nB, rfl⟩) rfl ?_
  refine B_aload_n (pc := 31) C dX3_init_31 rfl ?_
  refine B_sipush (pc := 32) (v := (3072)) C dX3_init_32 (by decide) ?_
  refine B_newa (pc := 35) (n := 43) (t := 0) (N := 3072) C dX3_init_35 rfl (by omega) wa_0 sh_43 (by decide) (by decide) (by omega) (by decide +kernel) (hz 43 (by omega) (by omega)) (by decide +kernel) rfl (by omega) (by omega) ?_
  show VB X _ _ [39, 40, 41, 42, 43] [(39, 7), (39, 6), (39, 5)] (h) 4 6656 37 [some (.ref 39), some (.ref 21)] [.ref 43, .ref 39]
  refine B_putR (pc := 37) C dX3_init_37 lf_X3_21 fk_39_8 (by decide) (fun _ => ⟨nB, rfl⟩) rfl ?_
  refine B_aload_n (pc := 40) C dX3_init_40 rfl ?_
  refine B_sipush (pc := 41) (v := (3072)) C dX3_init_41 (by decide) ?_
  refine B_newa (pc := 44) (n := 44) (t := 0) (N := 3072) C dX3_init_44 rfl (by omega) wa_0 sh_44 (by decide) (by decide) (by omega) (by decide +kernel) (hz 44 (by omega) (by omega)) (by decide +kernel) rfl (by omega) (by omega) ?_
  show VB X _ _ [39, 40, 41, 42, 43, 44] [(39, 8), (39, 7), (39, 6), (39, 5)] (h) 5 9728 46 [some (.ref 39), some (.ref 21)] [.ref 44, .ref 39]
  refine B_putR (pc := 46) C dX3_init_46 lf_X3_24 fk_39_9 (by decide) (fun _ => ⟨nB, rfl⟩) rfl ?_
  refine B_aload_n (pc := 49) C dX3_init_49 rfl ?_
  refine B_iconst (pc := 50) (v := (2)) C dX3_init_50 (by decide) ?_
  refine B_sipush (pc := 51) (v := (3072)) C dX3_init_51 (by decide) ?_
  refine B_multi (pc := 54) (n := 45) (N := 2) (M := 3072) (nw := [45, 46, 47]) C dX3_init_54 wm_X3_27 hex wa_0 sh_45 (fun j hj => by rcases (show j = 0 ∨ j = 1 by omega) with rfl | rfl <;> decide +kernel) (by decide) (by decide) (by decide) (by decide) (by omega) (by omega) (by decide) (by decide +kernel) (fun k mk => by simp at mk; exact hz k (by omega) (by omega)) (by decide +kernel) rfl (by omega) (by omega) ?_
  show VB X _ _ [39, 40, 41, 42, 43, 44, 45, 46, 47] [(39, 9), (39, 8), (39, 7), (39, 6), (39, 5)] (h) 8 15874 58 [some (.ref 39), some (.ref 21)] [.ref 45, .ref 39]
  refine B_putR (pc := 58) C dX3_init_58 lf_X3_29 fk_39_10 (by decide) (fun _ => ⟨nB, rfl⟩) rfl ?_
  refine B_aload_n (pc := 61) C dX3_init_61 rfl ?_
  refine B_iconst (pc := 62) (v := (2)) C dX3_init_62 (by decide) ?_
  refine B_sipush (pc := 63) (v := (256)) C dX3_init_63 (by decide) ?_
  refine B_multi (pc := 66) (n := 48) (N := 2) (M := 256) (nw := [48, 49, 50]) C dX3_init_66 wm_X3_27 hex wa_0 sh_48 (fun j hj => by rcases (show j = 0 ∨ j = 1 by omega) with rfl | rfl <;> decide +kernel) (by decide) (by decide) (by decide) (by decide) (by omega) (by omega) (by decide) (by decide +kernel) (fun k mk => by simp at mk; exact hz k (by omega) (by omega)) (by decide +kernel) rfl (by omega) (by omega) ?_
  show VB X _ _ [39, 40, 41, 42, 43, 44, 45, 46, 47, 48, 49, 50] [(39, 10), (39, 9), (39, 8), (39, 7), (39, 6), (39, 5)] (h) 11 16388 70 [some (.ref 39), some (.ref 21)] [.ref 48, .ref 39]
  refine B_putR (pc := 70) C dX3_init_70 lf_X3_32 fk_39_11 (by decide) (fun _ => ⟨nB, rfl⟩) rfl ?_
  refine B_aload_n (pc := 73) C dX3_init_73 rfl ?_
  refine B_aload_n (pc := 74) C dX3_init_74 rfl ?_
  refine B_putR (pc := 75) C dX3_init_75 lf_X3_35 fk_39_4 (by decide) (fun _ => ⟨nB, rfl⟩) rfl ?_
  exact B_vret (pc := 78) C nB dX3_init_78
set_option maxRecDepth 20000 in
theorem nk_X11_50_51 : NWK RX11 50 6 51 17 := ⟨RX6, TX6, tyX6, _, rfl, bw_c2 (List.mem_of_getElem? (i := 36) (by decide +kernel)) rfl, bw_c2 (List.mem_of_getElem? (i := 37) (by decide +kernel)) rfl, bw_c1 (List.mem_of_getElem? (i := 9) (by decide +kernel)) rfl, inBX6, tyX6_ok, sh_51, rfl, by decide +kernel⟩
set_option maxRecDepth 20000 in
theorem nk_X6_9_58 : NWK RX6 9 2 58 7 := ⟨RX2, TX2, tyX2, _, rfl, bw_c2 (List.mem_of_getElem? (i := 42) (by decide +kernel)) rfl, bw_c1 (List.mem_of_getElem? (i := 59) (by decide +kernel)) rfl, bw_c1 (List.mem_of_getElem? (i := 4) (by decide +kernel)) rfl, inBX2, tyX2_ok, sh_58, rfl, by decide +kernel⟩
set_option maxHeartbeats 4000000 in
set_option maxRecDepth 20000 in
theorem K_X2_58 {E : EB} {h : PH} (hz : ∀ k, 59 ≤ k → k ≤ 63 → Zr k h) : MB noX E yX2_init cX2_init 1 1 12 5 1092 [.ref 58] [58] [58, 59, 60, 61, 62, 63] [(58, 5), (58, 4), (58, 3), (58, 2), (58, 0)] h (h) := by
  refine MB.of 0 (by decide) rfl rfl (fun X e1 C nB hex => ?_)
  subst e1
  replace C : CB X cX2_init 1 RX2 1 12 5 1092 := C
  show VB X _ _ [58] [] h 0 0 0 [some (.ref 58)] []
  refine B_aload_n (pc := 0) C dX2_init_0 rfl ?_
  refine B_objInit (pc := 1) C dX2_init_1 lo_X2 wo_i wo_c (by omega) (by decide) ?_
  refine B_aload_n (pc := 4) C dX2_init_4 rfl ?_
  refine B_bipush (pc := 5) (v := (10)) C dX2_init_5 (by decide) ?_
  refine B_newa (pc := 7) (n := 59) (t := 0) (N := 10) C dX2_init_7 rfl (by omega) wa_0 sh_59 (by decide) (by decide) (by omega) (by decide +kernel) (hz 59 (by omega) (by omega)) (by decide +kernel) rfl (by omega) (by omega) ?_
  show VB X _ _ [58, 59] [] (h) 1 10 9 [some (.ref 58)] [.ref 59, .ref 58]
  refine B_putR (pc := 9) C dX2_init_9 lf_X2_9 fk_58_0 (by decide) (fun _ => ⟨nB, rfl⟩) rfl ?_
  refine B_aload_n (pc := 12) C dX2_init_12 rfl ?_
  refine B_sipush (pc := 13) (v := (1000)) C dX2_init_13 (by decide) ?_
  refine B_newa (pc := 16) (n := 60) (t := 0) (N := 1000) C dX2_init_16 rfl (by omega) wa_0 sh_60 (by decide) (by decide) (by omega) (by decide +kernel) (hz 60 (by omega) (by omega)) (by decide +kernel) rfl (by omega) (by omega) ?_
  show VB X _ _ [58, 59, 60] [(58, 0)] (h) 2 1010 18 [some (.ref 58)] [.ref 60, .ref 58]
  refine B_putR (pc := 18) C dX2_init_18 lf_X2_15 fk_58_2 (by decide) (fun _ => ⟨nB, rfl⟩) rfl ?_
  refine B_aload_n (pc := 21) C dX2_init_21 rfl ?_
  refine B_bipush (pc := 22) (v := (25)) C dX2_init_22 (by decide) ?_
  refine B_newa (pc := 24) (n := 61) (t := 0) (N := 25) C dX2_init_24 rfl (by omega) wa_0 sh_61 (by decide) (by decide) (by omega) (by decide +kernel) (hz 61 (by omega) (by omega)) (by decide +kernel) rfl (by omega) (by omega) ?_
  show VB X _ _ [58, 59, 60, 61] [(58, 2), (58, 0)] (h) 3 1035 26 [some (.ref 58)] [.ref 61, .ref 58]
  refine B_putR (pc := 26) C dX2_init_26 lf_X2_18 fk_58_3 (by decide) (fun _ => ⟨nB, rfl⟩) rfl ?_
  refine B_aload_n (pc := 29) C dX2_init_29 rfl ?_
  refine B_bipush (pc := 30) (v := (25)) C dX2_init_30 (by decide) ?_
  refine B_newa (pc := 32) (n := 62) (t := 0) (N := 25) C dX2_init_32 rfl (by omega) wa_0 sh_62 (by decide) (by decide) (by omega) (by decide +kernel) (hz 62 (by omega) (by omega)) (by decide +kernel) rfl (by omega) (by omega) ?_
  show VB X _ _ [58, 59, 60, 61, 62] [(58, 3), (58, 2), (58, 0)] (h) 4 1060 34 [some (.ref 58)] [.ref 62, .ref 58]
  refine B_putR (pc := 34) C dX2_init_34 lf_X2_21 fk_58_4 (by decide) (fun _ => ⟨nB, rfl⟩) rfl ?_
  refine B_aload_n (pc := 37) C dX2_init_37 rfl ?_
  refine B_bipush (pc := 38) (v := (32)) C dX2_init_38 (by decide) ?_
  refine B_newa (pc := 40) (n := 63) (t := 0) (N := 32) C dX2_init_40 rfl (by omega) wa_0 sh_63 (by decide) (by decide) (by omega) (by decide +kernel) (hz 63 (by omega) (by omega)) (by decide +kernel) rfl (by omega) (by omega) ?_
  show VB X _ _ [58, 59, 60, 61, 62, 63] [(58, 4), (58, 3), (58, 2), (58, 0)] (h) 5 1092 42 [some (.ref 58)] [.ref 63, .ref 58]
  refine B_putR (pc := 42) C dX2_init_42 lf_X2_24 fk_58_5 (by decide) (fun _ => ⟨nB, rfl⟩) rfl ?_
  exact B_vret (pc := 45) C nB dX2_init_45
set_option maxHeartbeats 4000000 in
set_option maxRecDepth 20000 in
theorem K_X6_51 {E : EB} {h : PH} (hz : ∀ k, 52 ≤ k → k ≤ 63 → Zr k h) : MB noX E yX6_init cX6_init 1 2 32 12 1195 [.ref 51] [51] [51, 58, 59, 60, 61, 62, 63, 52, 53, 54, 55, 56, 57] [(51, 6), (51, 5), (51, 4), (51, 3), (51, 2), (51, 1), (51, 0), (58, 5), (58, 4), (58, 3), (58, 2), (58, 0)] h (h) := by
  refine MB.of 0 (by decide) rfl rfl (fun X e1 C nB hex => ?_)
  subst e1
  replace C : CB X cX6_init 1 RX6 2 32 12 1195 := C
  show VB X _ _ [51] [] h 0 0 0 [some (.ref 51)] []
  refine B_aload_n (pc := 0) C dX6_init_0 rfl ?_
  refine B_objInit (pc := 1) C dX6_init_1 lo_X6 wo_i wo_c (by omega) (by decide) ?_
  refine B_aload_n (pc := 4) C dX6_init_4 rfl ?_
  refine B_new (pc := 5) (n := 58) (N := 7) C dX6_init_5 nk_X6_9_58 (by decide +kernel) (hz 58 (by omega) (by omega)) (by decide +kernel) (by decide +kernel) rfl (by omega) (by omega) ?_
  show VB X _ _ [51, 58] [] (h) 1 7 8 [some (.ref 51)] [.ref 58, .ref 51]
  refine B_dup (pc := 8) C dX6_init_8 ?_
  refine B_ctor (pc := 9) (a := 58) (nw := [59, 60, 61, 62, 63]) (As := []) (rest := [.ref 58, .ref 51]) C dX6_init_9 (Or.inr ln_X6_11) mc_X2 (hexT hex) (K_X2_58 (E := xB X) (fun k q1 q2 => hz k (by omega) (by omega))) rfl pi_X2 (by omega) (by omega) rfl (by decide) (by omega) (by omega) (by decide) (by decide +kernel) (by decide) (by decide +kernel) (by decide +kernel) rfl (fun _ _ => ⟨rfl, rfl⟩) ?_
  show VB X _ _ [51, 58, 59, 60, 61, 62, 63] [(58, 5), (58, 4), (58, 3), (58, 2), (58, 0)] (h) 6 1099 12 [some (.ref 51)] [.ref 58, .ref 51]
  refine B_putR (pc := 12) C dX6_init_12 lf_X6_12 fk_51_0 (by decide) (fun _ => ⟨nB, rfl⟩) rfl ?_
  refine B_aload_n (pc := 15) C dX6_init_15 rfl ?_
  refine B_bipush (pc := 16) (v := (24)) C dX6_init_16 (by decide) ?_
  refine B_newa (pc := 18) (n := 52) (t := 0) (N := 24) C dX6_init_18 rfl (by omega) wa_0 sh_52 (by decide) (by decide) (by omega) (by decide +kernel) (hz 52 (by omega) (by omega)) (by decide +kernel) rfl (by omega) (by omega) ?_
  show VB X _ _ [51, 58, 59, 60, 61, 62, 63, 52] [(51, 0), (58, 5), (58, 4), (58, 3), (58, 2), (58, 0)] (h) 7 1123 20 [some (.ref 51)] [.ref 52, .ref 51]
  refine B_putR (pc := 20) C dX6_init_20 lf_X6_18 fk_51_1 (by decide) (fun _ => ⟨nB, rfl⟩) rfl ?_
  refine B_aload_n (pc := 23) C dX6_init_23 rfl ?_
  refine B_bipush (pc := 24) (v := (24)) C dX6_init_24 (by decide) ?_
  refine B_newa (pc := 26) (n := 53) (t := 0) (N := 24) C dX6_init_26 rfl (by omega) wa_0 sh_53 (by decide) (by decide) (by omega) (by decide +kernel) (hz 53 (by omega) (by omega)) (by decide +kernel) rfl (by omega) (by omega) ?_
  show VB X _ _ [51, 58, 59, 60, 61, 62, 63, 52, 53] [(51, 1), (51, 0), (58, 5), (58, 4), (58, 3), (58, 2), (58, 0)] (h) 8 1147 28 [some (.ref 51)] [.ref 53, .ref 51]
  refine B_putR (pc := 28) C dX6_init_28 lf_X6_22 fk_51_2 (by decide) (fun _ => ⟨nB, rfl⟩) rfl ?_
  refine B_aload_n (pc := 31) C dX6_init_31 rfl ?_
  refine B_bipush (pc := 32) (v := (24)) C dX6_init_32 (by decide) ?_
  refine B_newa (pc := 34) (n := 54) (t := 0) (N := 24) C dX6_init_34 rfl (by omega) wa_0 sh_54 (by decide) (by decide) (by omega) (by decide +kernel) (hz 54 (by omega) (by omega)) (by decide +kernel) rfl (by omega) (by omega) ?_
  show VB X _ _ [51, 58, 59, 60, 61, 62, 63, 52, 53, 54] [(51, 2), (51, 1), (51, 0), (58, 5), (58, 4), (58, 3), (58, 2), (58, 0)] (h) 9 1171 36 [some (.ref 51)] [.ref 54, .ref 51]
  refine B_putR (pc := 36) C dX6_init_36 lf_X6_25 fk_51_3 (by decide) (fun _ => ⟨nB, rfl⟩) rfl ?_
  refine B_aload_n (pc := 39) C dX6_init_39 rfl ?_
  refine B_bipush (pc := 40) (v := (8)) C dX6_init_40 (by decide) ?_
  refine B_newa (pc := 42) (n := 55) (t := 0) (N := 8) C dX6_init_42 rfl (by omega) wa_0 sh_55 (by decide) (by decide) (by omega) (by decide +kernel) (hz 55 (by omega) (by omega)) (by decide +kernel) rfl (by omega) (by omega) ?_
  show VB X _ _ [51, 58, 59, 60, 61, 62, 63, 52, 53, 54, 55] [(51, 3), (51, 2), (51, 1), (51, 0), (58, 5), (58, 4), (58, 3), (58, 2), (58, 0)] (h) 10 1179 44 [some (.ref 51)] [.ref 55, .ref 51]
  refine B_putR (pc := 44) C dX6_init_44 lf_X6_28 fk_51_4 (by decide) (fun _ => ⟨nB, rfl⟩) rfl ?_
  refine B_aload_n (pc := 47) C dX6_init_47 rfl ?_
  refine B_bipush (pc := 48) (v := (8)) C dX6_init_48 (by decide) ?_
  refine B_newa (pc := 50) (n := 56) (t := 0) (N := 8) C dX6_init_50 rfl (by omega) wa_0 sh_56 (by decide) (by decide) (by omega) (by decide +kernel) (hz 56 (by omega) (by omega)) (by decide +kernel) rfl (by omega) (by omega) ?_
  show VB X _ _ [51, 58, 59, 60, 61, 62, 63, 52, 53, 54, 55, 56] [(51, 4), (51, 3), (51, 2), (51, 1), (51, 0), (58, 5), (58, 4), (58, 3), (58, 2), (58, 0)] (h) 11 1187 52 [some (.ref 51)] [.ref 56, .ref 51]
  refine B_putR (pc := 52) C dX6_init_52 lf_X6_31 fk_51_5 (by decide) (fun _ => ⟨nB, rfl⟩) rfl ?_
  refine B_aload_n (pc := 55) C dX6_init_55 rfl ?_
  refine B_bipush (pc := 56) (v := (8)) C dX6_init_56 (by decide) ?_
  refine B_newa (pc := 58) (n := 57) (t := 0) (N := 8) C dX6_init_58 rfl (by omega) wa_0 sh_57 (by decide) (by decide) (by omega) (by decide +kernel) (hz 57 (by omega) (by omega)) (by decide +kernel) rfl (by omega) (by omega) ?_
  show VB X _ _ [51, 58, 59, 60, 61, 62, 63, 52, 53, 54, 55, 56, 57] [(51, 5), (51, 4), (51, 3), (51, 2), (51, 1), (51, 0), (58, 5), (58, 4), (58, 3), (58, 2), (58, 0)] (h) 12 1195 60 [some (.ref 51)] [.ref 57, .ref 51]
  refine B_putR (pc := 60) C dX6_init_60 lf_X6_34 fk_51_6 (by decide) (fun _ => ⟨nB, rfl⟩) rfl ?_
  exact B_vret (pc := 63) C nB dX6_init_63
set_option maxRecDepth 20000 in
theorem nk_X11_57_64 : NWK RX11 57 10 64 20 := ⟨RX10, TX10, tyX10, _, rfl, bw_c2 (List.mem_of_getElem? (i := 118) (by decide +kernel)) rfl, bw_c2 (List.mem_of_getElem? (i := 119) (by decide +kernel)) rfl, bw_c1 (List.mem_of_getElem? (i := 10) (by decide +kernel)) rfl, inBX10, tyX10_ok, sh_64, rfl, by decide +kernel⟩
set_option maxHeartbeats 4000000 in
set_option maxRecDepth 20000 in
theorem K_X10_64 {E : EB} {h : PH} (hz : ∀ k, 65 ≤ k → k ≤ 79 → Zr k h) : MB noX E yX10_init cX10_init 2 1 12 15 132 [.ref 64, .ref 51] [64] [64, 65, 66, 67, 68, 69, 70, 71, 72, 73, 74, 75, 76, 77, 78, 79] [(64, 9), (64, 16), (64, 15), (64, 14), (64, 13), (64, 12), (64, 11), (64, 10), (64, 5), (64, 4), (64, 3), (64, 2), (64, 1), (64, 0)] h (hs (h) 64 19 (-1)) := by
  refine MB.of 0 (by decide) rfl rfl (fun X e1 C nB hex => ?_)
  subst e1
  replace C : CB X cX10_init 2 RX10 1 12 15 132 := C
  show VB X _ _ [64] [] h 0 0 0 [some (.ref 64), some (.ref 51)] []
  refine B_aload_n (pc := 0) C dX10_init_0 rfl ?_
  refine B_objInit (pc := 1) C dX10_init_1 lo_X10 wo_i wo_c (by omega) (by decide) ?_
  refine B_aload_n (pc := 4) C dX10_init_4 rfl ?_
  refine B_bipush (pc := 5) (v := (24)) C dX10_init_5 (by decide) ?_
  refine B_newa (pc := 7) (n := 65) (t := 0) (N := 24) C dX10_init_7 rfl (by omega) wa_0 sh_65 (by decide) (by decide) (by omega) (by decide +kernel) (hz 65 (by omega) (by omega)) (by decide +kernel) rfl (by omega) (by omega) ?_
  show VB X _ _ [64, 65] [] (h) 1 24 9 [some (.ref 64), some (.ref 51)] [.ref 65, .ref 64]
  refine B_putR (pc := 9) C dX10_init_9 lf_X10_9 fk_64_0 (by decide) (fun _ => ⟨nB, rfl⟩) rfl ?_
  refine B_aload_n (pc := 12) C dX10_init_12 rfl ?_
  refine B_bipush (pc := 13) (v := (24)) C dX10_init_13 (by decide) ?_
  refine B_newa (pc := 15) (n := 66) (t := 0) (N := 24) C dX10_init_15 rfl (by omega) wa_0 sh_66 (by decide) (by decide) (by omega) (by decide +kernel) (hz 66 (by omega) (by omega)) (by decide +kernel) rfl (by omega) (by omega) ?_
  show VB X _ _ [64, 65, 66] [(64, 0)] (h) 2 48 17 [some (.ref 64), some (.ref 51)] [.ref 66, .ref 64]
  refine B_putR (pc := 17) C dX10_init_17 lf_X10_15 fk_64_1 (by decide) (fun _ => ⟨nB, rfl⟩) rfl ?_
  refine B_aload_n (pc := 20) C dX10_init_20 rfl ?_
  refine B_bipush (pc := 21) (v := (24)) C dX10_init_21 (by decide) ?_
  refine B_newa (pc := 23) (n := 67) (t := 0) (N := 24) C dX10_init_23 rfl (by omega) wa_0 sh_67 (by decide) (by decide) (by omega) (by decide +kernel) (hz 67 (by omega) (by omega)) (by decide +kernel) rfl (by omega) (by omega) ?_
  show VB X _ _ [64, 65, 66, 67] [(64, 1), (64, 0)] (h) 3 72 25 [some (.ref 64), some (.ref 51)] [.ref 67, .ref 64]
  refine B_putR (pc := 25) C dX10_init_25 lf_X10_18 fk_64_2 (by decide) (fun _ => ⟨nB, rfl⟩) rfl ?_
  refine B_aload_n (pc := 28) C dX10_init_28 rfl ?_
  refine B_bipush (pc := 29) (v := (24)) C dX10_init_29 (by decide) ?_
  refine B_newa (pc := 31) (n := 68) (t := 0) (N := 24) C dX10_init_31 rfl (by omega) wa_0 sh_68 (by decide) (by decide) (by omega) (by decide +kernel) (hz 68 (by omega) (by omega)) (by decide +kernel) rfl (by omega) (by omega) ?_
  show VB X _ _ [64, 65, 66, 67, 68] [(64, 2), (64, 1), (64, 0)] (h) 4 96 33 [some (.ref 64), some (.ref 51)] [.ref 68, .ref 64]
  refine B_putR (pc := 33) C dX10_init_33 lf_X10_21 fk_64_3 (by decide) (fun _ => ⟨nB, rfl⟩) rfl ?_
  refine B_aload_n (pc := 36) C dX10_init_36 rfl ?_
  refine B_iconst (pc := 37) (v := (2)) C dX10_init_37 (by decide) ?_
  refine B_newa (pc := 38) (n := 69) (t := 0) (N := 2) C dX10_init_38 rfl (by omega) wa_0 sh_69 (by decide) (by decide) (by omega) (by decide +kernel) (hz 69 (by omega) (by omega)) (by decide +kernel) rfl (by omega) (by omega) ?_
  show VB X _ _ [64, 65, 66, 67, 68, 69] [(64, 3), (64, 2), (64, 1), (64, 0)] (h) 5 98 40 [some (.ref 64), some (.ref 51)] [.ref 69, .ref 64]
  refine B_putR (pc := 40) C dX10_init_40 lf_X10_24 fk_64_4 (by decide) (fun _ => ⟨nB, rfl⟩) rfl ?_
  refine B_aload_n (pc := 43) C dX10_init_43 rfl ?_
  refine B_iconst (pc := 44) (v := (2)) C dX10_init_44 (by decide) ?_
  refine B_iconst (pc := 45) (v := (5)) C dX10_init_45 (by decide) ?_
  refine B_multi (pc := 46) (n := 70) (N := 2) (M := 5) (nw := [70, 71, 72]) C dX10_init_46 wm_X10_27 hex wa_0 sh_70 (fun j hj => by rcases (show j = 0 ∨ j = 1 by omega) with rfl | rfl <;> decide +kernel) (by decide) (by decide) (by decide) (by decide) (by omega) (by omega) (by decide) (by decide +kernel) (fun k mk => by simp at mk; exact hz k (by omega) (by omega)) (by decide +kernel) rfl (by omega) (by omega) ?_
  show VB X _ _ [64, 65, 66, 67, 68, 69, 70, 71, 72] [(64, 4), (64, 3), (64, 2), (64, 1), (64, 0)] (h) 8 110 50 [some (.ref 64), some (.ref 51)] [.ref 70, .ref 64]
  refine B_putR (pc := 50) C dX10_init_50 lf_X10_29 fk_64_5 (by decide) (fun _ => ⟨nB, rfl⟩) rfl ?_
  refine B_aload_n (pc := 53) C dX10_init_53 rfl ?_
  refine B_iconst (pc := 54) (v := (2)) C dX10_init_54 (by decide) ?_
  refine B_newa (pc := 55) (n := 73) (t := 0) (N := 2) C dX10_init_55 rfl (by omega) wa_0 sh_73 (by decide) (by decide) (by omega) (by decide +kernel) (hz 73 (by omega) (by omega)) (by decide +kernel) rfl (by omega) (by omega) ?_
  show VB X _ _ [64, 65, 66, 67, 68, 69, 70, 71, 72, 73] [(64, 5), (64, 4), (64, 3), (64, 2), (64, 1), (64, 0)] (h) 9 112 57 [some (.ref 64), some (.ref 51)] [.ref 73, .ref 64]
  refine B_putR (pc := 57) C dX10_init_57 lf_X10_32 fk_64_10 (by decide) (fun _ => ⟨nB, rfl⟩) rfl ?_
  refine B_aload_n (pc := 60) C dX10_init_60 rfl ?_
  refine B_iconst (pc := 61) (v := (2)) C dX10_init_61 (by decide) ?_
  refine B_newa (pc := 62) (n := 74) (t := 0) (N := 2) C dX10_init_62 rfl (by omega) wa_0 sh_74 (by decide) (by decide) (by omega) (by decide +kernel) (hz 74 (by omega) (by omega)) (by decide +kernel) rfl (by omega) (by omega) ?_
  show VB X _ _ [64, 65, 66, 67, 68, 69, 70, 71, 72, 73, 74] [(64, 10), (64, 5), (64, 4), (64, 3), (64, 2), (64, 1), (64, 0)] (h) 10 114 64 [some (.ref 64), some (.ref 51)] [.ref 74, .ref 64]
  refine B_putR (pc := 64) C dX10_init_64 lf_X10_35 fk_64_11 (by decide) (fun _ => ⟨nB, rfl⟩) rfl ?_
  refine B_aload_n (pc := 67) C dX10_init_67 rfl ?_
  refine B_iconst (pc := 68) (v := (2)) C dX10_init_68 (by decide) ?_
  refine B_newa (pc := 69) (n := 75) (t := 0) (N := 2) C dX10_init_69 rfl (by omega) wa_0 sh_75 (by decide) (by decide) (by omega) (by decide +kernel) (hz 75 (by omega) (by omega)) (by decide +kernel) rfl (by omega) (by omega) ?_
  show VB X _ _ [64, 65, 66, 67, 68, 69, 70, 71, 72, 73, 74, 75] [(64, 11), (64, 10), (64, 5), (64, 4), (64, 3), (64, 2), (64, 1), (64, 0)] (h) 11 116 71 [some (.ref 64), some (.ref 51)] [.ref 75, .ref 64]
  refine B_putR (pc := 71) C dX10_init_71 lf_X10_38 fk_64_12 (by decide) (fun _ => ⟨nB, rfl⟩) rfl ?_
  refine B_aload_n (pc := 74) C dX10_init_74 rfl ?_
  refine B_iconst (pc := 75) (v := (2)) C dX10_init_75 (by decide) ?_
  refine B_newa (pc := 76) (n := 76) (t := 0) (N := 2) C dX10_init_76 rfl (by omega) wa_0 sh_76 (by decide) (by decide) (by omega) (by decide +kernel) (hz 76 (by omega) (by omega)) (by decide +kernel) rfl (by omega) (by omega) ?_
  show VB X _ _ [64, 65, 66, 67, 68, 69, 70, 71, 72, 73, 74, 75, 76] [(64, 12), (64, 11), (64, 10), (64, 5), (64, 4), (64, 3), (64, 2), (64, 1), (64, 0)] (h) 12 118 78 [some (.ref 64), some (.ref 51)] [.ref 76, .ref 64]
  refine B_putR (pc := 78) C dX10_init_78 lf_X10_41 fk_64_13 (by decide) (fun _ => ⟨nB, rfl⟩) rfl ?_
  refine B_aload_n (pc := 81) C dX10_init_81 rfl ?_
  refine B_iconst (pc := 82) (v := (2)) C dX10_init_82 (by decide) ?_
  refine B_newa (pc := 83) (n := 77) (t := 0) (N := 2) C dX10_init_83 rfl (by omega) wa_0 sh_77 (by decide) (by decide) (by omega) (by decide +kernel) (hz 77 (by omega) (by omega)) (by decide +kernel) rfl (by omega) (by omega) ?_
  show VB X _ _ [64, 65, 66, 67, 68, 69, 70, 71, 72, 73, 74, 75, 76, 77] [(64, 13), (64, 12), (64, 11), (64, 10), (64, 5), (64, 4), (64, 3), (64, 2), (64, 1), (64, 0)] (h) 13 120 85 [some (.ref 64), some (.ref 51)] [.ref 77, .ref 64]
  refine B_putR (pc := 85) C dX10_init_85 lf_X10_44 fk_64_14 (by decide) (fun _ => ⟨nB, rfl⟩) rfl ?_
  refine B_aload_n (pc := 88) C dX10_init_88 rfl ?_
  refine B_bipush (pc := 89) (v := (6)) C dX10_init_89 (by decide) ?_
  refine B_newa (pc := 91) (n := 78) (t := 0) (N := 6) C dX10_init_91 rfl (by omega) wa_0 sh_78 (by decide) (by decide) (by omega) (by decide +kernel) (hz 78 (by omega) (by omega)) (by decide +kernel) rfl (by omega) (by omega) ?_
  show VB X _ _ [64, 65, 66, 67, 68, 69, 70, 71, 72, 73, 74, 75, 76, 77, 78] [(64, 14), (64, 13), (64, 12), (64, 11), (64, 10), (64, 5), (64, 4), (64, 3), (64, 2), (64, 1), (64, 0)] (h) 14 126 93 [some (.ref 64), some (.ref 51)] [.ref 78, .ref 64]
  refine B_putR (pc := 93) C dX10_init_93 lf_X10_47 fk_64_15 (by decide) (fun _ => ⟨nB, rfl⟩) rfl ?_
  refine B_aload_n (pc := 96) C dX10_init_96 rfl ?_
  refine B_bipush (pc := 97) (v := (6)) C dX10_init_97 (by decide) ?_
  refine B_newa (pc := 99) (n := 79) (t := 0) (N := 6) C dX10_init_99 rfl (by omega) wa_0 sh_79 (by decide) (by decide) (by omega) (by decide +kernel) (hz 79 (by omega) (by omega)) (by decide +kernel) rfl (by omega) (by omega) ?_
  show VB X _ _ [64, 65, 66, 67, 68, 69, 70, 71, 72, 73, 74, 75, 76, 77, 78, 79] [(64, 15), (64, 14), (64, 13), (64, 12), (64, 11), (64, 10), (64, 5), (64, 4), (64, 3), (64, 2), (64, 1), (64, 0)] (h) 15 132 101 [some (.ref 64), some (.ref 51)] [.ref 79, .ref 64]
  refine B_putR (pc := 101) C dX10_init_101 lf_X10_50 fk_64_16 (by decide) (fun _ => ⟨nB, rfl⟩) rfl ?_
  refine B_aload_n (pc := 104) C dX10_init_104 rfl ?_
  refine B_iconst (pc := 105) (v := (-1)) C dX10_init_105 (by decide) ?_
  refine B_putI (pc := 106) C dX10_init_106 lf_X10_53 fk_64_19 (by decide) rfl rfl ?_
  refine B_aload_n (pc := 109) C dX10_init_109 rfl ?_
  refine B_aload_n (pc := 110) C dX10_init_110 rfl ?_
  refine B_putR (pc := 111) C dX10_init_111 lf_X10_57 fk_64_9 (by decide) (fun _ => ⟨nB, rfl⟩) rfl ?_
  exact B_vret (pc := 114) C nB dX10_init_114
set_option maxRecDepth 20000 in
theorem nk_X11_66_80 : NWK RX11 66 1 80 5 := ⟨RX1, TX1, tyX1, _, rfl, bw_c2 (List.mem_of_getElem? (i := 196) (by decide +kernel)) rfl, bw_c2 (List.mem_of_getElem? (i := 197) (by decide +kernel)) rfl, bw_c1 (List.mem_of_getElem? (i := 11) (by decide +kernel)) rfl, inBX1, tyX1_ok, sh_80, rfl, by decide +kernel⟩
set_option maxRecDepth 20000 in
theorem nk_X1_26_83 : NWK RX1 26 10 83 20 := ⟨RX10, TX10, tyX10, _, rfl, bw_c2 (List.mem_of_getElem? (i := 202) (by decide +kernel)) rfl, bw_c2 (List.mem_of_getElem? (i := 119) (by decide +kernel)) rfl, bw_c1 (List.mem_of_getElem? (i := 10) (by decide +kernel)) rfl, inBX10, tyX10_ok, sh_83, rfl, by decide +kernel⟩
set_option maxHeartbeats 4000000 in
set_option maxRecDepth 20000 in
theorem K_X10_83 {E : EB} {h : PH} (hz : ∀ k, 84 ≤ k → k ≤ 98 → Zr k h) : MB noX E yX10_init cX10_init 2 1 12 15 132 [.ref 83, .ref 51] [83] [83, 84, 85, 86, 87, 88, 89, 90, 91, 92, 93, 94, 95, 96, 97, 98] [(83, 9), (83, 16), (83, 15), (83, 14), (83, 13), (83, 12), (83, 11), (83, 10), (83, 5), (83, 4), (83, 3), (83, 2), (83, 1), (83, 0)] h (hs (h) 83 19 (-1)) := by
  refine MB.of 0 (by decide) rfl rfl (fun X e1 C nB hex => ?_)
  subst e1
  replace C : CB X cX10_init 2 RX10 1 12 15 132 := C
  show VB X _ _ [83] [] h 0 0 0 [some (.ref 83), some (.ref 51)] []
  refine B_aload_n (pc := 0) C dX10_init_0 rfl ?_
  refine B_objInit (pc := 1) C dX10_init_1 lo_X10 wo_i wo_c (by omega) (by decide) ?_
  refine B_aload_n (pc := 4) C dX10_init_4 rfl ?_
  refine B_bipush (pc := 5) (v := (24)) C dX10_init_5 (by decide) ?_
  refine B_newa (pc := 7) (n := 84) (t := 0) (N := 24) C dX10_init_7 rfl (by omega) wa_0 sh_84 (by decide) (by decide) (by omega) (by decide +kernel) (hz 84 (by omega) (by omega)) (by decide +kernel) rfl (by omega) (by omega) ?_
  show VB X _ _ [83, 84] [] (h) 1 24 9 [some (.ref 83), some (.ref 51)] [.ref 84, .ref 83]
  refine B_putR (pc := 9) C dX10_init_9 lf_X10_9 fk_83_0 (by decide) (fun _ => ⟨nB, rfl⟩) rfl ?_
  refine B_aload_n (pc := 12) C dX10_init_12 rfl ?_
  refine B_bipush (pc := 13) (v := (24)) C dX10_init_13 (by decide) ?_
  refine B_newa (pc := 15) (n := 85) (t := 0) (N := 24) C dX10_init_15 rfl (by omega) wa_0 sh_85 (by decide) (by decide) (by omega) (by decide +kernel) (hz 85 (by omega) (by omega)) (by decide +kernel) rfl (by omega) (by omega) ?_
  show VB X _ _ [83, 84, 85] [(83, 0)] (h) 2 48 17 [some (.ref 83), some (.ref 51)] [.ref 85, .ref 83]
  refine B_putR (pc := 17) C dX10_init_17 lf_X10_15 fk_83_1 (by decide) (fun _ => ⟨nB, rfl⟩) rfl ?_
  refine B_aload_n (pc := 20) C dX10_init_20 rfl ?_
  refine B_bipush (pc := 21) (v := (24)) C dX10_init_21 (by decide) ?_
  refine B_newa (pc := 23) (n := 86) (t := 0) (N := 24) C dX10_init_23 rfl (by omega) wa_0 sh_86 (by decide) (by decide) (by omega) (by decide +kernel) (hz 86 (by omega) (by omega)) (by decide +kernel) rfl (by omega) (by omega) ?_
  show VB X _ _ [83, 84, 85, 86] [(83, 1), (83, 0)] (h) 3 72 25 [some (.ref 83), some (.ref 51)] [.ref 86, .ref 83]
  refine B_putR (pc := 25) C dX10_init_25 lf_X10_18 fk_83_2 (by decide) (fun _ => ⟨nB, rfl⟩) rfl ?_
  refine B_aload_n (pc := 28) C dX10_init_28 rfl ?_
  refine B_bipush (pc := 29) (v := (24)) C dX10_init_29 (by decide) ?_
  refine B_newa (pc := 31) (n := 87) (t := 0) (N := 24) C dX10_init_31 rfl (by omega) wa_0 sh_87 (by decide) (by decide) (by omega) (by decide +kernel) (hz 87 (by omega) (by omega)) (by decide +kernel) rfl (by omega) (by omega) ?_
  show VB X _ _ [83, 84, 85, 86, 87] [(83, 2), (83, 1), (83, 0)] (h) 4 96 33 [some (.ref 83), some (.ref 51)] [.ref 87, .ref 83]
  refine B_putR (pc := 33) C dX10_init_33 lf_X10_21 fk_83_3 (by decide) (fun _ => ⟨nB, rfl⟩) rfl ?_
  refine B_aload_n (pc := 36) C dX10_init_36 rfl ?_
  refine B_iconst (pc := 37) (v := (2)) C dX10_init_37 (by decide) ?_
  refine B_newa (pc := 38) (n := 88) (t := 0) (N := 2) C dX10_init_38 rfl (by omega) wa_0 sh_88 (by decide) (by decide) (by omega) (by decide +kernel) (hz 88 (by omega) (by omega)) (by decide +kernel) rfl (by omega) (by omega) ?_
  show VB X _ _ [83, 84, 85, 86, 87, 88] [(83, 3), (83, 2), (83, 1), (83, 0)] (h) 5 98 40 [some (.ref 83), some (.ref 51)] [.ref 88, .ref 83]
  refine B_putR (pc := 40) C dX10_init_40 lf_X10_24 fk_83_4 (by decide) (fun _ => ⟨nB, rfl⟩) rfl ?_
  refine B_aload_n (pc := 43) C dX10_init_43 rfl ?_
  refine B_iconst (pc := 44) (v := (2)) C dX10_init_44 (by decide) ?_
  refine B_iconst (pc := 45) (v := (5)) C dX10_init_45 (by decide) ?_
  refine B_multi (pc := 46) (n := 89) (N := 2) (M := 5) (nw := [89, 90, 91]) C dX10_init_46 wm_X10_27 hex wa_0 sh_89 (fun j hj => by rcases (show j = 0 ∨ j = 1 by omega) with rfl | rfl <;> decide +kernel) (by decide) (by decide) (by decide) (by decide) (by omega) (by omega) (by decide) (by decide +kernel) (fun k mk => by simp at mk; exact hz k (by omega) (by omega)) (by decide +kernel) rfl (by omega) (by omega) ?_
  show VB X _ _ [83, 84, 85, 86, 87, 88, 89, 90, 91] [(83, 4), (83, 3), (83, 2), (83, 1), (83, 0)] (h) 8 110 50 [some (.ref 83), some (.ref 51)] [.ref 89, .ref 83]
  refine B_putR (pc := 50) C dX10_init_50 lf_X10_29 fk_83_5 (by decide) (fun _ => ⟨nB, rfl⟩) rfl ?_
  refine B_aload_n (pc := 53) C dX10_init_53 rfl ?_
  refine B_iconst (pc := 54) (v := (2)) C dX10_init_54 (by decide) ?_
  refine B_newa (pc := 55) (n := 92) (t := 0) (N := 2) C dX10_init_55 rfl (by omega) wa_0 sh_92 (by decide) (by decide) (by omega) (by decide +kernel) (hz 92 (by omega) (by omega)) (by decide +kernel) rfl (by omega) (by omega) ?_
  show VB X _ _ [83, 84, 85, 86, 87, 88, 89, 90, 91, 92] [(83, 5), (83, 4), (83, 3), (83, 2), (83, 1), (83, 0)] (h) 9 112 57 [some (.ref 83), some (.ref 51)] [.ref 92, .ref 83]
  refine B_putR (pc := 57) C dX10_init_57 lf_X10_32 fk_83_10 (by decide) (fun _ => ⟨nB, rfl⟩) rfl ?_
  refine B_aload_n (pc := 60) C dX10_init_60 rfl ?_
  refine B_iconst (pc := 61) (v := (2)) C dX10_init_61 (by decide) ?_
  refine B_newa (pc := 62) (n := 93) (t := 0) (N := 2) C dX10_init_62 rfl (by omega) wa_0 sh_93 (by decide) (by decide) (by omega) (by decide +kernel) (hz 93 (by omega) (by omega)) (by decide +kernel) rfl (by omega) (by omega) ?_
  show VB X _ _ [83, 84, 85, 86, 87, 88, 89, 90, 91, 92, 93] [(83, 10), (83, 5), (83, 4), (83, 3), (83, 2), (83, 1), (83, 0)] (h) 10 114 64 [some (.ref 83), some (.ref 51)] [.ref 93, .ref 83]
  refine B_putR (pc := 64) C dX10_init_64 lf_X10_35 fk_83_11 (by decide) (fun _ => ⟨nB, rfl⟩) rfl ?_
  refine B_aload_n (pc := 67) C dX10_init_67 rfl ?_
  refine B_iconst (pc := 68) (v := (2)) C dX10_init_68 (by decide) ?_
  refine B_newa (pc := 69) (n := 94) (t := 0) (N := 2) C dX10_init_69 rfl (by omega) wa_0 sh_94 (by decide) (by decide) (by omega) (by decide +kernel) (hz 94 (by omega) (by omega)) (by decide +kernel) rfl (by omega) (by omega) ?_
  show VB X _ _ [83, 84, 85, 86, 87, 88, 89, 90, 91, 92, 93, 94] [(83, 11), (83, 10), (83, 5), (83, 4), (83, 3), (83, 2), (83, 1), (83, 0)] (h) 11 116 71 [some (.ref 83), some (.ref 51)] [.ref 94, .ref 83]
  refine B_putR (pc := 71) C dX10_init_71 lf_X10_38 fk_83_12 (by decide) (fun _ => ⟨nB, rfl⟩) rfl ?_
  refine B_aload_n (pc := 74) C dX10_init_74 rfl ?_
  refine B_iconst (pc := 75) (v := (2)) C dX10_init_75 (by decide) ?_
  refine B_newa (pc := 76) (n := 95) (t := 0) (N := 2) C dX10_init_76 rfl (by omega) wa_0 sh_95 (by decide) (by decide) (by omega) (by decide +kernel) (hz 95 (by omega) (by omega)) (by decide +kernel) rfl (by omega) (by omega) ?_
  show VB X _ _ [83, 84, 85, 86, 87, 88, 89, 90, 91, 92, 93, 94, 95] [(83, 12), (83, 11), (83, 10), (83, 5), (83, 4), (83, 3), (83, 2), (83, 1), (83, 0)] (h) 12 118 78 [some (.ref 83), some (.ref 51)] [.ref 95, .ref 83]
  refine B_putR (pc := 78) C dX10_init_78 lf_X10_41 fk_83_13 (by decide) (fun _ => ⟨nB, rfl⟩) rfl ?_
  refine B_aload_n (pc := 81) C dX10_init_81 rfl ?_
  refine B_iconst (pc := 82) (v := (2)) C dX10_init_82 (by decide) ?_
  refine B_newa (pc := 83) (n := 96) (t := 0) (N := 2) C dX10_init_83 rfl (by omega) wa_0 sh_96 (by decide) (by decide) (by omega) (by decide +kernel) (hz 96 (by omega) (by omega)) (by decide +kernel) rfl (by omega) (by omega) ?_
  show VB X _ _ [83, 84, 85, 86, 87, 88, 89, 90, 91, 92, 93, 94, 95, 96] [(83, 13), (83, 12), (83, 11), (83, 10), (83, 5), (83, 4), (83, 3), (83, 2), (83, 1), (83, 0)] (h) 13 120 85 [some (.ref 83), some (.ref 51)] [.ref 96, .ref 83]
  refine B_putR (pc := 85) C dX10_init_85 lf_X10_44 fk_83_14 (by decide) (fun _ => ⟨nB, rfl⟩) rfl ?_
  refine B_aload_n (pc := 88) C dX10_init_88 rfl ?_
  refine B_bipush (pc := 89) (v := (6)) C dX10_init_89 (by decide) ?_
  refine B_newa (pc := 91) (n := 97) (t := 0) (N := 6) C dX10_init_91 rfl (by omega) wa_0 sh_97 (by decide) (by decide) (by omega) (by decide +kernel) (hz 97 (by omega) (by omega)) (by decide +kernel) rfl (by omega) (by omega) ?_
  show VB X _ _ [83, 84, 85, 86, 87, 88, 89, 90, 91, 92, 93, 94, 95, 96, 97] [(83, 14), (83, 13), (83, 12), (83, 11), (83, 10), (83, 5), (83, 4), (83, 3), (83, 2), (83, 1), (83, 0)] (h) 14 126 93 [some (.ref 83), some (.ref 51)] [.ref 97, .ref 83]
  refine B_putR (pc := 93) C dX10_init_93 lf_X10_47 fk_83_15 (by decide) (fun _ => ⟨nB, rfl⟩) rfl ?_
  refine B_aload_n (pc := 96) C dX10_init_96 rfl ?_
  refine B_bipush (pc := 97) (v := (6)) C dX10_init_97 (by decide) ?_
  refine B_newa (pc := 99) (n := 98) (t := 0) (N := 6) C dX10_init_99 rfl (by omega) wa_0 sh_98 (by decide) (by decide) (by omega) (by decide +kernel) (hz 98 (by omega) (by omega)) (by decide +kernel) rfl (by omega) (by omega) ?_
  show VB X _ _ [83, 84, 85, 86, 87, 88, 89, 90, 91, 92, 93, 94, 95, 96, 97, 98] [(83, 15), (83, 14), (83, 13), (83, 12), (83, 11), (83, 10), (83, 5), (83, 4), (83, 3), (83, 2), (83, 1), (83, 0)] (h) 15 132 101 [some (.ref 83), some (.ref 51)] [.ref 98, .ref 83]
  refine B_putR (pc := 101) C dX10_init_101 lf_X10_50 fk_83_16 (by decide) (fun _ => ⟨nB, rfl⟩) rfl ?_
  refine B_aload_n (pc := 104) C dX10_init_104 rfl ?_
  refine B_iconst (pc := 105) (v := (-1)) C dX10_init_105 (by decide) ?_
  refine B_putI (pc := 106) C dX10_init_106 lf_X10_53 fk_83_19 (by decide) rfl rfl ?_
  refine B_aload_n (pc := 109) C dX10_init_109 rfl ?_
  refine B_aload_n (pc := 110) C dX10_init_110 rfl ?_
  refine B_putR (pc := 111) C dX10_init_111 lf_X10_57 fk_83_9 (by decide) (fun _ => ⟨nB, rfl⟩) rfl ?_
  exact B_vret (pc := 114) C nB dX10_init_114
set_option maxHeartbeats 4000000 in
set_option maxRecDepth 20000 in
theorem K_X1_80 {E : EB} {h : PH} (hz : ∀ k, 81 ≤ k → k ≤ 98 → Zr k h) : MB noX E yX1_init cX1_init 2 2 33 18 158 [.ref 80, .ref 51] [80] [80, 81, 82, 83, 84, 85, 86, 87, 88, 89, 90, 91, 92, 93, 94, 95, 96, 97, 98] [(80, 3), (83, 9), (83, 16), (83, 15), (83, 14), (83, 13), (83, 12), (83, 11), (83, 10), (83, 5), (83, 4), (83, 3), (83, 2), (83, 1), (83, 0), (80, 2), (80, 1), (80, 0)] h (hs (hs (h) 80 4 (-1)) 83 19 (-1)) := by
  refine MB.of 0 (by decide) rfl rfl (fun X e1 C nB hex => ?_)
  subst e1
  replace C : CB X cX1_init 2 RX1 2 33 18 158 := C
  show VB X _ _ [80] [] h 0 0 0 [some (.ref 80), some (.ref 51)] []
  refine B_aload_n (pc := 0) C dX1_init_0 rfl ?_
  refine B_objInit (pc := 1) C dX1_init_1 lo_X1 wo_i wo_c (by omega) (by decide) ?_
  refine B_aload_n (pc := 4) C dX1_init_4 rfl ?_
  refine B_iconst (pc := 5) (v := (3)) C dX1_init_5 (by decide) ?_
  refine B_newa (pc := 6) (n := 81) (t := 0) (N := 3) C dX1_init_6 rfl (by omega) wa_0 sh_81 (by decide) (by decide) (by omega) (by decide +kernel) (hz 81 (by omega) (by omega)) (by decide +kernel) rfl (by omega) (by omega) ?_
  show VB X _ _ [80, 81] [] (h) 1 3 8 [some (.ref 80), some (.ref 51)] [.ref 81, .ref 80]
  refine B_putR (pc := 8) C dX1_init_8 lf_X1_9 fk_80_0 (by decide) (fun _ => ⟨nB, rfl⟩) rfl ?_
  refine B_aload_n (pc := 11) C dX1_init_11 rfl ?_
  refine B_iconst (pc := 12) (v := (3)) C dX1_init_12 (by decide) ?_
  refine B_newa (pc := 13) (n := 82) (t := 0) (N := 3) C dX1_init_13 rfl (by omega) wa_0 sh_82 (by decide) (by decide) (by omega) (by decide +kernel) (hz 82 (by omega) (by omega)) (by decide +kernel) rfl (by omega) (by omega) ?_
  show VB X _ _ [80, 81, 82] [(80, 0)] (h) 2 6 15 [some (.ref 80), some (.ref 51)] [.ref 82, .ref 80]
  refine B_putR (pc := 15) C dX1_init_15 lf_X1_15 fk_80_1 (by decide) (fun _ => ⟨nB, rfl⟩) rfl ?_
  refine B_aload_n (pc := 18) C dX1_init_18 rfl ?_
  refine B_iconst (pc := 19) (v := (-1)) C dX1_init_19 (by decide) ?_
  refine B_putI (pc := 20) C dX1_init_20 lf_X1_18 fk_80_4 (by decide) rfl rfl ?_
  refine B_aload_n (pc := 23) C dX1_init_23 rfl ?_
  refine B_aload_n (pc := 24) C dX1_init_24 rfl ?_
  refine B_putR (pc := 25) C dX1_init_25 lf_X1_22 fk_80_2 (by decide) (fun _ => ⟨nB, rfl⟩) rfl ?_
  refine B_aload_n (pc := 28) C dX1_init_28 rfl ?_
  refine B_new (pc := 29) (n := 83) (N := 20) C dX1_init_29 nk_X1_26_83 (by decide +kernel) (zr_s (by omega) (hz 83 (by omega) (by omega))) (by decide +kernel) (by decide +kernel) rfl (by omega) (by omega) ?_
  show VB X _ _ [80, 81, 82, 83] [(80, 2), (80, 1), (80, 0)] (hs (h) 80 4 (-1)) 3 26 32 [some (.ref 80), some (.ref 51)] [.ref 83, .ref 80]
  refine B_dup (pc := 32) C dX1_init_32 ?_
  refine B_aload_n (pc := 33) C dX1_init_33 rfl ?_
  refine B_ctor (pc := 34) (a := 83) (nw := [84, 85, 86, 87, 88, 89, 90, 91, 92, 93, 94, 95, 96, 97, 98]) (As := [.ref 51]) (rest := [.ref 83, .ref 80]) C dX1_init_34 (Or.inl lm_X1_28) mc_X10 (hexT hex) (K_X10_83 (E := xB X) (fun k q1 q2 => zr_s (by omega) (hz k (by omega) (by omega)))) rfl pi_X10 (by omega) (by omega) rfl (by decide) (by omega) (by omega) (by decide) (by decide +kernel) (by decide) (by decide +kernel) (by decide +kernel) rfl (fun b hb => ⟨by have e83 : b ≠ 83 := fun z => hb (by simp [z]); simp [hs, e83], rfl⟩) ?_
  show VB X _ _ [80, 81, 82, 83, 84, 85, 86, 87, 88, 89, 90, 91, 92, 93, 94, 95, 96, 97, 98] [(83, 9), (83, 16), (83, 15), (83, 14), (83, 13), (83, 12), (83, 11), (83, 10), (83, 5), (83, 4), (83, 3), (83, 2), (83, 1), (83, 0), (80, 2), (80, 1), (80, 0)] (hs (hs (h) 80 4 (-1)) 83 19 (-1)) 18 158 37 [some (.ref 80), some (.ref 51)] [.ref 83, .ref 80]
  refine B_putR (pc := 37) C dX1_init_37 lf_X1_31 fk_80_3 (by decide) (fun _ => ⟨nB, rfl⟩) rfl ?_
  exact B_vret (pc := 40) C nB dX1_init_40
set_option maxRecDepth 20000 in
theorem nk_X11_73_99 : NWK RX11 73 7 99 7 := ⟨RX7, TX7, tyX7, _, rfl, bw_c2 (List.mem_of_getElem? (i := 222) (by decide +kernel)) rfl, bw_c2 (List.mem_of_getElem? (i := 223) (by decide +kernel)) rfl, bw_c1 (List.mem_of_getElem? (i := 12) (by decide +kernel)) rfl, inBX7, tyX7_ok, sh_99, rfl, by decide +kernel⟩
set_option maxHeartbeats 4000000 in
set_option maxRecDepth 20000 in
theorem K_X7_99 {E : EB} {h : PH} (hz : ∀ k, 100 ≤ k → k ≤ 102 → Zr k h) : MB noX E yX7_init cX7_init 1 1 12 3 120 [.ref 99] [99] [99, 100, 101, 102] [(99, 3), (99, 2), (99, 1)] h (h) := by
  refine MB.of 0 (by decide) rfl rfl (fun X e1 C nB hex => ?_)
  subst e1
  replace C : CB X cX7_init 1 RX7 1 12 3 120 := C
  show VB X _ _ [99] [] h 0 0 0 [some (.ref 99)] []
  refine B_aload_n (pc := 0) C dX7_init_0 rfl ?_
  refine B_objInit (pc := 1) C dX7_init_1 lo_X7 wo_i wo_c (by omega) (by decide) ?_
  refine B_aload_n (pc := 4) C dX7_init_4 rfl ?_
  refine B_bipush (pc := 5) (v := (40)) C dX7_init_5 (by decide) ?_
  refine B_newa (pc := 7) (n := 100) (t := 0) (N := 40) C dX7_init_7 rfl (by omega) wa_0 sh_100 (by decide) (by decide) (by omega) (by decide +kernel) (hz 100 (by omega) (by omega)) (by decide +kernel) rfl (by omega) (by omega) ?_
  show VB X _ _ [99, 100] [] (h) 1 40 9 [some (.ref 99)] [.ref 100, .ref 99]
  refine B_putR (pc := 9) C dX7_init_9 lf_X7_9 fk_99_1 (by decide) (fun _ => ⟨nB, rfl⟩) rfl ?_
  refine B_aload_n (pc := 12) C dX7_init_12 rfl ?_
  refine B_bipush (pc := 13) (v := (40)) C dX7_init_13 (by decide) ?_
  refine B_newa (pc := 15) (n := 101) (t := 0) (N := 40) C dX7_init_15 rfl (by omega) wa_0 sh_101 (by decide) (by decide) (by omega) (by decide +kernel) (hz 101 (by omega) (by omega)) (by decide +kernel) rfl (by omega) (by omega) ?_
  show VB X _ _ [99, 100, 101] [(99, 1)] (h) 2 80 17 [some (.ref 99)] [.ref 101, .ref 99]
  refine B_putR (pc := 17) C dX7_init_17 lf_X7_15 fk_99_2 (by decide) (fun _ => ⟨nB, rfl⟩) rfl ?_
  refine B_aload_n (pc := 20) C dX7_init_20 rfl ?_
  refine B_bipush (pc := 21) (v := (40)) C dX7_init_21 (by decide) ?_
  refine B_newa (pc := 23) (n := 102) (t := 0) (N := 40) C dX7_init_23 rfl (by omega) wa_0 sh_102 (by decide) (by decide) (by omega) (by decide +kernel) (hz 102 (by omega) (by omega)) (by decide +kernel) rfl (by omega) (by omega) ?_
  show VB X _ _ [99, 100, 101, 102] [(99, 2), (99, 1)] (h) 3 120 25 [some (.ref 99)] [.ref 102, .ref 99]
  refine B_putR (pc := 25) C dX7_init_25 lf_X7_18 fk_99_3 (by decide) (fun _ => ⟨nB, rfl⟩) rfl ?_
  exact B_vret (pc := 28) C nB dX7_init_28
set_option maxHeartbeats 4000000 in
set_option maxRecDepth 20000 in
theorem K_X11_0 {E : EB} {h : PH} (hz : ∀ k, 1 ≤ k → k ≤ 102 → Zr k h) {N : Nat} {h' : PH} (hyp : F_X11_startHouse N 4 (hs (hs (hs (h) 64 19 (-1)) 80 4 (-1)) 83 19 (-1)) = some h') : MB sX E yX11_init cX11_init 1 4 85 102 71773 [.ref 0] [0] [0, 1, 2, 3, 4, 5, 6, 7, 8, 9, 10, 11, 12, 13, 14, 15, 16, 17, 18, 19, 20, 21, 22, 23, 24, 25, 26, 27, 28, 29, 30, 31, 32, 33, 34, 35, 36, 37, 38, 39, 40, 41, 42, 43, 44, 45, 46, 47, 48, 49, 50, 51, 58, 59, 60, 61, 62, 63, 52, 53, 54, 55, 56, 57, 64, 65, 66, 67, 68, 69, 70, 71, 72, 73, 74, 75, 76, 77, 78, 79, 80, 81, 82, 83, 84, 85, 86, 87, 88, 89, 90, 91, 92, 93, 94, 95, 96, 97, 98, 99, 100, 101, 102] [(0, 8), (99, 3), (99, 2), (99, 1), (0, 7), (80, 3), (83, 9), (83, 16), (83, 15), (83, 14), (83, 13), (83, 12), (83, 11), (83, 10), (83, 5), (83, 4), (83, 3), (83, 2), (83, 1), (83, 0), (80, 2), (80, 1), (80, 0), (0, 6), (64, 9), (64, 16), (64, 15), (64, 14), (64, 13), (64, 12), (64, 11), (64, 10), (64, 5), (64, 4), (64, 3), (64, 2), (64, 1), (64, 0), (0, 5), (51, 6), (51, 5), (51, 4), (51, 3), (51, 2), (51, 1), (51, 0), (58, 5), (58, 4), (58, 3), (58, 2), (58, 0), (0, 4), (39, 4), (39, 11), (39, 10), (39, 9), (39, 8), (39, 7), (39, 6), (39, 5), (0, 3), (21, 0), (21, 11), (21, 10), (21, 9), (21, 8), (21, 7), (21, 6), (21, 5), (21, 4), (21, 3), (21, 2), (21, 1), (0, 2), (14, 0), (15, 5), (15, 4), (15, 3), (15, 2), (15, 0), (0, 1), (3, 1), (10, 3), (10, 2), (10, 1), (10, 0), (3, 0), (4, 5), (4, 4), (4, 3), (4, 2), (4, 0), (0, 0), (1, 0)] h (h') := by
  refine MB.of 0 (by decide) rfl rfl (fun X e1 C nB hex => ?_)
  subst e1
  replace C : CB X cX11_init 1 RX11 4 85 102 71773 := C
  show VB X _ _ [0] [] h 0 0 0 [some (.ref 0)] []
  refine B_aload_n (pc := 0) C dX11_init_0 rfl ?_
  refine B_objInit (pc := 1) C dX11_init_1 lo_X11 wo_i wo_c (by omega) (by decide) ?_
  refine B_aload_n (pc := 4) C dX11_init_4 rfl ?_
  refine B_new (pc := 5) (n := 1) (N := 2) C dX11_init_5 nk_X11_7_1 (by decide +kernel) (hz 1 (by omega) (by omega)) (by decide +kernel) (by decide +kernel) rfl (by omega) (by omega) ?_
  show VB X _ _ [0, 1] [] (h) 1 2 8 [some (.ref 0)] [.ref 1, .ref 0]
  refine B_dup (pc := 8) C dX11_init_8 ?_
  refine B_ctor (pc := 9) (a := 1) (nw := [2]) (As := []) (rest := [.ref 1, .ref 0]) C dX11_init_9 (Or.inr ln_X11_9) mc_X8 (hexT (exR hex)) (K_X8_1 (E := xB X) (fun k q1 q2 => hz k (by omega) (by omega))) rfl pi_X8 (by omega) (by omega) rfl (by decide) (by omega) (by omega) (by decide) (by decide +kernel) (by decide) (by decide +kernel) (by decide +kernel) rfl (fun _ _ => ⟨rfl, rfl⟩) ?_
  show VB X _ _ [0, 1, 2] [(1, 0)] (h) 2 1002 12 [some (.ref 0)] [.ref 1, .ref 0]
  refine B_putR (pc := 12) C dX11_init_12 lf_X11_10 fk_0_0 (by decide) (fun _ => ⟨nB, rfl⟩) rfl ?_
  refine B_aload_n (pc := 15) C dX11_init_15 rfl ?_
  refine B_new (pc := 16) (n := 3) (N := 8) C dX11_init_16 nk_X11_16_3 (by decide +kernel) (hz 3 (by omega) (by omega)) (by decide +kernel) (by decide +kernel) rfl (by omega) (by omega) ?_
  show VB X _ _ [0, 1, 2, 3] [(0, 0), (1, 0)] (h) 3 1010 19 [some (.ref 0)] [.ref 3, .ref 0]
  refine B_dup (pc := 19) C dX11_init_19 ?_
  refine B_aload_n (pc := 20) C dX11_init_20 rfl ?_
  refine B_getR (pc := 21) C dX11_init_21 lf_X11_10 fk_0_0 (by decide) (by decide) ?_
  refine B_ctor (pc := 24) (a := 3) (nw := [4, 5, 6, 7, 8, 9, 10, 11, 12, 13]) (As := [.ref 1]) (rest := [.ref 3, .ref 0]) C dX11_init_24 (Or.inl lm_X11_18) mc_X5 (hexT (exR hex)) (K_X5_3 (E := xB X) (fun k q1 q2 => hz k (by omega) (by omega))) rfl pi_X5 (by omega) (by omega) rfl (by decide) (by omega) (by omega) (by decide) (by decide +kernel) (by decide) (by decide +kernel) (by decide +kernel) rfl (fun _ _ => ⟨rfl, rfl⟩) ?_
  show VB X _ _ [0, 1, 2, 3, 4, 5, 6, 7, 8, 9, 10, 11, 12, 13] [(3, 1), (10, 3), (10, 2), (10, 1), (10, 0), (3, 0), (4, 5), (4, 4), (4, 3), (4, 2), (4, 0), (0, 0), (1, 0)] (h) 13 5117 27 [some (.ref 0)] [.ref 3, .ref 0]
  refine B_putR (pc := 27) C dX11_init_27 lf_X11_21 fk_0_1 (by decide) (fun _ => ⟨nB, rfl⟩) rfl ?_
  refine B_aload_n (pc := 30) C dX11_init_30 rfl ?_
  refine B_new (pc := 31) (n := 14) (N := 5) C dX11_init_31 nk_X11_25_14 (by decide +kernel) (hz 14 (by omega) (by omega)) (by decide +kernel) (by decide +kernel) rfl (by omega) (by omega) ?_
  show VB X _ _ [0, 1, 2, 3, 4, 5, 6, 7, 8, 9, 10, 11, 12, 13, 14] [(0, 1), (3, 1), (10, 3), (10, 2), (10, 1), (10, 0), (3, 0), (4, 5), (4, 4), (4, 3), (4, 2), (4, 0), (0, 0), (1, 0)] (h) 14 5122 34 [some (.ref 0)] [.ref 14, .ref 0]
  refine B_dup (pc := 34) C dX11_init_34 ?_
  refine B_ctor (pc := 35) (a := 14) (nw := [15, 16, 17, 18, 19, 20]) (As := []) (rest := [.ref 14, .ref 0]) C dX11_init_35 (Or.inr ln_X11_27) mc_X4 (hexT (exR hex)) (K_X4_14 (E := xB X) (fun k q1 q2 => hz k (by omega) (by omega))) rfl pi_X4 (by omega) (by omega) rfl (by decide) (by omega) (by omega) (by decide) (by decide +kernel) (by decide) (by decide +kernel) (by decide +kernel) rfl (fun _ _ => ⟨rfl, rfl⟩) ?_
  show VB X _ _ [0, 1, 2, 3, 4, 5, 6, 7, 8, 9, 10, 11, 12, 13, 14, 15, 16, 17, 18, 19, 20] [(14, 0), (15, 5), (15, 4), (15, 3), (15, 2), (15, 0), (0, 1), (3, 1), (10, 3), (10, 2), (10, 1), (10, 0), (3, 0), (4, 5), (4, 4), (4, 3), (4, 2), (4, 0), (0, 0), (1, 0)] (h) 20 6221 38 [some (.ref 0)] [.ref 14, .ref 0]
  refine B_putR (pc := 38) C dX11_init_38 lf_X11_28 fk_0_2 (by decide) (fun _ => ⟨nB, rfl⟩) rfl ?_
  refine B_aload_n (pc := 41) C dX11_init_41 rfl ?_
  refine B_new (pc := 42) (n := 21) (N := 14) C dX11_init_42 nk_X11_32_21 (by decide +kernel) (hz 21 (by omega) (by omega)) (by decide +kernel) (by decide +kernel) rfl (by omega) (by omega) ?_
  show VB X _ _ [0, 1, 2, 3, 4, 5, 6, 7, 8, 9, 10, 11, 12, 13, 14, 15, 16, 17, 18, 19, 20, 21] [(0, 2), (14, 0), (15, 5), (15, 4), (15, 3), (15, 2), (15, 0), (0, 1), (3, 1), (10, 3), (10, 2), (10, 1), (10, 0), (3, 0), (4, 5), (4, 4), (4, 3), (4, 2), (4, 0), (0, 0), (1, 0)] (h) 21 6235 45 [some (.ref 0)] [.ref 21, .ref 0]
  refine B_dup (pc := 45) C dX11_init_45 ?_
  refine B_aload_n (pc := 46) C dX11_init_46 rfl ?_
  refine B_getR (pc := 47) C dX11_init_47 lf_X11_28 fk_0_2 (by decide) (by decide) ?_
  refine B_ctor (pc := 50) (a := 21) (nw := [22, 23, 24, 25, 26, 27, 28, 29, 30, 31, 32, 33, 34, 35, 36, 37, 38]) (As := [.ref 14]) (rest := [.ref 21, .ref 0]) C dX11_init_50 (Or.inl lm_X11_34) mc_X0 (hexT (exR hex)) (K_X0_21 (E := xB X) (fun k q1 q2 => hz k (by omega) (by omega))) rfl pi_X0 (by omega) (by omega) rfl (by decide) (by omega) (by omega) (by decide) (by decide +kernel) (by decide) (by decide +kernel) (by decide +kernel) rfl (fun _ _ => ⟨rfl, rfl⟩) ?_
  show VB X _ _ [0, 1, 2, 3, 4, 5, 6, 7, 8, 9, 10, 11, 12, 13, 14, 15, 16, 17, 18, 19, 20, 21, 22, 23, 24, 25, 26, 27, 28, 29, 30, 31, 32, 33, 34, 35, 36, 37, 38] [(21, 0), (21, 11), (21, 10), (21, 9), (21, 8), (21, 7), (21, 6), (21, 5), (21, 4), (21, 3), (21, 2), (21, 1), (0, 2), (14, 0), (15, 5), (15, 4), (15, 3), (15, 2), (15, 0), (0, 1), (3, 1), (10, 3), (10, 2), (10, 1), (10, 0), (3, 0), (4, 5), (4, 4), (4, 3), (4, 2), (4, 0), (0, 0), (1, 0)] (h) 38 53717 53 [some (.ref 0)] [.ref 21, .ref 0]
  refine B_putR (pc := 53) C dX11_init_53 lf_X11_37 fk_0_3 (by decide) (fun _ => ⟨nB, rfl⟩) rfl ?_
  refine B_aload_n (pc := 56) C dX11_init_56 rfl ?_
  refine B_new (pc := 57) (n := 39) (N := 14) C dX11_init_57 nk_X11_41_39 (by decide +kernel) (hz 39 (by omega) (by omega)) (by decide +kernel) (by decide +kernel) rfl (by omega) (by omega) ?_
  show VB X _ _ [0, 1, 2, 3, 4, 5, 6, 7, 8, 9, 10, 11, 12, 13, 14, 15, 16, 17, 18, 19, 20, 21, 22, 23, 24, 25, 26, 27, 28, 29, 30, 31, 32, 33, 34, 35, 36, 37, 38, 39] [(0, 3), (21, 0), (21, 11), (21, 10), (21, 9), (21, 8), (21, 7), (21, 6), (21, 5), (21, 4), (21, 3), (21, 2), (21, 1), (0, 2), (14, 0), (15, 5), (15, 4), (15, 3), (15, 2), (15, 0), (0, 1), (3, 1), (10, 3), (10, 2), (10, 1), (10, 0), (3, 0), (4, 5), (4, 4), (4, 3), (4, 2), (4, 0), (0, 0), (1, 0)] (h) 39 53731 60 [some (.ref 0)] [.ref 39, .ref 0]
  refine B_dup (pc := 60) C dX11_init_60 ?_
  refine B_aload_n (pc := 61) C dX11_init_61 rfl ?_
  refine B_getR (pc := 62) C dX11_init_62 lf_X11_37 fk_0_3 (by decide) (by decide) ?_
  refine B_ctor (pc := 65) (a := 39) (nw := [40, 41, 42, 43, 44, 45, 46, 47, 48, 49, 50]) (As := [.ref 21]) (rest := [.ref 39, .ref 0]) C dX11_init_65 (Or.inl lm_X11_43) mc_X3 (hexT (exR hex)) (K_X3_39 (E := xB X) (fun k q1 q2 => hz k (by omega) (by omega))) rfl pi_X3 (by omega) (by omega) rfl (by decide) (by omega) (by omega) (by decide) (by decide +kernel) (by decide) (by decide +kernel) (by decide +kernel) rfl (fun _ _ => ⟨rfl, rfl⟩) ?_
  show VB X _ _ [0, 1, 2, 3, 4, 5, 6, 7, 8, 9, 10, 11, 12, 13, 14, 15, 16, 17, 18, 19, 20, 21, 22, 23, 24, 25, 26, 27, 28, 29, 30, 31, 32, 33, 34, 35, 36, 37, 38, 39, 40, 41, 42, 43, 44, 45, 46, 47, 48, 49, 50] [(39, 4), (39, 11), (39, 10), (39, 9), (39, 8), (39, 7), (39, 6), (39, 5), (0, 3), (21, 0), (21, 11), (21, 10), (21, 9), (21, 8), (21, 7), (21, 6), (21, 5), (21, 4), (21, 3), (21, 2), (21, 1), (0, 2), (14, 0), (15, 5), (15, 4), (15, 3), (15, 2), (15, 0), (0, 1), (3, 1), (10, 3), (10, 2), (10, 1), (10, 0), (3, 0), (4, 5), (4, 4), (4, 3), (4, 2), (4, 0), (0, 0), (1, 0)] (h) 50 70119 68 [some (.ref 0)] [.ref 39, .ref 0]
  refine B_putR (pc := 68) C dX11_init_68 lf_X11_46 fk_0_4 (by decide) (fun _ => ⟨nB, rfl⟩) rfl ?_
  refine B_aload_n (pc := 71) C dX11_init_71 rfl ?_
  refine B_new (pc := 72) (n := 51) (N := 17) C dX11_init_72 nk_X11_50_51 (by decide +kernel) (hz 51 (by omega) (by omega)) (by decide +kernel) (by decide +kernel) rfl (by omega) (by omega) ?_
  show VB X _ _ [0, 1, 2, 3, 4, 5, 6, 7, 8, 9, 10, 11, 12, 13, 14, 15, 16, 17, 18, 19, 20, 21, 22, 23, 24, 25, 26, 27, 28, 29, 30, 31, 32, 33, 34, 35, 36, 37, 38, 39, 40, 41, 42, 43, 44, 45, 46, 47, 48, 49, 50, 51] [(0, 4), (39, 4), (39, 11), (39, 10), (39, 9), (39, 8), (39, 7), (39, 6), (39, 5), (0, 3), (21, 0), (21, 11), (21, 10), (21, 9), (21, 8), (21, 7), (21, 6), (21, 5), (21, 4), (21, 3), (21, 2), (21, 1), (0, 2), (14, 0), (15, 5), (15, 4), (15, 3), (15, 2), (15, 0), (0, 1), (3, 1), (10, 3), (10, 2), (10, 1), (10, 0), (3, 0), (4, 5), (4, 4), (4, 3), (4, 2), (4, 0), (0, 0), (1, 0)] (h) 51 70136 75 [some (.ref 0)] [.ref 51, .ref 0]
  refine B_dup (pc := 75) C dX11_init_75 ?_
  refine B_ctor (pc := 76) (a := 51) (nw := [58, 59, 60, 61, 62, 63, 52, 53, 54, 55, 56, 57]) (As := []) (rest := [.ref 51, .ref 0]) C dX11_init_76 (Or.inr ln_X11_52) mc_X6 (hexT (exR hex)) (K_X6_51 (E := xB X) (fun k q1 q2 => hz k (by omega) (by omega))) rfl pi_X6 (by omega) (by omega) rfl (by decide) (by omega) (by omega) (by decide) (by decide +kernel) (by decide) (by decide +kernel) (by decide +kernel) rfl (fun _ _ => ⟨rfl, rfl⟩) ?_
  show VB X _ _ [0, 1, 2, 3, 4, 5, 6, 7, 8, 9, 10, 11, 12, 13, 14, 15, 16, 17, 18, 19, 20, 21, 22, 23, 24, 25, 26, 27, 28, 29, 30, 31, 32, 33, 34, 35, 36, 37, 38, 39, 40, 41, 42, 43, 44, 45, 46, 47, 48, 49, 50, 51, 58, 59, 60, 61, 62, 63, 52, 53, 54, 55, 56, 57] [(51, 6), (51, 5), (51, 4), (51, 3), (51, 2), (51, 1), (51, 0), (58, 5), (58, 4), (58, 3), (58, 2), (58, 0), (0, 4), (39, 4), (39, 11), (39, 10), (39, 9), (39, 8), (39, 7), (39, 6), (39, 5), (0, 3), (21, 0), (21, 11), (21, 10), (21, 9), (21, 8), (21, 7), (21, 6), (21, 5), (21, 4), (21, 3), (21, 2), (21, 1), (0, 2), (14, 0), (15, 5), (15, 4), (15, 3), (15, 2), (15, 0), (0, 1), (3, 1), (10, 3), (10, 2), (10, 1), (10, 0), (3, 0), (4, 5), (4, 4), (4, 3), (4, 2), (4, 0), (0, 0), (1, 0)] (h) 63 71331 79 [some (.ref 0)] [.ref 51, .ref 0]
  refine B_putR (pc := 79) C dX11_init_79 lf_X11_53 fk_0_5 (by decide) (fun _ => ⟨nB, rfl⟩) rfl ?_
  refine B_aload_n (pc := 82) C dX11_init_82 rfl ?_
  refine B_new (pc := 83) (n := 64) (N := 20) C dX11_init_83 nk_X11_57_64 (by decide +kernel) (hz 64 (by omega) (by omega)) (by decide +kernel) (by decide +kernel) rfl (by omega) (by omega) ?_
  show VB X _ _ [0, 1, 2, 3, 4, 5, 6, 7, 8, 9, 10, 11, 12, 13, 14, 15, 16, 17, 18, 19, 20, 21, 22, 23, 24, 25, 26, 27, 28, 29, 30, 31, 32, 33, 34, 35, 36, 37, 38, 39, 40, 41, 42, 43, 44, 45, 46, 47, 48, 49, 50, 51, 58, 59, 60, 61, 62, 63, 52, 53, 54, 55, 56, 57, 64] [(0, 5), (51, 6), (51, 5), (51, 4), (51, 3), (51, 2), (51, 1), (51, 0), (58, 5), (58, 4), (58, 3), (58, 2), (58, 0), (0, 4), (39, 4), (39, 11), (39, 10), (39, 9), (39, 8), (39, 7), (39, 6), (39, 5), (0, 3), (21, 0), (21, 11), (21, 10), (21, 9), (21, 8), (21, 7), (21, 6), (21, 5), (21, 4), (21, 3), (21, 2), (21, 1), (0, 2), (14, 0), (15, 5), (15, 4), (15, 3), (15, 2), (15, 0), (0, 1), (3, 1), (10, 3), (10, 2), (10, 1), (10, 0), (3, 0), (4, 5), (4, 4), (4, 3), (4, 2), (4, 0), (0, 0), (1, 0)] (h) 64 71351 86 [some (.ref 0)] [.ref 64, .ref 0]
  refine B_dup (pc := 86) C dX11_init_86 ?_
  refine B_aload_n (pc := 87) C dX11_init_87 rfl ?_
  refine B_getR (pc := 88) C dX11_init_88 lf_X11_53 fk_0_5 (by decide) (by decide) ?_
  refine B_ctor (pc := 91) (a := 64) (nw := [65, 66, 67, 68, 69, 70, 71, 72, 73, 74, 75, 76, 77, 78, 79]) (As := [.ref 51]) (rest := [.ref 64, .ref 0]) C dX11_init_91 (Or.inl lm_X11_59) mc_X10 (hexT (exR hex)) (K_X10_64 (E := xB X) (fun k q1 q2 => hz k (by omega) (by omega))) rfl pi_X10 (by omega) (by omega) rfl (by decide) (by omega) (by omega) (by decide) (by decide +kernel) (by decide) (by decide +kernel) (by decide +kernel) rfl (fun b hb => ⟨by have e64 : b ≠ 64 := fun z => hb (by simp [z]); simp [hs, e64], rfl⟩) ?_
  show VB X _ _ [0, 1, 2, 3, 4, 5, 6, 7, 8, 9, 10, 11, 12, 13, 14, 15, 16, 17, 18, 19, 20, 21, 22, 23, 24, 25, 26, 27, 28, 29, 30, 31, 32, 33, 34, 35, 36, 37, 38, 39, 40, 41, 42, 43, 44, 45, 46, 47, 48, 49, 50, 51, 58, 59, 60, 61, 62, 63, 52, 53, 54, 55, 56, 57, 64, 65, 66, 67, 68, 69, 70, 71, 72, 73, 74, 75, 76, 77, 78, 79] [(64, 9), (64, 16), (64, 15), (64, 14), (64, 13), (64, 12), (64, 11), (64, 10), (64, 5), (64, 4), (64, 3), (64, 2), (64, 1), (64, 0), (0, 5), (51, 6), (51, 5), (51, 4), (51, 3), (51, 2), (51, 1), (51, 0), (58, 5), (58, 4), (58, 3), (58, 2), (58, 0), (0, 4), (39, 4), (39, 11), (39, 10), (39, 9), (39, 8), (39, 7), (39, 6), (39, 5), (0, 3), (21, 0), (21, 11), (21, 10), (21, 9), (21, 8), (21, 7), (21, 6), (21, 5), (21, 4), (21, 3), (21, 2), (21, 1), (0, 2), (14, 0), (15, 5), (15, 4), (15, 3), (15, 2), (15, 0), (0, 1), (3, 1), (10, 3), (10, 2), (10, 1), (10, 0), (3, 0), (4, 5), (4, 4), (4, 3), (4, 2), (4, 0), (0, 0), (1, 0)] (hs (h) 64 19 (-1)) 79 71483 94 [some (.ref 0)] [.ref 64, .ref 0]
  refine B_putR (pc := 94) C dX11_init_94 lf_X11_62 fk_0_6 (by decide) (fun _ => ⟨nB, rfl⟩) rfl ?_
  refine B_aload_n (pc := 97) C dX11_init_97 rfl ?_
  refine B_new (pc := 98) (n := 80) (N := 5) C dX11_init_98 nk_X11_66_80 (by decide +kernel) (zr_s (by omega) (hz 80 (by omega) (by omega))) (by decide +kernel) (by decide +kernel) rfl (by omega) (by omega) ?_
  show VB X _ _ [0, 1, 2, 3, 4, 5, 6, 7, 8, 9, 10, 11, 12, 13, 14, 15, 16, 17, 18, 19, 20, 21, 22, 23, 24, 25, 26, 27, 28, 29, 30, 31, 32, 33, 34, 35, 36, 37, 38, 39, 40, 41, 42, 43, 44, 45, 46, 47, 48, 49, 50, 51, 58, 59, 60, 61, 62, 63, 52, 53, 54, 55, 56, 57, 64, 65, 66, 67, 68, 69, 70, 71, 72, 73, 74, 75, 76, 77, 78, 79, 80] [(0, 6), (64, 9), (64, 16), (64, 15), (64, 14), (64, 13), (64, 12), (64, 11), (64, 10), (64, 5), (64, 4), (64, 3), (64, 2), (64, 1), (64, 0), (0, 5), (51, 6), (51, 5), (51, 4), (51, 3), (51, 2), (51, 1), (51, 0), (58, 5), (58, 4), (58, 3), (58, 2), (58, 0), (0, 4), (39, 4), (39, 11), (39, 10), (39, 9), (39, 8), (39, 7), (39, 6), (39, 5), (0, 3), (21, 0), (21, 11), (21, 10), (21, 9), (21, 8), (21, 7), (21, 6), (21, 5), (21, 4), (21, 3), (21, 2), (21, 1), (0, 2), (14, 0), (15, 5), (15, 4), (15, 3), (15, 2), (15, 0), (0, 1), (3, 1), (10, 3), (10, 2), (10, 1), (10, 0), (3, 0), (4, 5), (4, 4), (4, 3), (4, 2), (4, 0), (0, 0), (1, 0)] (hs (h) 64 19 (-1)) 80 71488 101 [some (.ref 0)] [.ref 80, .ref 0]
  refine B_dup (pc := 101) C dX11_init_101 ?_
  refine B_aload_n (pc := 102) C dX11_init_102 rfl ?_
  refine B_getR (pc := 103) C dX11_init_103 lf_X11_53 fk_0_5 (by decide) (by decide) ?_
  refine B_ctor (pc := 106) (a := 80) (nw := [81, 82, 83, 84, 85, 86, 87, 88, 89, 90, 91, 92, 93, 94, 95, 96, 97, 98]) (As := [.ref 51]) (rest := [.ref 80, .ref 0]) C dX11_init_106 (Or.inl lm_X11_68) mc_X1 (hexT (exR hex)) (K_X1_80 (E := xB X) (fun k q1 q2 => zr_s (by omega) (hz k (by omega) (by omega)))) rfl pi_X1 (by omega) (by omega) rfl (by decide) (by omega) (by omega) (by decide) (by decide +kernel) (by decide) (by decide +kernel) (by decide +kernel) rfl (fun b hb => ⟨by have e80 : b ≠ 80 := fun z => hb (by simp [z]); have e83 : b ≠ 83 := fun z => hb (by simp [z]); simp [hs, e80, e83], rfl⟩) ?_
  show VB X _ _ [0, 1, 2, 3, 4, 5, 6, 7, 8, 9, 10, 11, 12, 13, 14, 15, 16, 17, 18, 19, 20, 21, 22, 23, 24, 25, 26, 27, 28, 29, 30, 31, 32, 33, 34, 35, 36, 37, 38, 39, 40, 41, 42, 43, 44, 45, 46, 47, 48, 49, 50, 51, 58, 59, 60, 61, 62, 63, 52, 53, 54, 55, 56, 57, 64, 65, 66, 67, 68, 69, 70, 71, 72, 73, 74, 75, 76, 77, 78, 79, 80, 81, 82, 83, 84, 85, 86, 87, 88, 89, 90, 91, 92, 93, 94, 95, 96, 97, 98] [(80, 3), (83, 9), (83, 16), (83, 15), (83, 14), (83, 13), (83, 12), (83, 11), (83, 10), (83, 5), (83, 4), (83, 3), (83, 2), (83, 1), (83, 0), (80, 2), (80, 1), (80, 0), (0, 6), (64, 9), (64, 16), (64, 15), (64, 14), (64, 13), (64, 12), (64, 11), (64, 10), (64, 5), (64, 4), (64, 3), (64, 2), (64, 1), (64, 0), (0, 5), (51, 6), (51, 5), (51, 4), (51, 3), (51, 2), (51, 1), (51, 0), (58, 5), (58, 4), (58, 3), (58, 2), (58, 0), (0, 4), (39, 4), (39, 11), (39, 10), (39, 9), (39, 8), (39, 7), (39, 6), (39, 5), (0, 3), (21, 0), (21, 11), (21, 10), (21, 9), (21, 8), (21, 7), (21, 6), (21, 5), (21, 4), (21, 3), (21, 2), (21, 1), (0, 2), (14, 0), (15, 5), (15, 4), (15, 3), (15, 2), (15, 0), (0, 1), (3, 1), (10, 3), (10, 2), (10, 1), (10, 0), (3, 0), (4, 5), (4, 4), (4, 3), (4, 2), (4, 0), (0, 0), (1, 0)] (hs (hs (hs (h) 64 19 (-1)) 80 4 (-1)) 83 19 (-1)) 98 71646 109 [some (.ref 0)] [.ref 80, .ref 0]
  refine B_putR (pc := 109) C dX11_init_109 lf_X11_69 fk_0_7 (by decide) (fun _ => ⟨nB, rfl⟩) rfl ?_
  refine B_aload_n (pc := 112) C dX11_init_112 rfl ?_
  refine B_new (pc := 113) (n := 99) (N := 7) C dX11_init_113 nk_X11_73_99 (by decide +kernel) (zr_s (by omega) (zr_s (by omega) (zr_s (by omega) (hz 99 (by omega) (by omega))))) (by decide +kernel) (by decide +kernel) rfl (by omega) (by omega) ?_
  show VB X _ _ [0, 1, 2, 3, 4, 5, 6, 7, 8, 9, 10, 11, 12, 13, 14, 15, 16, 17, 18, 19, 20, 21, 22, 23, 24, 25, 26, 27, 28, 29, 30, 31, 32, 33, 34, 35, 36, 37, 38, 39, 40, 41, 42, 43, 44, 45, 46, 47, 48, 49, 50, 51, 58, 59, 60, 61, 62, 63, 52, 53, 54, 55, 56, 57, 64, 65, 66, 67, 68, 69, 70, 71, 72, 73, 74, 75, 76, 77, 78, 79, 80, 81, 82, 83, 84, 85, 86, 87, 88, 89, 90, 91, 92, 93, 94, 95, 96, 97, 98, 99] [(0, 7), (80, 3), (83, 9), (83, 16), (83, 15), (83, 14), (83, 13), (83, 12), (83, 11), (83, 10), (83, 5), (83, 4), (83, 3), (83, 2), (83, 1), (83, 0), (80, 2), (80, 1), (80, 0), (0, 6), (64, 9), (64, 16), (64, 15), (64, 14), (64, 13), (64, 12), (64, 11), (64, 10), (64, 5), (64, 4), (64, 3), (64, 2), (64, 1), (64, 0), (0, 5), (51, 6), (51, 5), (51, 4), (51, 3), (51, 2), (51, 1), (51, 0), (58, 5), (58, 4), (58, 3), (58, 2), (58, 0), (0, 4), (39, 4), (39, 11), (39, 10), (39, 9), (39, 8), (39, 7), (39, 6), (39, 5), (0, 3), (21, 0), (21, 11), (21, 10), (21, 9), (21, 8), (21, 7), (21, 6), (21, 5), (21, 4), (21, 3), (21, 2), (21, 1), (0, 2), (14, 0), (15, 5), (15, 4), (15, 3), (15, 2), (15, 0), (0, 1), (3, 1), (10, 3), (10, 2), (10, 1), (10, 0), (3, 0), (4, 5), (4, 4), (4, 3), (4, 2), (4, 0), (0, 0), (1, 0)] (hs (hs (hs (h) 64 19 (-1)) 80 4 (-1)) 83 19 (-1)) 99 71653 116 [some (.ref 0)] [.ref 99, .ref 0]
  refine B_dup (pc := 116) C dX11_init_116 ?_
  refine B_ctor (pc := 117) (a := 99) (nw := [100, 101, 102]) (As := []) (rest := [.ref 99, .ref 0]) C dX11_init_117 (Or.inr ln_X11_75) mc_X7 (hexT (exR hex)) (K_X7_99 (E := xB X) (fun k q1 q2 => zr_s (by omega) (zr_s (by omega) (zr_s (by omega) (hz k (by omega) (by omega)))))) rfl pi_X7 (by omega) (by omega) rfl (by decide) (by omega) (by omega) (by decide) (by decide +kernel) (by decide) (by decide +kernel) (by decide +kernel) rfl (fun _ _ => ⟨rfl, rfl⟩) ?_
  show VB X _ _ [0, 1, 2, 3, 4, 5, 6, 7, 8, 9, 10, 11, 12, 13, 14, 15, 16, 17, 18, 19, 20, 21, 22, 23, 24, 25, 26, 27, 28, 29, 30, 31, 32, 33, 34, 35, 36, 37, 38, 39, 40, 41, 42, 43, 44, 45, 46, 47, 48, 49, 50, 51, 58, 59, 60, 61, 62, 63, 52, 53, 54, 55, 56, 57, 64, 65, 66, 67, 68, 69, 70, 71, 72, 73, 74, 75, 76, 77, 78, 79, 80, 81, 82, 83, 84, 85, 86, 87, 88, 89, 90, 91, 92, 93, 94, 95, 96, 97, 98, 99, 100, 101, 102] [(99, 3), (99, 2), (99, 1), (0, 7), (80, 3), (83, 9), (83, 16), (83, 15), (83, 14), (83, 13), (83, 12), (83, 11), (83, 10), (83, 5), (83, 4), (83, 3), (83, 2), (83, 1), (83, 0), (80, 2), (80, 1), (80, 0), (0, 6), (64, 9), (64, 16), (64, 15), (64, 14), (64, 13), (64, 12), (64, 11), (64, 10), (64, 5), (64, 4), (64, 3), (64, 2), (64, 1), (64, 0), (0, 5), (51, 6), (51, 5), (51, 4), (51, 3), (51, 2), (51, 1), (51, 0), (58, 5), (58, 4), (58, 3), (58, 2), (58, 0), (0, 4), (39, 4), (39, 11), (39, 10), (39, 9), (39, 8), (39, 7), (39, 6), (39, 5), (0, 3), (21, 0), (21, 11), (21, 10), (21, 9), (21, 8), (21, 7), (21, 6), (21, 5), (21, 4), (21, 3), (21, 2), (21, 1), (0, 2), (14, 0), (15, 5), (15, 4), (15, 3), (15, 2), (15, 0), (0, 1), (3, 1), (10, 3), (10, 2), (10, 1), (10, 0), (3, 0), (4, 5), (4, 4), (4, 3), (4, 2), (4, 0), (0, 0), (1, 0)] (hs (hs (hs (h) 64 19 (-1)) 80 4 (-1)) 83 19 (-1)) 102 71773 120 [some (.ref 0)] [.ref 99, .ref 0]
  refine B_putR (pc := 120) C dX11_init_120 lf_X11_76 fk_0_8 (by decide) (fun _ => ⟨nB, rfl⟩) rfl ?_
  refine B_aload_n (pc := 123) C dX11_init_123 rfl ?_
  refine B_iconst (pc := 124) (v := (4)) C dX11_init_124 (by decide) ?_
  refine B_house (pc := 125) C hex dX11_init_125 lm_X11_80 hyp (by omega) (by omega) (fun k => ⟨fun z => (show ∀ k ∈ ([0, 1, 2, 3, 4, 5, 6, 7, 8, 9, 10, 11, 12, 13, 14, 15, 16, 17, 18, 19, 20, 21, 22, 23, 24, 25, 26, 27, 28, 29, 30, 31, 32, 33, 34, 35, 36, 37, 38, 39, 40, 41, 42, 43, 44, 45, 46, 47, 48, 49, 50, 51, 58, 59, 60, 61, 62, 63, 52, 53, 54, 55, 56, 57, 64, 65, 66, 67, 68, 69, 70, 71, 72, 73, 74, 75, 76, 77, 78, 79, 80, 81, 82, 83, 84, 85, 86, 87, 88, 89, 90, 91, 92, 93, 94, 95, 96, 97, 98, 99, 100, 101, 102] : List Nat), k < 103 by decide +kernel) k z, fun z => (show ∀ k, k < 103 → k ∈ ([0, 1, 2, 3, 4, 5, 6, 7, 8, 9, 10, 11, 12, 13, 14, 15, 16, 17, 18, 19, 20, 21, 22, 23, 24, 25, 26, 27, 28, 29, 30, 31, 32, 33, 34, 35, 36, 37, 38, 39, 40, 41, 42, 43, 44, 45, 46, 47, 48, 49, 50, 51, 58, 59, 60, 61, 62, 63, 52, 53, 54, 55, 56, 57, 64, 65, 66, 67, 68, 69, 70, 71, 72, 73, 74, 75, 76, 77, 78, 79, 80, 81, 82, 83, 84, 85, 86, 87, 88, 89, 90, 91, 92, 93, 94, 95, 96, 97, 98, 99, 100, 101, 102] : List Nat) by decide +kernel) k z⟩) (by decide +kernel) (by decide) (by omega) (by omega) ?_
  exact B_vret (pc := 128) C nB dX11_init_128
