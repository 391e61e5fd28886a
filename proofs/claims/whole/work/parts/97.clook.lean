/-! the class's look where it answers (printed by wip/whole/gen2/clook.py) -/
theorem dX11_look_0 : decode cX11_look 0 = .ok (.iload_n 1, 1) := by decide +kernel
theorem dX11_look_1 : decode cX11_look 1 = .ok (.tableswitch 104 0 5 #[39, 51, 62, 73, 88, 96], 39) := by decide +kernel
theorem dX11_look_40 : decode cX11_look 40 = .ok (.aload_n 0, 1) := by decide +kernel
theorem dX11_look_41 : decode cX11_look 41 = .ok (.getfield 28, 3) := by decide +kernel
theorem dX11_look_44 : decode cX11_look 44 = .ok (.getfield 132, 3) := by decide +kernel
theorem dX11_look_47 : decode cX11_look 47 = .ok (.sipush 255, 3) := by decide +kernel
theorem dX11_look_50 : decode cX11_look 50 = .ok (.iand, 1) := by decide +kernel
theorem dX11_look_51 : decode cX11_look 51 = .ok (.ireturn, 1) := by decide +kernel
theorem dX11_look_52 : decode cX11_look 52 = .ok (.aload_n 0, 1) := by decide +kernel
theorem dX11_look_53 : decode cX11_look 53 = .ok (.getfield 28, 3) := by decide +kernel
theorem dX11_look_56 : decode cX11_look 56 = .ok (.getfield 132, 3) := by decide +kernel
theorem dX11_look_59 : decode cX11_look 59 = .ok (.invokestatic 135, 3) := by decide +kernel
theorem dX11_look_62 : decode cX11_look 62 = .ok (.ireturn, 1) := by decide +kernel
theorem dX11_look_63 : decode cX11_look 63 = .ok (.aload_n 0, 1) := by decide +kernel
theorem dX11_look_64 : decode cX11_look 64 = .ok (.getfield 28, 3) := by decide +kernel
theorem dX11_look_67 : decode cX11_look 67 = .ok (.getfield 132, 3) := by decide +kernel
theorem dX11_look_70 : decode cX11_look 70 = .ok (.invokestatic 138, 3) := by decide +kernel
theorem dX11_look_73 : decode cX11_look 73 = .ok (.ireturn, 1) := by decide +kernel
theorem dX11_look_74 : decode cX11_look 74 = .ok (.aload_n 0, 1) := by decide +kernel
theorem dX11_look_75 : decode cX11_look 75 = .ok (.getfield 28, 3) := by decide +kernel
theorem dX11_look_78 : decode cX11_look 78 = .ok (.aload_n 0, 1) := by decide +kernel
theorem dX11_look_79 : decode cX11_look 79 = .ok (.getfield 28, 3) := by decide +kernel
theorem dX11_look_82 : decode cX11_look 82 = .ok (.getfield 132, 3) := by decide +kernel
theorem dX11_look_85 : decode cX11_look 85 = .ok (.invokevirtual 141, 3) := by decide +kernel
theorem dX11_look_88 : decode cX11_look 88 = .ok (.ireturn, 1) := by decide +kernel
theorem dX11_look_89 : decode cX11_look 89 = .ok (.aload_n 0, 1) := by decide +kernel
theorem dX11_look_90 : decode cX11_look 90 = .ok (.getfield 28, 3) := by decide +kernel
theorem dX11_look_93 : decode cX11_look 93 = .ok (.getfield 144, 3) := by decide +kernel
theorem dX11_look_96 : decode cX11_look 96 = .ok (.ireturn, 1) := by decide +kernel
theorem dX11_look_97 : decode cX11_look 97 = .ok (.aload_n 0, 1) := by decide +kernel
theorem dX11_look_98 : decode cX11_look 98 = .ok (.getfield 28, 3) := by decide +kernel
theorem dX11_look_101 : decode cX11_look 101 = .ok (.getfield 147, 3) := by decide +kernel
theorem dX11_look_104 : decode cX11_look 104 = .ok (.ireturn, 1) := by decide +kernel
theorem dX11_look_105 : decode cX11_look 105 = .ok (.new 150, 3) := by decide +kernel
theorem dX11_look_108 : decode cX11_look 108 = .ok (.dup, 1) := by decide +kernel
theorem dX11_look_109 : decode cX11_look 109 = .ok (.invokespecial 152, 3) := by decide +kernel
theorem dX11_look_112 : decode cX11_look 112 = .ok (.athrow, 1) := by decide +kernel
theorem M_X11_lookOK (E : EV) {N : Nat} {a1 : Int32} {r : Int32} {h h2 : PH} (hyp : lookC N a1 h = some (r, h2)) : MI E 103 yX11_look cX11_look 2 (some .int) 3 80 [.ref 0, .int a1] h r h2 := by
  refine MI.of 0 (by decide) rfl (fun X e1 C => ?_)
  subst e1
  replace C : CX X 103 cX11_look 2 RX11 (some .int) 3 80 := C
  show V X _ h 0 [some (.ref 0), some (.int a1)] []
  unfold lookC at hyp
  refine V_iload_n (pc := 0) C dX11_look_0 rfl ?_
  by_cases z0 : a1 = 0
  · rw [if_pos z0] at hyp
    cases hyp
    refine V_tsIn (pc := 1) C (0 : Int32) dX11_look_1 (off := 39) (tgt := 40) z0 (by decide) (by decide) rfl (by decide) ?_
    refine V_aload_n (pc := 40) C dX11_look_40 rfl ?_
    refine V_getR (pc := 41) C dX11_look_41 lf_X11_28 fk_0_2 ?_
    refine V_getI (pc := 44) C dX11_look_44 lf_X11_132 fk_14_2 ?_
    refine V_sipush (pc := 47) (v := 255) C dX11_look_47 (by decide) ?_
    refine V_iand (pc := 50) C dX11_look_50 ?_
    exact V_iret (pc := 51) C dX11_look_51
  rw [if_neg z0] at hyp
  by_cases z1 : a1 = 1
  · rw [if_pos z1] at hyp
    refine V_tsIn (pc := 1) C (1 : Int32) dX11_look_1 (off := 51) (tgt := 52) z1 (by decide) (by decide) rfl (by decide) ?_
    refine V_aload_n (pc := 52) C dX11_look_52 rfl ?_
    refine V_getR (pc := 53) C dX11_look_53 lf_X11_28 fk_0_2 ?_
    refine V_getI (pc := 56) C dX11_look_56 lf_X11_132 fk_14_2 ?_
    refine V_statI (pc := 59) C dX11_look_59 lm_X11_135 ms_X11_floorOf (M_X11_floorOf _ hyp) rfl pd_X11_floorOf (by decide) (by decide) (by decide) (As := [.int (h.1 14 2)]) (rest := []) rfl (Nat.le_of_ble_eq_true rfl) ?_
    exact V_iret (pc := 62) C dX11_look_62
  rw [if_neg z1] at hyp
  by_cases z2 : a1 = 2
  · rw [if_pos z2] at hyp
    refine V_tsIn (pc := 1) C (2 : Int32) dX11_look_1 (off := 62) (tgt := 63) z2 (by decide) (by decide) rfl (by decide) ?_
    refine V_aload_n (pc := 63) C dX11_look_63 rfl ?_
    refine V_getR (pc := 64) C dX11_look_64 lf_X11_28 fk_0_2 ?_
    refine V_getI (pc := 67) C dX11_look_67 lf_X11_132 fk_14_2 ?_
    refine V_statI (pc := 70) C dX11_look_70 lm_X11_138 ms_X11_doorOf (M_X11_doorOf _ hyp) rfl pd_X11_doorOf (by decide) (by decide) (by decide) (As := [.int (h.1 14 2)]) (rest := []) rfl (Nat.le_of_ble_eq_true rfl) ?_
    exact V_iret (pc := 73) C dX11_look_73
  rw [if_neg z2] at hyp
  by_cases z3 : a1 = 3
  · rw [if_pos z3] at hyp
    refine V_tsIn (pc := 1) C (3 : Int32) dX11_look_1 (off := 73) (tgt := 74) z3 (by decide) (by decide) rfl (by decide) ?_
    refine V_aload_n (pc := 74) C dX11_look_74 rfl ?_
    refine V_getR (pc := 75) C dX11_look_75 lf_X11_28 fk_0_2 ?_
    refine V_aload_n (pc := 78) C dX11_look_78 rfl ?_
    refine V_getR (pc := 79) C dX11_look_79 lf_X11_28 fk_0_2 ?_
    refine V_getI (pc := 82) C dX11_look_82 lf_X11_132 fk_14_2 ?_
    refine V_callI (pc := 85) C dX11_look_85 lm_X11_141 mk_X4_lampsIn ok_14 rfl (M_X4_lampsIn _ hyp) rfl pd_X4_lampsIn (by decide) (by decide) (by decide) (As := [.int (h.1 14 2)]) (rest := []) rfl (Nat.le_of_ble_eq_true rfl) ?_
    exact V_iret (pc := 88) C dX11_look_88
  rw [if_neg z3] at hyp
  by_cases z4 : a1 = 4
  · rw [if_pos z4] at hyp
    cases hyp
    refine V_tsIn (pc := 1) C (4 : Int32) dX11_look_1 (off := 88) (tgt := 89) z4 (by decide) (by decide) rfl (by decide) ?_
    refine V_aload_n (pc := 89) C dX11_look_89 rfl ?_
    refine V_getR (pc := 90) C dX11_look_90 lf_X11_28 fk_0_2 ?_
    refine V_getI (pc := 93) C dX11_look_93 lf_X11_144 fk_14_3 ?_
    exact V_iret (pc := 96) C dX11_look_96
  rw [if_neg z4] at hyp
  by_cases z5 : a1 = 5
  · rw [if_pos z5] at hyp
    cases hyp
    refine V_tsIn (pc := 1) C (5 : Int32) dX11_look_1 (off := 96) (tgt := 97) z5 (by decide) (by decide) rfl (by decide) ?_
    refine V_aload_n (pc := 97) C dX11_look_97 rfl ?_
    refine V_getR (pc := 98) C dX11_look_98 lf_X11_28 fk_0_2 ?_
    refine V_getI (pc := 101) C dX11_look_101 lf_X11_147 fk_14_4 ?_
    exact V_iret (pc := 104) C dX11_look_104
  rw [if_neg z5] at hyp
  cases hyp
