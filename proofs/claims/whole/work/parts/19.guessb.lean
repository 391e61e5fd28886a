theorem dX3_tells_0 : decode cX3_tells 0 = .ok (.iload 4, 2) := by decide +kernel
theorem dX3_tells_2 : decode cX3_tells 2 = .ok (.iconst 1, 1) := by decide +kernel
theorem dX3_tells_3 : decode cX3_tells 3 = .ok (.if_icmp .gt 13, 3) := by decide +kernel
theorem dX3_tells_6 : decode cX3_tells 6 = .ok (.aload_n 0, 1) := by decide +kernel
theorem dX3_tells_7 : decode cX3_tells 7 = .ok (.aload_n 1, 1) := by decide +kernel
theorem dX3_tells_8 : decode cX3_tells 8 = .ok (.iload_n 2, 1) := by decide +kernel
theorem dX3_tells_9 : decode cX3_tells 9 = .ok (.iload_n 3, 1) := by decide +kernel
theorem dX3_tells_10 : decode cX3_tells 10 = .ok (.iload 5, 2) := by decide +kernel
theorem dX3_tells_12 : decode cX3_tells 12 = .ok (.invokevirtual 96, 3) := by decide +kernel
theorem dX3_tells_15 : decode cX3_tells 15 = .ok (.ireturn, 1) := by decide +kernel
theorem dX3_tells_16 : decode cX3_tells 16 = .ok (.iload 4, 2) := by decide +kernel
theorem dX3_tells_18 : decode cX3_tells 18 = .ok (.iconst 2, 1) := by decide +kernel
theorem dX3_tells_19 : decode cX3_tells 19 = .ok (.isub, 1) := by decide +kernel
theorem dX3_tells_20 : decode cX3_tells 20 = .ok (.istore 6, 2) := by decide +kernel
theorem dX3_tells_22 : decode cX3_tells 22 = .ok (.iload 6, 2) := by decide +kernel
theorem dX3_tells_24 : decode cX3_tells 24 = .ok (.aload_n 0, 1) := by decide +kernel
theorem dX3_tells_25 : decode cX3_tells 25 = .ok (.getfield 29, 3) := by decide +kernel
theorem dX3_tells_28 : decode cX3_tells 28 = .ok (.arraylength, 1) := by decide +kernel
theorem dX3_tells_29 : decode cX3_tells 29 = .ok (.if_icmp .lt 5, 3) := by decide +kernel
theorem dX3_tells_32 : decode cX3_tells 32 = .ok (.iconst 0, 1) := by decide +kernel
theorem dX3_tells_33 : decode cX3_tells 33 = .ok (.ireturn, 1) := by decide +kernel
theorem dX3_tells_34 : decode cX3_tells 34 = .ok (.aload_n 0, 1) := by decide +kernel
theorem dX3_tells_35 : decode cX3_tells 35 = .ok (.aload_n 1, 1) := by decide +kernel
theorem dX3_tells_36 : decode cX3_tells 36 = .ok (.iload_n 2, 1) := by decide +kernel
theorem dX3_tells_37 : decode cX3_tells 37 = .ok (.iload_n 3, 1) := by decide +kernel
theorem dX3_tells_38 : decode cX3_tells 38 = .ok (.iload 5, 2) := by decide +kernel
theorem dX3_tells_40 : decode cX3_tells 40 = .ok (.iload 6, 2) := by decide +kernel
theorem dX3_tells_42 : decode cX3_tells 42 = .ok (.invokevirtual 100, 3) := by decide +kernel
theorem dX3_tells_45 : decode cX3_tells 45 = .ok (.istore 7, 2) := by decide +kernel
theorem dX3_tells_47 : decode cX3_tells 47 = .ok (.iconst 0, 1) := by decide +kernel
theorem dX3_tells_48 : decode cX3_tells 48 = .ok (.istore 8, 2) := by decide +kernel
theorem dX3_tells_50 : decode cX3_tells 50 = .ok (.iconst 0, 1) := by decide +kernel
theorem dX3_tells_51 : decode cX3_tells 51 = .ok (.istore 9, 2) := by decide +kernel
theorem dX3_tells_53 : decode cX3_tells 53 = .ok (.iload 9, 2) := by decide +kernel
theorem dX3_tells_55 : decode cX3_tells 55 = .ok (.iload 7, 2) := by decide +kernel
theorem dX3_tells_57 : decode cX3_tells 57 = .ok (.if_icmp .ge 49, 3) := by decide +kernel
theorem dX3_tells_60 : decode cX3_tells 60 = .ok (.aload_n 0, 1) := by decide +kernel
theorem dX3_tells_61 : decode cX3_tells 61 = .ok (.getfield 32, 3) := by decide +kernel
theorem dX3_tells_64 : decode cX3_tells 64 = .ok (.iload 6, 2) := by decide +kernel
theorem dX3_tells_66 : decode cX3_tells 66 = .ok (.aaload, 1) := by decide +kernel
theorem dX3_tells_67 : decode cX3_tells 67 = .ok (.iload 9, 2) := by decide +kernel
theorem dX3_tells_69 : decode cX3_tells 69 = .ok (.iaload, 1) := by decide +kernel
theorem dX3_tells_70 : decode cX3_tells 70 = .ok (.istore 10, 2) := by decide +kernel
theorem dX3_tells_72 : decode cX3_tells 72 = .ok (.aload_n 0, 1) := by decide +kernel
theorem dX3_tells_73 : decode cX3_tells 73 = .ok (.aload_n 0, 1) := by decide +kernel
theorem dX3_tells_74 : decode cX3_tells 74 = .ok (.getfield 29, 3) := by decide +kernel
theorem dX3_tells_77 : decode cX3_tells 77 = .ok (.iload 6, 2) := by decide +kernel
theorem dX3_tells_79 : decode cX3_tells 79 = .ok (.aaload, 1) := by decide +kernel
theorem dX3_tells_80 : decode cX3_tells 80 = .ok (.iload 8, 2) := by decide +kernel
theorem dX3_tells_82 : decode cX3_tells 82 = .ok (.iload 10, 2) := by decide +kernel
theorem dX3_tells_84 : decode cX3_tells 84 = .ok (.iload 4, 2) := by decide +kernel
theorem dX3_tells_86 : decode cX3_tells 86 = .ok (.iconst 1, 1) := by decide +kernel
theorem dX3_tells_87 : decode cX3_tells 87 = .ok (.isub, 1) := by decide +kernel
theorem dX3_tells_88 : decode cX3_tells 88 = .ok (.invokevirtual 104, 3) := by decide +kernel
theorem dX3_tells_91 : decode cX3_tells 91 = .ok (.ifCond .ne 5, 3) := by decide +kernel
theorem dX3_tells_94 : decode cX3_tells 94 = .ok (.iconst 0, 1) := by decide +kernel
theorem dX3_tells_95 : decode cX3_tells 95 = .ok (.ireturn, 1) := by decide +kernel
theorem dX3_tells_96 : decode cX3_tells 96 = .ok (.iload 10, 2) := by decide +kernel
theorem dX3_tells_98 : decode cX3_tells 98 = .ok (.istore 8, 2) := by decide +kernel
theorem dX3_tells_100 : decode cX3_tells 100 = .ok (.iinc 9 1, 3) := by decide +kernel
theorem dX3_tells_103 : decode cX3_tells 103 = .ok (.goto (-50), 3) := by decide +kernel
theorem dX3_tells_106 : decode cX3_tells 106 = .ok (.iconst 1, 1) := by decide +kernel
theorem dX3_tells_107 : decode cX3_tells 107 = .ok (.ireturn, 1) := by decide +kernel
def F_X3_tells_b53 (N : Nat) (c_X3_tells : Nat → Int32 → Int32 → Int32 → Int32 → PH → Option (Int32 × PH)) (c_X3_canTell : Nat → Int32 → Int32 → Int32 → PH → Option (Int32 × PH)) (row : Nat) : Nat → Int32 → Int32 → Int32 → Int32 → Int32 → PH → Option (Int32 × PH)
  | 0, _, _, _, _, _, _ => none
  | n + 1, x4, x6, x7, x8, x9, h =>
    if x7 ≤ x9 then
      some ((1 : Int32), h)
    else
      if inb x6 2 = true then
      if inb x9 256 = true then
      ib (h.1 (49 + x6.toNatClampNeg) x9.toNatClampNeg) fun v4 =>
      bI (c_X3_canTell (46 + x6.toNatClampNeg) x8 v4 (x4 - (1 : Int32)) h) fun r5 h6 =>
      if r5 = 0 then
        some ((0 : Int32), h6)
      else
        ib (x9 + (1 : Int32)) fun v8 =>
        F_X3_tells_b53 N c_X3_tells c_X3_canTell row n x4 x6 x7 v4 v8 h6
      else none
      else none
set_option maxRecDepth 20000 in
set_option maxHeartbeats 4000000 in
theorem T_X3_tells_b53 {X : CT} {gf gl : Nat} (C : CX X 103 cX3_tells 11 RX3 (some .boolean) (gf + 1 + 3) (gl + 40 + 69)) {r0 : Int32} {h0 : PH} {N : Nat} {c_X3_tells : Nat → Int32 → Int32 → Int32 → Int32 → PH → Option (Int32 × PH)} {c_X3_canTell : Nat → Int32 → Int32 → Int32 → PH → Option (Int32 × PH)} {row : Nat} (hc_X3_tells : ∀ (row : Nat) (a2 : Int32) (a3 : Int32) (a4 : Int32) (a5 : Int32) (h : PH) (r : Int32) (h2 : PH), AK 103 row 0 3072 0 → c_X3_tells row a2 a3 a4 a5 h = some (r, h2) → MI (xE X) 103 yX3_tells cX3_tells 11 (some .boolean) gf gl [.ref 39, .ref row, .int a2, .int a3, .int a4, .int a5] h r h2) (hc_X3_canTell : ∀ (row : Nat) (a2 : Int32) (a3 : Int32) (a4 : Int32) (h : PH) (r : Int32) (h2 : PH), AK 103 row 0 3072 0 → c_X3_canTell row a2 a3 a4 h = some (r, h2) → MI (xE X) 103 yX3_canTell cX3_canTell 6 (some .boolean) gf gl [.ref 39, .ref row, .int a2, .int a3, .int a4] h r h2) (hrow : AK 103 row 0 3072 0) : ∀ (n : Nat) (x4 : Int32) (x6 : Int32) (x7 : Int32) (x8 : Int32) (x9 : Int32) (h : PH), F_X3_tells_b53 N c_X3_tells c_X3_canTell row n x4 x6 x7 x8 x9 h = some (r0, h0) → V X (QI X r0 h0) h 53 [some (.ref 39), none, none, none, some (.int x4), none, some (.int x6), some (.int x7), some (.int x8), some (.int x9), none] [] := by
  intro n
  induction n with
  | zero =>
    intro x4 x6 x7 x8 x9 h hyp
    cases hyp
  | succ n ih =>
    intro x4 x6 x7 x8 x9 h hyp
    unfold F_X3_tells_b53 at hyp
    refine V_iload (pc := 53) C dX3_tells_53 rfl ?_
    refine V_iload (pc := 55) C dX3_tells_55 rfl ?_
    refine V_icmp_ge (pc := 57) C dX3_tells_57 (tgt := 106) (by decide) (fun q1 => ?_) (fun q1 => ?_)
    · replace hyp := (if_pos q1).symm.trans hyp
      refine V_iconst (pc := 106) C dX3_tells_106 (v := 1) (by decide) ?_
      cases hyp
      exact V_zret C dX3_tells_107 rfl
    · replace hyp := (if_neg q1).symm.trans hyp
      refine V_aload_n (pc := 60) C dX3_tells_60 rfl ?_
      refine V_getR (pc := 61) C dX3_tells_61 lf_X3_32 fk_39_11 ?_
      refine V_iload (pc := 64) C dX3_tells_64 rfl ?_
      obtain ⟨g2, hyp⟩ := gd_n hyp
      refine V_aald (pc := 66) C dX3_tells_66 ak_48 g2 ?_
      refine V_iload (pc := 67) C dX3_tells_67 rfl ?_
      obtain ⟨g3, hyp⟩ := gd_n hyp
      refine V_iald (pc := 69) C dX3_tells_69 (akr_48 g2) g3 ?_
      obtain ⟨v4, ev4, hyp⟩ := ib_n hyp
      refine V_topI ev4 ?_
      refine V_istore (pc := 70) C dX3_tells_70 (by decide) rfl ?_
      refine V_aload_n (pc := 72) C dX3_tells_72 rfl ?_
      refine V_aload_n (pc := 73) C dX3_tells_73 rfl ?_
      refine V_getR (pc := 74) C dX3_tells_74 lf_X3_29 fk_39_10 ?_
      refine V_iload (pc := 77) C dX3_tells_77 rfl ?_
      refine V_aald (pc := 79) C dX3_tells_79 ak_45 g2 ?_
      refine V_iload (pc := 80) C dX3_tells_80 rfl ?_
      refine V_iload (pc := 82) C dX3_tells_82 rfl ?_
      refine V_iload (pc := 84) C dX3_tells_84 rfl ?_
      refine V_iconst (pc := 86) C dX3_tells_86 (v := 1) (by decide) ?_
      refine V_isub (pc := 87) C dX3_tells_87 ?_
      obtain ⟨r5, h6, eh6, hyp⟩ := bI_n hyp
      refine V_callI (pc := 88) C dX3_tells_88 lm_X3_104 mk_X3_canTell ok_39 rfl (hc_X3_canTell _ _ _ _ _ _ _ (akr_45 g2) eh6) rfl pd_X3_canTell (by decide) (by omega) (by omega) (As := [.ref (46 + x6.toNatClampNeg), .int x8, .int v4, .int (x4 - (1 : Int32))]) (rest := []) rfl (Nat.le_of_ble_eq_true rfl) ?_
      refine V_if_ne (pc := 91) C dX3_tells_91 (tgt := 96) (by decide) (fun q7 => ?_) (fun q7 => ?_)
      · replace hyp := (if_neg q7).symm.trans hyp
        refine V_iload (pc := 96) C dX3_tells_96 rfl ?_
        refine V_istore (pc := 98) C dX3_tells_98 (by decide) rfl ?_
        obtain ⟨v8, ev8, hyp⟩ := ib_n hyp
        refine V_iinc (pc := 100) C dX3_tells_100 (v := v8) rfl (by rw [ev8]; rfl) (by decide) rfl ?_
        refine V_goto (pc := 103) C dX3_tells_103 (tgt := 53) (by decide) ?_
        refine V_weak (lv' := [some (.ref 39), none, none, none, some (.int x4), none, some (.int x6), some (.int x7), some (.int v4), some (.int v8), none]) (lvle_s (lvle_n (lvle_n (lvle_n (lvle_s (lvle_n (lvle_s (lvle_s (lvle_s (lvle_s (lvle_n lvle_0))))))))))) ?_
        exact ih x4 x6 x7 v4 v8 h6 hyp
      · replace hyp := (if_pos q7).symm.trans hyp
        refine V_iconst (pc := 94) C dX3_tells_94 (v := 0) (by decide) ?_
        cases hyp
        exact V_zret C dX3_tells_95 rfl
def F_X3_tells (N : Nat) (c_X3_tells : Nat → Int32 → Int32 → Int32 → Int32 → PH → Option (Int32 × PH)) (c_X3_canTell : Nat → Int32 → Int32 → Int32 → PH → Option (Int32 × PH)) (row : Nat) (a2 : Int32) (a3 : Int32) (a4 : Int32) (a5 : Int32) (h : PH) : Option (Int32 × PH) :=
  if (1 : Int32) < a4 then
    ib (a4 - (2 : Int32)) fun v2 =>
    if v2 < (2 : Int32) then
      bI (F_X3_split N row a2 a3 a5 v2 h) fun r4 h5 =>
      F_X3_tells_b53 N c_X3_tells c_X3_canTell row N a4 v2 r4 (0 : Int32) (0 : Int32) h5
    else
      some ((0 : Int32), h)
  else
    bI (F_X3_tellsAtOnce N row a2 a3 a5 h) fun r6 h7 =>
    if zb r6 = true then
    some (r6, h7)
    else none
set_option maxRecDepth 20000 in
set_option maxHeartbeats 4000000 in
theorem M_X3_tells (E : EV) {gf gl : Nat} {N : Nat} {c_X3_tells : Nat → Int32 → Int32 → Int32 → Int32 → PH → Option (Int32 × PH)} {c_X3_canTell : Nat → Int32 → Int32 → Int32 → PH → Option (Int32 × PH)} {row : Nat} {a2 : Int32} {a3 : Int32} {a4 : Int32} {a5 : Int32} (hc_X3_tells : ∀ (row : Nat) (a2 : Int32) (a3 : Int32) (a4 : Int32) (a5 : Int32) (h : PH) (r : Int32) (h2 : PH), AK 103 row 0 3072 0 → c_X3_tells row a2 a3 a4 a5 h = some (r, h2) → MI E 103 yX3_tells cX3_tells 11 (some .boolean) gf gl [.ref 39, .ref row, .int a2, .int a3, .int a4, .int a5] h r h2) (hc_X3_canTell : ∀ (row : Nat) (a2 : Int32) (a3 : Int32) (a4 : Int32) (h : PH) (r : Int32) (h2 : PH), AK 103 row 0 3072 0 → c_X3_canTell row a2 a3 a4 h = some (r, h2) → MI E 103 yX3_canTell cX3_canTell 6 (some .boolean) gf gl [.ref 39, .ref row, .int a2, .int a3, .int a4] h r h2) (hrow : AK 103 row 0 3072 0)  {r : Int32} {h h2 : PH} (hyp : F_X3_tells N c_X3_tells c_X3_canTell row a2 a3 a4 a5 h = some (r, h2)) : MI E 103 yX3_tells cX3_tells 11 (some .boolean) (gf + 1 + 3) (gl + 40 + 69) [.ref 39, .ref row, .int a2, .int a3, .int a4, .int a5] h r h2 := by
  refine MI.of 5 (by decide) rfl (fun X e1 C => ?_)
  subst e1
  replace C : CX X 103 cX3_tells 11 RX3 (some .boolean) (gf + 1 + 3) (gl + 40 + 69) := C
  show V X _ h 0 [some (.ref 39), some (.ref row), some (.int a2), some (.int a3), some (.int a4), some (.int a5), none, none, none, none, none] []
  unfold F_X3_tells at hyp
  refine V_iload (pc := 0) C dX3_tells_0 rfl ?_
  refine V_iconst (pc := 2) C dX3_tells_2 (v := 1) (by decide) ?_
  refine V_icmp_gt (pc := 3) C dX3_tells_3 (tgt := 16) (by decide) (fun q1 => ?_) (fun q1 => ?_)
  · replace hyp := (if_pos q1).symm.trans hyp
    refine V_iload (pc := 16) C dX3_tells_16 rfl ?_
    refine V_iconst (pc := 18) C dX3_tells_18 (v := 2) (by decide) ?_
    refine V_isub (pc := 19) C dX3_tells_19 ?_
    obtain ⟨v2, ev2, hyp⟩ := ib_n hyp
    refine V_topI ev2 ?_
    refine V_istore (pc := 20) C dX3_tells_20 (by decide) rfl ?_
    refine V_iload (pc := 22) C dX3_tells_22 rfl ?_
    refine V_aload_n (pc := 24) C dX3_tells_24 rfl ?_
    refine V_getR (pc := 25) C dX3_tells_25 lf_X3_29 fk_39_10 ?_
    refine V_alen4 (pc := 28) C dX3_tells_28 ak_45 (v := 2) rfl ?_
    refine V_icmp_lt (pc := 29) C dX3_tells_29 (tgt := 34) (by decide) (fun q3 => ?_) (fun q3 => ?_)
    · replace hyp := (if_pos q3).symm.trans hyp
      refine V_aload_n (pc := 34) C dX3_tells_34 rfl ?_
      refine V_aload_n (pc := 35) C dX3_tells_35 rfl ?_
      refine V_iload_n (pc := 36) C dX3_tells_36 rfl ?_
      refine V_iload_n (pc := 37) C dX3_tells_37 rfl ?_
      refine V_iload (pc := 38) C dX3_tells_38 rfl ?_
      refine V_iload (pc := 40) C dX3_tells_40 rfl ?_
      obtain ⟨r4, h5, eh5, hyp⟩ := bI_n hyp
      refine V_callI (pc := 42) C dX3_tells_42 lm_X3_100 mk_X3_split ok_39 rfl (M_X3_split _ hrow eh5) rfl pd_X3_split (by decide) (by omega) (by omega) (As := [.ref row, .int a2, .int a3, .int a5, .int v2]) (rest := []) rfl (Nat.le_of_ble_eq_true rfl) ?_
      refine V_istore (pc := 45) C dX3_tells_45 (by decide) rfl ?_
      refine V_iconst (pc := 47) C dX3_tells_47 (v := 0) (by decide) ?_
      refine V_istore (pc := 48) C dX3_tells_48 (by decide) rfl ?_
      refine V_iconst (pc := 50) C dX3_tells_50 (v := 0) (by decide) ?_
      refine V_istore (pc := 51) C dX3_tells_51 (by decide) rfl ?_
      refine V_weak (lv' := [some (.ref 39), none, none, none, some (.int a4), none, some (.int v2), some (.int r4), some (.int (0 : Int32)), some (.int (0 : Int32)), none]) (lvle_s (lvle_n (lvle_n (lvle_n (lvle_s (lvle_n (lvle_s (lvle_s (lvle_s (lvle_s (lvle_n lvle_0))))))))))) ?_
      exact (T_X3_tells_b53 C hc_X3_tells hc_X3_canTell hrow) N a4 v2 r4 (0 : Int32) (0 : Int32) h5 hyp
    · replace hyp := (if_neg q3).symm.trans hyp
      refine V_iconst (pc := 32) C dX3_tells_32 (v := 0) (by decide) ?_
      cases hyp
      exact V_zret C dX3_tells_33 rfl
  · replace hyp := (if_neg q1).symm.trans hyp
    refine V_aload_n (pc := 6) C dX3_tells_6 rfl ?_
    refine V_aload_n (pc := 7) C dX3_tells_7 rfl ?_
    refine V_iload_n (pc := 8) C dX3_tells_8 rfl ?_
    refine V_iload_n (pc := 9) C dX3_tells_9 rfl ?_
    refine V_iload (pc := 10) C dX3_tells_10 rfl ?_
    obtain ⟨r6, h7, eh7, hyp⟩ := bI_n hyp
    refine V_callI (pc := 12) C dX3_tells_12 lm_X3_96 mk_X3_tellsAtOnce ok_39 rfl (M_X3_tellsAtOnce _ hrow eh7) rfl pd_X3_tellsAtOnce (by decide) (by omega) (by omega) (As := [.ref row, .int a2, .int a3, .int a5]) (rest := []) rfl (Nat.le_of_ble_eq_true rfl) ?_
    obtain ⟨g8, hyp⟩ := gd_n hyp
    cases hyp
    exact V_zret C dX3_tells_15 (zb_n g8).1
theorem dX3_canTell_0 : decode cX3_canTell 0 = .ok (.aload_n 0, 1) := by decide +kernel
theorem dX3_canTell_1 : decode cX3_canTell 1 = .ok (.aload_n 1, 1) := by decide +kernel
theorem dX3_canTell_2 : decode cX3_canTell 2 = .ok (.iload_n 2, 1) := by decide +kernel
theorem dX3_canTell_3 : decode cX3_canTell 3 = .ok (.iload_n 3, 1) := by decide +kernel
theorem dX3_canTell_4 : decode cX3_canTell 4 = .ok (.invokevirtual 76, 3) := by decide +kernel
theorem dX3_canTell_7 : decode cX3_canTell 7 = .ok (.ifCond .eq 5, 3) := by decide +kernel
theorem dX3_canTell_10 : decode cX3_canTell 10 = .ok (.iconst 1, 1) := by decide +kernel
theorem dX3_canTell_11 : decode cX3_canTell 11 = .ok (.ireturn, 1) := by decide +kernel
theorem dX3_canTell_12 : decode cX3_canTell 12 = .ok (.iconst 0, 1) := by decide +kernel
theorem dX3_canTell_13 : decode cX3_canTell 13 = .ok (.istore 5, 2) := by decide +kernel
theorem dX3_canTell_15 : decode cX3_canTell 15 = .ok (.iload 5, 2) := by decide +kernel
theorem dX3_canTell_17 : decode cX3_canTell 17 = .ok (.aload_n 0, 1) := by decide +kernel
theorem dX3_canTell_18 : decode cX3_canTell 18 = .ok (.getfield 35, 3) := by decide +kernel
theorem dX3_canTell_21 : decode cX3_canTell 21 = .ok (.invokevirtual 86, 3) := by decide +kernel
theorem dX3_canTell_24 : decode cX3_canTell 24 = .ok (.if_icmp .ge 25, 3) := by decide +kernel
theorem dX3_canTell_27 : decode cX3_canTell 27 = .ok (.aload_n 0, 1) := by decide +kernel
theorem dX3_canTell_28 : decode cX3_canTell 28 = .ok (.aload_n 1, 1) := by decide +kernel
theorem dX3_canTell_29 : decode cX3_canTell 29 = .ok (.iload_n 2, 1) := by decide +kernel
theorem dX3_canTell_30 : decode cX3_canTell 30 = .ok (.iload_n 3, 1) := by decide +kernel
theorem dX3_canTell_31 : decode cX3_canTell 31 = .ok (.iload 4, 2) := by decide +kernel
theorem dX3_canTell_33 : decode cX3_canTell 33 = .ok (.iload 5, 2) := by decide +kernel
theorem dX3_canTell_35 : decode cX3_canTell 35 = .ok (.invokevirtual 89, 3) := by decide +kernel
theorem dX3_canTell_38 : decode cX3_canTell 38 = .ok (.ifCond .eq 5, 3) := by decide +kernel
theorem dX3_canTell_41 : decode cX3_canTell 41 = .ok (.iconst 1, 1) := by decide +kernel
theorem dX3_canTell_42 : decode cX3_canTell 42 = .ok (.ireturn, 1) := by decide +kernel
theorem dX3_canTell_43 : decode cX3_canTell 43 = .ok (.iinc 5 1, 3) := by decide +kernel
theorem dX3_canTell_46 : decode cX3_canTell 46 = .ok (.goto (-31), 3) := by decide +kernel
theorem dX3_canTell_49 : decode cX3_canTell 49 = .ok (.iconst 0, 1) := by decide +kernel
theorem dX3_canTell_50 : decode cX3_canTell 50 = .ok (.ireturn, 1) := by decide +kernel
def F_X3_canTell_b15 (N : Nat) (c_X3_tells : Nat → Int32 → Int32 → Int32 → Int32 → PH → Option (Int32 × PH)) (c_X3_canTell : Nat → Int32 → Int32 → Int32 → PH → Option (Int32 × PH)) (row : Nat) : Nat → Int32 → Int32 → Int32 → Int32 → PH → Option (Int32 × PH)
  | 0, _, _, _, _, _ => none
  | n + 1, x2, x3, x4, x5, h =>
    bI (F_X0_choices  h) fun r1 h2 =>
    if r1 ≤ x5 then
      some ((0 : Int32), h2)
    else
      bI (c_X3_tells row x2 x3 x4 x5 h2) fun r4 h5 =>
      if r4 = 0 then
        ib (x5 + (1 : Int32)) fun v7 =>
        F_X3_canTell_b15 N c_X3_tells c_X3_canTell row n x2 x3 x4 v7 h5
      else
        some ((1 : Int32), h5)
set_option maxRecDepth 20000 in
set_option maxHeartbeats 4000000 in
theorem T_X3_canTell_b15 {X : CT} {gf gl : Nat} (C : CX X 103 cX3_canTell 6 RX3 (some .boolean) (gf + 1 + 3) (gl + 40 + 69)) {r0 : Int32} {h0 : PH} {N : Nat} {c_X3_tells : Nat → Int32 → Int32 → Int32 → Int32 → PH → Option (Int32 × PH)} {c_X3_canTell : Nat → Int32 → Int32 → Int32 → PH → Option (Int32 × PH)} {row : Nat} (hc_X3_tells : ∀ (row : Nat) (a2 : Int32) (a3 : Int32) (a4 : Int32) (a5 : Int32) (h : PH) (r : Int32) (h2 : PH), AK 103 row 0 3072 0 → c_X3_tells row a2 a3 a4 a5 h = some (r, h2) → MI (xE X) 103 yX3_tells cX3_tells 11 (some .boolean) gf gl [.ref 39, .ref row, .int a2, .int a3, .int a4, .int a5] h r h2) (hc_X3_canTell : ∀ (row : Nat) (a2 : Int32) (a3 : Int32) (a4 : Int32) (h : PH) (r : Int32) (h2 : PH), AK 103 row 0 3072 0 → c_X3_canTell row a2 a3 a4 h = some (r, h2) → MI (xE X) 103 yX3_canTell cX3_canTell 6 (some .boolean) gf gl [.ref 39, .ref row, .int a2, .int a3, .int a4] h r h2) (hrow : AK 103 row 0 3072 0) : ∀ (n : Nat) (x2 : Int32) (x3 : Int32) (x4 : Int32) (x5 : Int32) (h : PH), F_X3_canTell_b15 N c_X3_tells c_X3_canTell row n x2 x3 x4 x5 h = some (r0, h0) → V X (QI X r0 h0) h 15 [some (.ref 39), some (.ref row), some (.int x2), some (.int x3), some (.int x4), some (.int x5)] [] := by
  intro n
  induction n with
  | zero =>
    intro x2 x3 x4 x5 h hyp
    cases hyp
  | succ n ih =>
    intro x2 x3 x4 x5 h hyp
    unfold F_X3_canTell_b15 at hyp
    refine V_iload (pc := 15) C dX3_canTell_15 rfl ?_
    refine V_aload_n (pc := 17) C dX3_canTell_17 rfl ?_
    refine V_getR (pc := 18) C dX3_canTell_18 lf_X3_35 fk_39_4 ?_
    obtain ⟨r1, h2, eh2, hyp⟩ := bI_n hyp
    refine V_callI (pc := 21) C dX3_canTell_21 lm_X3_86 mk_X0_choices ok_21 rfl (M_X0_choices _ eh2) rfl pd_X0_choices (by decide) (by omega) (by omega) (As := []) (rest := [.int x5]) rfl (Nat.le_of_ble_eq_true rfl) ?_
    refine V_icmp_ge (pc := 24) C dX3_canTell_24 (tgt := 49) (by decide) (fun q3 => ?_) (fun q3 => ?_)
    · replace hyp := (if_pos q3).symm.trans hyp
      refine V_iconst (pc := 49) C dX3_canTell_49 (v := 0) (by decide) ?_
      cases hyp
      exact V_zret C dX3_canTell_50 rfl
    · replace hyp := (if_neg q3).symm.trans hyp
      refine V_aload_n (pc := 27) C dX3_canTell_27 rfl ?_
      refine V_aload_n (pc := 28) C dX3_canTell_28 rfl ?_
      refine V_iload_n (pc := 29) C dX3_canTell_29 rfl ?_
      refine V_iload_n (pc := 30) C dX3_canTell_30 rfl ?_
      refine V_iload (pc := 31) C dX3_canTell_31 rfl ?_
      refine V_iload (pc := 33) C dX3_canTell_33 rfl ?_
      obtain ⟨r4, h5, eh5, hyp⟩ := bI_n hyp
      refine V_callI (pc := 35) C dX3_canTell_35 lm_X3_89 mk_X3_tells ok_39 rfl (hc_X3_tells _ _ _ _ _ _ _ _ hrow eh5) rfl pd_X3_tells (by decide) (by omega) (by omega) (As := [.ref row, .int x2, .int x3, .int x4, .int x5]) (rest := []) rfl (Nat.le_of_ble_eq_true rfl) ?_
      refine V_if_eq (pc := 38) C dX3_canTell_38 (tgt := 43) (by decide) (fun q6 => ?_) (fun q6 => ?_)
      · replace hyp := (if_pos q6).symm.trans hyp
        obtain ⟨v7, ev7, hyp⟩ := ib_n hyp
        refine V_iinc (pc := 43) C dX3_canTell_43 (v := v7) rfl (by rw [ev7]; rfl) (by decide) rfl ?_
        refine V_goto (pc := 46) C dX3_canTell_46 (tgt := 15) (by decide) ?_
        refine V_weak (lv' := [some (.ref 39), some (.ref row), some (.int x2), some (.int x3), some (.int x4), some (.int v7)]) (lvle_s (lvle_s (lvle_s (lvle_s (lvle_s (lvle_s lvle_0)))))) ?_
        exact ih x2 x3 x4 v7 h5 hyp
      · replace hyp := (if_neg q6).symm.trans hyp
        refine V_iconst (pc := 41) C dX3_canTell_41 (v := 1) (by decide) ?_
        cases hyp
        exact V_zret C dX3_canTell_42 rfl
def F_X3_canTell (N : Nat) (c_X3_tells : Nat → Int32 → Int32 → Int32 → Int32 → PH → Option (Int32 × PH)) (c_X3_canTell : Nat → Int32 → Int32 → Int32 → PH → Option (Int32 × PH)) (row : Nat) (a2 : Int32) (a3 : Int32) (a4 : Int32) (h : PH) : Option (Int32 × PH) :=
  bI (F_X3_oneFloor N row a2 a3 h) fun r1 h2 =>
  if r1 = 0 then
    F_X3_canTell_b15 N c_X3_tells c_X3_canTell row N a2 a3 a4 (0 : Int32) h2
  else
    some ((1 : Int32), h2)
set_option maxRecDepth 20000 in
set_option maxHeartbeats 4000000 in
theorem M_X3_canTell (E : EV) {gf gl : Nat} {N : Nat} {c_X3_tells : Nat → Int32 → Int32 → Int32 → Int32 → PH → Option (Int32 × PH)} {c_X3_canTell : Nat → Int32 → Int32 → Int32 → PH → Option (Int32 × PH)} {row : Nat} {a2 : Int32} {a3 : Int32} {a4 : Int32} (hc_X3_tells : ∀ (row : Nat) (a2 : Int32) (a3 : Int32) (a4 : Int32) (a5 : Int32) (h : PH) (r : Int32) (h2 : PH), AK 103 row 0 3072 0 → c_X3_tells row a2 a3 a4 a5 h = some (r, h2) → MI E 103 yX3_tells cX3_tells 11 (some .boolean) gf gl [.ref 39, .ref row, .int a2, .int a3, .int a4, .int a5] h r h2) (hc_X3_canTell : ∀ (row : Nat) (a2 : Int32) (a3 : Int32) (a4 : Int32) (h : PH) (r : Int32) (h2 : PH), AK 103 row 0 3072 0 → c_X3_canTell row a2 a3 a4 h = some (r, h2) → MI E 103 yX3_canTell cX3_canTell 6 (some .boolean) gf gl [.ref 39, .ref row, .int a2, .int a3, .int a4] h r h2) (hrow : AK 103 row 0 3072 0)  {r : Int32} {h h2 : PH} (hyp : F_X3_canTell N c_X3_tells c_X3_canTell row a2 a3 a4 h = some (r, h2)) : MI E 103 yX3_canTell cX3_canTell 6 (some .boolean) (gf + 1 + 3) (gl + 40 + 69) [.ref 39, .ref row, .int a2, .int a3, .int a4] h r h2 := by
  refine MI.of 1 (by decide) rfl (fun X e1 C => ?_)
  subst e1
  replace C : CX X 103 cX3_canTell 6 RX3 (some .boolean) (gf + 1 + 3) (gl + 40 + 69) := C
  show V X _ h 0 [some (.ref 39), some (.ref row), some (.int a2), some (.int a3), some (.int a4), none] []
  unfold F_X3_canTell at hyp
  refine V_aload_n (pc := 0) C dX3_canTell_0 rfl ?_
  refine V_aload_n (pc := 1) C dX3_canTell_1 rfl ?_
  refine V_iload_n (pc := 2) C dX3_canTell_2 rfl ?_
  refine V_iload_n (pc := 3) C dX3_canTell_3 rfl ?_
  obtain ⟨r1, h2, eh2, hyp⟩ := bI_n hyp
  refine V_callI (pc := 4) C dX3_canTell_4 lm_X3_76 mk_X3_oneFloor ok_39 rfl (M_X3_oneFloor _ hrow eh2) rfl pd_X3_oneFloor (by decide) (by omega) (by omega) (As := [.ref row, .int a2, .int a3]) (rest := []) rfl (Nat.le_of_ble_eq_true rfl) ?_
  refine V_if_eq (pc := 7) C dX3_canTell_7 (tgt := 12) (by decide) (fun q3 => ?_) (fun q3 => ?_)
  · replace hyp := (if_pos q3).symm.trans hyp
    refine V_iconst (pc := 12) C dX3_canTell_12 (v := 0) (by decide) ?_
    refine V_istore (pc := 13) C dX3_canTell_13 (by decide) rfl ?_
    refine V_weak (lv' := [some (.ref 39), some (.ref row), some (.int a2), some (.int a3), some (.int a4), some (.int (0 : Int32))]) (lvle_s (lvle_s (lvle_s (lvle_s (lvle_s (lvle_s lvle_0)))))) ?_
    exact (T_X3_canTell_b15 C hc_X3_tells hc_X3_canTell hrow) N a2 a3 a4 (0 : Int32) h2 hyp
  · replace hyp := (if_neg q3).symm.trans hyp
    refine V_iconst (pc := 10) C dX3_canTell_10 (v := 1) (by decide) ?_
    cases hyp
    exact V_zret C dX3_canTell_11 rfl
def TC (N : Nat) : Nat → (Nat → Int32 → Int32 → Int32 → Int32 → PH → Option (Int32 × PH)) × (Nat → Int32 → Int32 → Int32 → PH → Option (Int32 × PH))
  | 0 => (fun _ _ _ _ _ _ => none, fun _ _ _ _ _ => none)
  | d + 1 => (F_X3_tells N ((TC N d).1) ((TC N d).2), F_X3_canTell N ((TC N d).1) ((TC N d).2))
set_option maxRecDepth 20000 in
set_option maxHeartbeats 4000000 in
theorem TC_ok (E : EV) (N : Nat) : ∀ d : Nat, (∀ (row : Nat) (a2 : Int32) (a3 : Int32) (a4 : Int32) (a5 : Int32) (h : PH) (r : Int32) (h2 : PH), AK 103 row 0 3072 0 → (TC N d).1 row a2 a3 a4 a5 h = some (r, h2) → MI E 103 yX3_tells cX3_tells 11 (some .boolean) (d * 4) (d * 109) [.ref 39, .ref row, .int a2, .int a3, .int a4, .int a5] h r h2) ∧ (∀ (row : Nat) (a2 : Int32) (a3 : Int32) (a4 : Int32) (h : PH) (r : Int32) (h2 : PH), AK 103 row 0 3072 0 → (TC N d).2 row a2 a3 a4 h = some (r, h2) → MI E 103 yX3_canTell cX3_canTell 6 (some .boolean) (d * 4) (d * 109) [.ref 39, .ref row, .int a2, .int a3, .int a4] h r h2) := by
  intro d
  induction d with
  | zero => refine ⟨(by intros; rename_i e; cases e), (by intros; rename_i e; cases e)⟩
  | succ d ih =>
    have e1 : (d + 1) * 4 = d * 4 + 1 + 3 := by omega
    have e2 : (d + 1) * 109 = d * 109 + 40 + 69 := by omega
    rw [e1, e2]
    refine ⟨fun row a2 a3 a4 a5 h r h2 hrow hyp => M_X3_tells E ih.1 ih.2 hrow hyp, fun row a2 a3 a4 h r h2 hrow hyp => M_X3_canTell E ih.1 ih.2 hrow hyp⟩
def G_X3_tells (N : Nat) (row : Nat) (a2 : Int32) (a3 : Int32) (a4 : Int32) (a5 : Int32) (h : PH) : Option (Int32 × PH) := (TC N 8).1 row a2 a3 a4 a5 h
theorem MG_X3_tells (E : EV) {N : Nat} {row : Nat} {a2 : Int32} {a3 : Int32} {a4 : Int32} {a5 : Int32} (hrow : AK 103 row 0 3072 0) {r : Int32} {h h2 : PH} (hyp : G_X3_tells N row a2 a3 a4 a5 h = some (r, h2)) : MI E 103 yX3_tells cX3_tells 11 (some .boolean) 32 872 [.ref 39, .ref row, .int a2, .int a3, .int a4, .int a5] h r h2 := (TC_ok E N 8).1 row a2 a3 a4 a5 h r h2 hrow hyp
def G_X3_canTell (N : Nat) (row : Nat) (a2 : Int32) (a3 : Int32) (a4 : Int32) (h : PH) : Option (Int32 × PH) := (TC N 8).2 row a2 a3 a4 h
theorem MG_X3_canTell (E : EV) {N : Nat} {row : Nat} {a2 : Int32} {a3 : Int32} {a4 : Int32} (hrow : AK 103 row 0 3072 0) {r : Int32} {h h2 : PH} (hyp : G_X3_canTell N row a2 a3 a4 h = some (r, h2)) : MI E 103 yX3_canTell cX3_canTell 6 (some .boolean) 32 872 [.ref 39, .ref row, .int a2, .int a3, .int a4] h r h2 := (TC_ok E N 8).2 row a2 a3 a4 h r h2 hrow hyp
