theorem dJ0_coder_7d493_0 : decode cJ0_coder_7d493 0 = .ok (.getstatic 38, 3) := by decide +kernel
theorem dJ0_coder_7d493_3 : decode cJ0_coder_7d493 3 = .ok (.ifCond .eq 10, 3) := by decide +kernel
theorem dJ0_coder_7d493_6 : decode cJ0_coder_7d493 6 = .ok (.aload_n 0, 1) := by decide +kernel
theorem dJ0_coder_7d493_7 : decode cJ0_coder_7d493 7 = .ok (.getfield 15, 3) := by decide +kernel
theorem dJ0_coder_7d493_10 : decode cJ0_coder_7d493 10 = .ok (.goto 4, 3) := by decide +kernel
theorem dJ0_coder_7d493_13 : decode cJ0_coder_7d493 13 = .ok (.iconst 1, 1) := by decide +kernel
theorem dJ0_coder_7d493_14 : decode cJ0_coder_7d493 14 = .ok (.ireturn, 1) := by decide +kernel
def F_J0_coder_7d493 (si : Nat) (h : PH) : Option (Int32 × PH) :=
  if (1 : Int32) = 0 then
    if narrow .byte (.int (1 : Int32)) = .int (1 : Int32) then
    some ((1 : Int32), h)
    else none
  else
    if narrow .byte (.int (0 : Int32)) = .int (0 : Int32) then
    some ((0 : Int32), h)
    else none
set_option maxRecDepth 20000 in
set_option maxHeartbeats 4000000 in
theorem M_J0_coder_7d493 (E : EV) {si : Nat} (hsi : si < 2) {r : Int32} {h h2 : PH} (hyp : F_J0_coder_7d493 si h = some (r, h2)) : MI E 103 yJ0_coder_7d493 cJ0_coder_7d493 1 (some .byte) 0 0 [.ref (1000 + si)] h r h2 := by
  refine MI.of 0 (by decide) rfl (fun X e1 C => ?_)
  subst e1
  replace C : CX X 103 cJ0_coder_7d493 1 RJ0 (some .byte) 0 0 := C
  show V X _ h 0 [some (.ref (1000 + si))] []
  unfold F_J0_coder_7d493 at hyp
  refine V_cmp (pc := 0) C dJ0_coder_7d493_0 lx_J0_38 ?_
  refine V_if_eq (pc := 3) C dJ0_coder_7d493_3 (tgt := 13) (by decide) (fun q1 => ?_) (fun q1 => ?_)
  · replace hyp := (if_pos q1).symm.trans hyp
    refine V_iconst (pc := 13) C dJ0_coder_7d493_13 (v := 1) (by decide) ?_
    obtain ⟨g2, hyp⟩ := gd_n hyp
    cases hyp
    exact V_nret C dJ0_coder_7d493_14 g2
  · replace hyp := (if_neg q1).symm.trans hyp
    refine V_aload_n (pc := 6) C dJ0_coder_7d493_6 rfl ?_
    refine V_strC (pc := 7) C (si := si) hsi dJ0_coder_7d493_7 lx_J0_15 ?_
    refine V_goto (pc := 10) C dJ0_coder_7d493_10 (tgt := 14) (by decide) ?_
    obtain ⟨g3, hyp⟩ := gd_n hyp
    cases hyp
    exact V_nret C dJ0_coder_7d493_14 g3
theorem dJ0_isLatin1_aae02_0 : decode cJ0_isLatin1_aae02 0 = .ok (.getstatic 38, 3) := by decide +kernel
theorem dJ0_isLatin1_aae02_3 : decode cJ0_isLatin1_aae02 3 = .ok (.ifCond .eq 14, 3) := by decide +kernel
theorem dJ0_isLatin1_aae02_6 : decode cJ0_isLatin1_aae02 6 = .ok (.aload_n 0, 1) := by decide +kernel
theorem dJ0_isLatin1_aae02_7 : decode cJ0_isLatin1_aae02 7 = .ok (.getfield 15, 3) := by decide +kernel
theorem dJ0_isLatin1_aae02_10 : decode cJ0_isLatin1_aae02 10 = .ok (.ifCond .ne 7, 3) := by decide +kernel
theorem dJ0_isLatin1_aae02_13 : decode cJ0_isLatin1_aae02 13 = .ok (.iconst 1, 1) := by decide +kernel
theorem dJ0_isLatin1_aae02_14 : decode cJ0_isLatin1_aae02 14 = .ok (.goto 4, 3) := by decide +kernel
theorem dJ0_isLatin1_aae02_17 : decode cJ0_isLatin1_aae02 17 = .ok (.iconst 0, 1) := by decide +kernel
theorem dJ0_isLatin1_aae02_18 : decode cJ0_isLatin1_aae02 18 = .ok (.ireturn, 1) := by decide +kernel
def F_J0_isLatin1_aae02_b17 (si : Nat) (h : PH) : Option (Int32 × PH) :=
  some ((0 : Int32), h)
set_option maxRecDepth 20000 in
set_option maxHeartbeats 4000000 in
theorem T_J0_isLatin1_aae02_b17 {X : CT} (C : CX X 103 cJ0_isLatin1_aae02 1 RJ0 (some .boolean) 0 0) {r0 : Int32} {h0 : PH} {si : Nat} (hsi : si < 2) : ∀ (h : PH), F_J0_isLatin1_aae02_b17 si  h = some (r0, h0) → V X (QI X r0 h0) h 17 [none] [] := by
  intro  h hyp
  unfold F_J0_isLatin1_aae02_b17 at hyp
  refine V_iconst (pc := 17) C dJ0_isLatin1_aae02_17 (v := 0) (by decide) ?_
  cases hyp
  exact V_zret C dJ0_isLatin1_aae02_18 rfl
def F_J0_isLatin1_aae02 (si : Nat) (h : PH) : Option (Int32 × PH) :=
  if (1 : Int32) = 0 then
    F_J0_isLatin1_aae02_b17 si  h
  else
    if (0 : Int32) = 0 then
      some ((1 : Int32), h)
    else
      F_J0_isLatin1_aae02_b17 si  h
set_option maxRecDepth 20000 in
set_option maxHeartbeats 4000000 in
theorem M_J0_isLatin1_aae02 (E : EV) {si : Nat} (hsi : si < 2) {r : Int32} {h h2 : PH} (hyp : F_J0_isLatin1_aae02 si h = some (r, h2)) : MI E 103 yJ0_isLatin1_aae02 cJ0_isLatin1_aae02 1 (some .boolean) 0 0 [.ref (1000 + si)] h r h2 := by
  refine MI.of 0 (by decide) rfl (fun X e1 C => ?_)
  subst e1
  replace C : CX X 103 cJ0_isLatin1_aae02 1 RJ0 (some .boolean) 0 0 := C
  show V X _ h 0 [some (.ref (1000 + si))] []
  unfold F_J0_isLatin1_aae02 at hyp
  refine V_cmp (pc := 0) C dJ0_isLatin1_aae02_0 lx_J0_38 ?_
  refine V_if_eq (pc := 3) C dJ0_isLatin1_aae02_3 (tgt := 17) (by decide) (fun q1 => ?_) (fun q1 => ?_)
  · replace hyp := (if_pos q1).symm.trans hyp
    refine V_weak (lv' := [none]) (lvle_n lvle_0) ?_
    exact (T_J0_isLatin1_aae02_b17 C hsi) h hyp
  · replace hyp := (if_neg q1).symm.trans hyp
    refine V_aload_n (pc := 6) C dJ0_isLatin1_aae02_6 rfl ?_
    refine V_strC (pc := 7) C (si := si) hsi dJ0_isLatin1_aae02_7 lx_J0_15 ?_
    refine V_if_ne (pc := 10) C dJ0_isLatin1_aae02_10 (tgt := 17) (by decide) (fun q2 => ?_) (fun q2 => ?_)
    · replace hyp := (if_neg q2).symm.trans hyp
      refine V_weak (lv' := [none]) (lvle_n lvle_0) ?_
      exact (T_J0_isLatin1_aae02_b17 C hsi) h hyp
    · replace hyp := (if_pos q2).symm.trans hyp
      refine V_iconst (pc := 13) C dJ0_isLatin1_aae02_13 (v := 1) (by decide) ?_
      refine V_goto (pc := 14) C dJ0_isLatin1_aae02_14 (tgt := 18) (by decide) ?_
      cases hyp
      exact V_zret C dJ0_isLatin1_aae02_18 rfl
theorem dJ0_length_8abf5_0 : decode cJ0_length_8abf5 0 = .ok (.aload_n 0, 1) := by decide +kernel
theorem dJ0_length_8abf5_1 : decode cJ0_length_8abf5 1 = .ok (.getfield 9, 3) := by decide +kernel
theorem dJ0_length_8abf5_4 : decode cJ0_length_8abf5 4 = .ok (.arraylength, 1) := by decide +kernel
theorem dJ0_length_8abf5_5 : decode cJ0_length_8abf5 5 = .ok (.aload_n 0, 1) := by decide +kernel
theorem dJ0_length_8abf5_6 : decode cJ0_length_8abf5 6 = .ok (.invokevirtual 335, 3) := by decide +kernel
theorem dJ0_length_8abf5_9 : decode cJ0_length_8abf5 9 = .ok (.ishr, 1) := by decide +kernel
theorem dJ0_length_8abf5_10 : decode cJ0_length_8abf5 10 = .ok (.ireturn, 1) := by decide +kernel
def F_J0_length_8abf5 (si : Nat) (h : PH) : Option (Int32 × PH) :=
  bI (F_J0_coder_7d493 si h) fun r1 h2 =>
  some ((nI (lenS.getD si 0)) >>> (r1 &&& 31), h2)
set_option maxRecDepth 20000 in
set_option maxHeartbeats 4000000 in
theorem M_J0_length_8abf5 (E : EV) {si : Nat} (hsi : si < 2) {r : Int32} {h h2 : PH} (hyp : F_J0_length_8abf5 si h = some (r, h2)) : MI E 103 yJ0_length_8abf5 cJ0_length_8abf5 1 (some .int) 1 20 [.ref (1000 + si)] h r h2 := by
  refine MI.of 0 (by decide) rfl (fun X e1 C => ?_)
  subst e1
  replace C : CX X 103 cJ0_length_8abf5 1 RJ0 (some .int) 1 20 := C
  show V X _ h 0 [some (.ref (1000 + si))] []
  unfold F_J0_length_8abf5 at hyp
  refine V_aload_n (pc := 0) C dJ0_length_8abf5_0 rfl ?_
  refine V_strV (pc := 1) C (si := si) hsi dJ0_length_8abf5_1 lx_J0_9 ?_
  refine V_strN (pc := 4) C (si := si) hsi dJ0_length_8abf5_4 ?_
  refine V_aload_n (pc := 5) C dJ0_length_8abf5_5 rfl ?_
  obtain ⟨r1, h2, eh2, hyp⟩ := bI_n hyp
  refine V_scallI (pc := 6) C (si := si) hsi dJ0_length_8abf5_6 lm_J0_335 mk_J0_coder_7d493 rfl (M_J0_coder_7d493 _ hsi eh2) rfl pd_J0_coder_7d493 (by decide) (by decide) (by decide) (As := []) (rest := [.int (nI (lenS.getD si 0))]) rfl (Nat.le_of_ble_eq_true rfl) ?_
  refine V_ishr (pc := 9) C dJ0_length_8abf5_9 ?_
  cases hyp
  exact V_iret C dJ0_length_8abf5_10
theorem dJ1_charAt_3b067_0 : decode cJ1_charAt_3b067 0 = .ok (.iload_n 1, 1) := by decide +kernel
theorem dJ1_charAt_3b067_1 : decode cJ1_charAt_3b067 1 = .ok (.aload_n 0, 1) := by decide +kernel
theorem dJ1_charAt_3b067_2 : decode cJ1_charAt_3b067 2 = .ok (.arraylength, 1) := by decide +kernel
theorem dJ1_charAt_3b067_3 : decode cJ1_charAt_3b067 3 = .ok (.invokestatic 9, 3) := by decide +kernel
theorem dJ1_charAt_3b067_6 : decode cJ1_charAt_3b067 6 = .ok (.aload_n 0, 1) := by decide +kernel
theorem dJ1_charAt_3b067_7 : decode cJ1_charAt_3b067 7 = .ok (.iload_n 1, 1) := by decide +kernel
theorem dJ1_charAt_3b067_8 : decode cJ1_charAt_3b067 8 = .ok (.baload, 1) := by decide +kernel
theorem dJ1_charAt_3b067_9 : decode cJ1_charAt_3b067 9 = .ok (.sipush 255, 3) := by decide +kernel
theorem dJ1_charAt_3b067_12 : decode cJ1_charAt_3b067 12 = .ok (.iand, 1) := by decide +kernel
theorem dJ1_charAt_3b067_13 : decode cJ1_charAt_3b067 13 = .ok (.i2c, 1) := by decide +kernel
theorem dJ1_charAt_3b067_14 : decode cJ1_charAt_3b067 14 = .ok (.ireturn, 1) := by decide +kernel
def F_J1_charAt_3b067 (si : Nat) (a2 : Int32) (h : PH) : Option (Int32 × PH) :=
  bV (F_J0_checkIndex_df160 a2 (nI (lenS.getD si 0)) h) fun h2 =>
  if inb a2 (lenS.getD si 0) = true then
  if narrow .char (.int (((((bytS.getD si []).getD a2.toNatClampNeg 0) &&& (255 : Int32)).toUInt32 % 65536).toInt32)) = .int (((((bytS.getD si []).getD a2.toNatClampNeg 0) &&& (255 : Int32)).toUInt32 % 65536).toInt32) then
  some (((((bytS.getD si []).getD a2.toNatClampNeg 0) &&& (255 : Int32)).toUInt32 % 65536).toInt32, h2)
  else none
  else none
set_option maxRecDepth 20000 in
set_option maxHeartbeats 4000000 in
theorem M_J1_charAt_3b067 (E : EV) {si : Nat} {a2 : Int32} (hsi : si < 2) {r : Int32} {h h2 : PH} (hyp : F_J1_charAt_3b067 si a2 h = some (r, h2)) : MI E 103 yJ1_charAt_3b067 cJ1_charAt_3b067 2 (some .char) 2 43 [.ref (2000 + si), .int a2] h r h2 := by
  refine MI.of 0 (by decide) rfl (fun X e1 C => ?_)
  subst e1
  replace C : CX X 103 cJ1_charAt_3b067 2 RJ1 (some .char) 2 43 := C
  show V X _ h 0 [some (.ref (2000 + si)), some (.int a2)] []
  unfold F_J1_charAt_3b067 at hyp
  refine V_iload_n (pc := 0) C dJ1_charAt_3b067_0 rfl ?_
  refine V_aload_n (pc := 1) C dJ1_charAt_3b067_1 rfl ?_
  refine V_strN (pc := 2) C (si := si) hsi dJ1_charAt_3b067_2 ?_
  obtain ⟨h2, eh2, hyp⟩ := bV_n hyp
  refine V_statV (pc := 3) C dJ1_charAt_3b067_3 lm_J1_9 ms_J0_checkIndex_df160 (M_J0_checkIndex_df160 _ eh2) rfl pd_J0_checkIndex_df160 (by decide) (by decide) (by decide) (As := [.int a2, .int (nI (lenS.getD si 0))]) (rest := []) rfl (Nat.le_of_ble_eq_true rfl) ?_
  refine V_aload_n (pc := 6) C dJ1_charAt_3b067_6 rfl ?_
  refine V_iload_n (pc := 7) C dJ1_charAt_3b067_7 rfl ?_
  obtain ⟨g3, hyp⟩ := gd_n hyp
  refine V_strA (pc := 8) C (si := si) hsi dJ1_charAt_3b067_8 g3 ?_
  refine V_sipush (pc := 9) C dJ1_charAt_3b067_9 (v := 255) (by decide) ?_
  refine V_iand (pc := 12) C dJ1_charAt_3b067_12 ?_
  refine V_i2c (pc := 13) C dJ1_charAt_3b067_13 ?_
  obtain ⟨g4, hyp⟩ := gd_n hyp
  cases hyp
  exact V_nret C dJ1_charAt_3b067_14 g4
theorem dJ0_charAt_5068e_0 : decode cJ0_charAt_5068e 0 = .ok (.aload_n 0, 1) := by decide +kernel
theorem dJ0_charAt_5068e_1 : decode cJ0_charAt_5068e 1 = .ok (.invokevirtual 492, 3) := by decide +kernel
theorem dJ0_charAt_5068e_4 : decode cJ0_charAt_5068e 4 = .ok (.ifCond .eq 12, 3) := by decide +kernel
theorem dJ0_charAt_5068e_7 : decode cJ0_charAt_5068e 7 = .ok (.aload_n 0, 1) := by decide +kernel
theorem dJ0_charAt_5068e_8 : decode cJ0_charAt_5068e 8 = .ok (.getfield 9, 3) := by decide +kernel
theorem dJ0_charAt_5068e_11 : decode cJ0_charAt_5068e 11 = .ok (.iload_n 1, 1) := by decide +kernel
theorem dJ0_charAt_5068e_12 : decode cJ0_charAt_5068e 12 = .ok (.invokestatic 495, 3) := by decide +kernel
theorem dJ0_charAt_5068e_15 : decode cJ0_charAt_5068e 15 = .ok (.ireturn, 1) := by decide +kernel
theorem dJ0_charAt_5068e_16 : decode cJ0_charAt_5068e 16 = .ok (.aload_n 0, 1) := by decide +kernel
theorem dJ0_charAt_5068e_17 : decode cJ0_charAt_5068e 17 = .ok (.getfield 9, 3) := by decide +kernel
theorem dJ0_charAt_5068e_20 : decode cJ0_charAt_5068e 20 = .ok (.iload_n 1, 1) := by decide +kernel
theorem dJ0_charAt_5068e_21 : decode cJ0_charAt_5068e 21 = .ok (.invokestatic 498, 3) := by decide +kernel
theorem dJ0_charAt_5068e_24 : decode cJ0_charAt_5068e 24 = .ok (.ireturn, 1) := by decide +kernel
def F_J0_charAt_5068e (si : Nat) (a1 : Int32) (h : PH) : Option (Int32 × PH) :=
  bI (F_J0_isLatin1_aae02 si h) fun r1 h2 =>
  if r1 = 0 then
    none
  else
    bI (F_J1_charAt_3b067 si a1 h2) fun r4 h5 =>
    if narrow .char (.int r4) = .int r4 then
    some (r4, h5)
    else none
set_option maxRecDepth 20000 in
set_option maxHeartbeats 4000000 in
theorem M_J0_charAt_5068e (E : EV) {si : Nat} {a1 : Int32} (hsi : si < 2) {r : Int32} {h h2 : PH} (hyp : F_J0_charAt_5068e si a1 h = some (r, h2)) : MI E 103 yJ0_charAt_5068e cJ0_charAt_5068e 2 (some .char) 3 64 [.ref (1000 + si), .int a1] h r h2 := by
  refine MI.of 0 (by decide) rfl (fun X e1 C => ?_)
  subst e1
  replace C : CX X 103 cJ0_charAt_5068e 2 RJ0 (some .char) 3 64 := C
  show V X _ h 0 [some (.ref (1000 + si)), some (.int a1)] []
  unfold F_J0_charAt_5068e at hyp
  refine V_aload_n (pc := 0) C dJ0_charAt_5068e_0 rfl ?_
  obtain ⟨r1, h2, eh2, hyp⟩ := bI_n hyp
  refine V_scallI (pc := 1) C (si := si) hsi dJ0_charAt_5068e_1 lm_J0_492 mk_J0_isLatin1_aae02 rfl (M_J0_isLatin1_aae02 _ hsi eh2) rfl pd_J0_isLatin1_aae02 (by decide) (by decide) (by decide) (As := []) (rest := []) rfl (Nat.le_of_ble_eq_true rfl) ?_
  refine V_if_eq (pc := 4) C dJ0_charAt_5068e_4 (tgt := 16) (by decide) (fun q3 => ?_) (fun q3 => ?_)
  · replace hyp := (if_pos q3).symm.trans hyp
    refine V_aload_n (pc := 16) C dJ0_charAt_5068e_16 rfl ?_
    refine V_strV (pc := 17) C (si := si) hsi dJ0_charAt_5068e_17 lx_J0_9 ?_
    refine V_iload_n (pc := 20) C dJ0_charAt_5068e_20 rfl ?_
    cases hyp
  · replace hyp := (if_neg q3).symm.trans hyp
    refine V_aload_n (pc := 7) C dJ0_charAt_5068e_7 rfl ?_
    refine V_strV (pc := 8) C (si := si) hsi dJ0_charAt_5068e_8 lx_J0_9 ?_
    refine V_iload_n (pc := 11) C dJ0_charAt_5068e_11 rfl ?_
    obtain ⟨r4, h5, eh5, hyp⟩ := bI_n hyp
    refine V_statI (pc := 12) C dJ0_charAt_5068e_12 lm_J0_495 ms_J1_charAt_3b067 (M_J1_charAt_3b067 _ hsi eh5) rfl pd_J1_charAt_3b067 (by decide) (by decide) (by decide) (As := [.ref (2000 + si), .int a1]) (rest := []) rfl (Nat.le_of_ble_eq_true rfl) ?_
    obtain ⟨g6, hyp⟩ := gd_n hyp
    cases hyp
    exact V_nret C dJ0_charAt_5068e_15 g6
theorem dJ1_canEncode_9a6ad_0 : decode cJ1_canEncode_9a6ad 0 = .ok (.iload_n 0, 1) := by decide +kernel
theorem dJ1_canEncode_9a6ad_1 : decode cJ1_canEncode_9a6ad 1 = .ok (.ifCond .lt 14, 3) := by decide +kernel
theorem dJ1_canEncode_9a6ad_4 : decode cJ1_canEncode_9a6ad 4 = .ok (.iload_n 0, 1) := by decide +kernel
theorem dJ1_canEncode_9a6ad_5 : decode cJ1_canEncode_9a6ad 5 = .ok (.sipush 255, 3) := by decide +kernel
theorem dJ1_canEncode_9a6ad_8 : decode cJ1_canEncode_9a6ad 8 = .ok (.if_icmp .gt 7, 3) := by decide +kernel
theorem dJ1_canEncode_9a6ad_11 : decode cJ1_canEncode_9a6ad 11 = .ok (.iconst 1, 1) := by decide +kernel
theorem dJ1_canEncode_9a6ad_12 : decode cJ1_canEncode_9a6ad 12 = .ok (.goto 4, 3) := by decide +kernel
theorem dJ1_canEncode_9a6ad_15 : decode cJ1_canEncode_9a6ad 15 = .ok (.iconst 0, 1) := by decide +kernel
theorem dJ1_canEncode_9a6ad_16 : decode cJ1_canEncode_9a6ad 16 = .ok (.ireturn, 1) := by decide +kernel
def F_J1_canEncode_9a6ad_b15 (h : PH) : Option (Int32 × PH) :=
  some ((0 : Int32), h)
set_option maxRecDepth 20000 in
set_option maxHeartbeats 4000000 in
theorem T_J1_canEncode_9a6ad_b15 {X : CT} (C : CX X 103 cJ1_canEncode_9a6ad 1 RJ1 (some .boolean) 0 0) {r0 : Int32} {h0 : PH} : ∀ (h : PH), F_J1_canEncode_9a6ad_b15  h = some (r0, h0) → V X (QI X r0 h0) h 15 [none] [] := by
  intro  h hyp
  unfold F_J1_canEncode_9a6ad_b15 at hyp
  refine V_iconst (pc := 15) C dJ1_canEncode_9a6ad_15 (v := 0) (by decide) ?_
  cases hyp
  exact V_zret C dJ1_canEncode_9a6ad_16 rfl
def F_J1_canEncode_9a6ad (a1 : Int32) (h : PH) : Option (Int32 × PH) :=
  if a1 < 0 then
    F_J1_canEncode_9a6ad_b15  h
  else
    if (255 : Int32) < a1 then
      F_J1_canEncode_9a6ad_b15  h
    else
      some ((1 : Int32), h)
set_option maxRecDepth 20000 in
set_option maxHeartbeats 4000000 in
theorem M_J1_canEncode_9a6ad (E : EV) {a1 : Int32} {r : Int32} {h h2 : PH} (hyp : F_J1_canEncode_9a6ad a1 h = some (r, h2)) : MI E 103 yJ1_canEncode_9a6ad cJ1_canEncode_9a6ad 1 (some .boolean) 0 0 [.int a1] h r h2 := by
  refine MI.of 0 (by decide) rfl (fun X e1 C => ?_)
  subst e1
  replace C : CX X 103 cJ1_canEncode_9a6ad 1 RJ1 (some .boolean) 0 0 := C
  show V X _ h 0 [some (.int a1)] []
  unfold F_J1_canEncode_9a6ad at hyp
  refine V_iload_n (pc := 0) C dJ1_canEncode_9a6ad_0 rfl ?_
  refine V_if_lt (pc := 1) C dJ1_canEncode_9a6ad_1 (tgt := 15) (by decide) (fun q1 => ?_) (fun q1 => ?_)
  · replace hyp := (if_pos q1).symm.trans hyp
    refine V_weak (lv' := [none]) (lvle_n lvle_0) ?_
    exact (T_J1_canEncode_9a6ad_b15 C) h hyp
  · replace hyp := (if_neg q1).symm.trans hyp
    refine V_iload_n (pc := 4) C dJ1_canEncode_9a6ad_4 rfl ?_
    refine V_sipush (pc := 5) C dJ1_canEncode_9a6ad_5 (v := 255) (by decide) ?_
    refine V_icmp_gt (pc := 8) C dJ1_canEncode_9a6ad_8 (tgt := 15) (by decide) (fun q2 => ?_) (fun q2 => ?_)
    · replace hyp := (if_pos q2).symm.trans hyp
      refine V_weak (lv' := [none]) (lvle_n lvle_0) ?_
      exact (T_J1_canEncode_9a6ad_b15 C) h hyp
    · replace hyp := (if_neg q2).symm.trans hyp
      refine V_iconst (pc := 11) C dJ1_canEncode_9a6ad_11 (v := 1) (by decide) ?_
      refine V_goto (pc := 12) C dJ1_canEncode_9a6ad_12 (tgt := 16) (by decide) ?_
      cases hyp
      exact V_zret C dJ1_canEncode_9a6ad_16 rfl
theorem dJ1_indexOfChar_4cfef_0 : decode cJ1_indexOfChar_4cfef 0 = .ok (.iload_n 1, 1) := by decide +kernel
theorem dJ1_indexOfChar_4cfef_1 : decode cJ1_indexOfChar_4cfef 1 = .ok (.i2b, 1) := by decide +kernel
theorem dJ1_indexOfChar_4cfef_2 : decode cJ1_indexOfChar_4cfef 2 = .ok (.istore 4, 2) := by decide +kernel
theorem dJ1_indexOfChar_4cfef_4 : decode cJ1_indexOfChar_4cfef 4 = .ok (.iload_n 2, 1) := by decide +kernel
theorem dJ1_indexOfChar_4cfef_5 : decode cJ1_indexOfChar_4cfef 5 = .ok (.istore 5, 2) := by decide +kernel
theorem dJ1_indexOfChar_4cfef_7 : decode cJ1_indexOfChar_4cfef 7 = .ok (.iload 5, 2) := by decide +kernel
theorem dJ1_indexOfChar_4cfef_9 : decode cJ1_indexOfChar_4cfef 9 = .ok (.iload_n 3, 1) := by decide +kernel
theorem dJ1_indexOfChar_4cfef_10 : decode cJ1_indexOfChar_4cfef 10 = .ok (.if_icmp .ge 21, 3) := by decide +kernel
theorem dJ1_indexOfChar_4cfef_13 : decode cJ1_indexOfChar_4cfef 13 = .ok (.aload_n 0, 1) := by decide +kernel
theorem dJ1_indexOfChar_4cfef_14 : decode cJ1_indexOfChar_4cfef 14 = .ok (.iload 5, 2) := by decide +kernel
theorem dJ1_indexOfChar_4cfef_16 : decode cJ1_indexOfChar_4cfef 16 = .ok (.baload, 1) := by decide +kernel
theorem dJ1_indexOfChar_4cfef_17 : decode cJ1_indexOfChar_4cfef 17 = .ok (.iload 4, 2) := by decide +kernel
theorem dJ1_indexOfChar_4cfef_19 : decode cJ1_indexOfChar_4cfef 19 = .ok (.if_icmp .ne 6, 3) := by decide +kernel
theorem dJ1_indexOfChar_4cfef_22 : decode cJ1_indexOfChar_4cfef 22 = .ok (.iload 5, 2) := by decide +kernel
theorem dJ1_indexOfChar_4cfef_24 : decode cJ1_indexOfChar_4cfef 24 = .ok (.ireturn, 1) := by decide +kernel
theorem dJ1_indexOfChar_4cfef_25 : decode cJ1_indexOfChar_4cfef 25 = .ok (.iinc 5 1, 3) := by decide +kernel
theorem dJ1_indexOfChar_4cfef_28 : decode cJ1_indexOfChar_4cfef 28 = .ok (.goto (-21), 3) := by decide +kernel
theorem dJ1_indexOfChar_4cfef_31 : decode cJ1_indexOfChar_4cfef 31 = .ok (.iconst (-1), 1) := by decide +kernel
theorem dJ1_indexOfChar_4cfef_32 : decode cJ1_indexOfChar_4cfef 32 = .ok (.ireturn, 1) := by decide +kernel
def F_J1_indexOfChar_4cfef_b7 (N : Nat) (si : Nat) : Nat → Int32 → Int32 → Int32 → PH → Option (Int32 × PH)
  | 0, _, _, _, _ => none
  | n + 1, x3, x4, x5, h =>
    if x3 ≤ x5 then
      some ((-1 : Int32), h)
    else
      if inb x5 (lenS.getD si 0) = true then
      if ((bytS.getD si []).getD x5.toNatClampNeg 0) = x4 then
        some (x5, h)
      else
        ib (x5 + (1 : Int32)) fun v4 =>
        F_J1_indexOfChar_4cfef_b7 N si n x3 x4 v4 h
      else none
set_option maxRecDepth 20000 in
set_option maxHeartbeats 4000000 in
theorem T_J1_indexOfChar_4cfef_b7 {X : CT} (C : CX X 103 cJ1_indexOfChar_4cfef 6 RJ1 (some .int) 0 0) {r0 : Int32} {h0 : PH} {N : Nat} {si : Nat} (hsi : si < 2) : ∀ (n : Nat) (x3 : Int32) (x4 : Int32) (x5 : Int32) (h : PH), F_J1_indexOfChar_4cfef_b7 N si n x3 x4 x5 h = some (r0, h0) → V X (QI X r0 h0) h 7 [some (.ref (2000 + si)), none, none, some (.int x3), some (.int x4), some (.int x5)] [] := by
  intro n
  induction n with
  | zero =>
    intro x3 x4 x5 h hyp
    cases hyp
  | succ n ih =>
    intro x3 x4 x5 h hyp
    unfold F_J1_indexOfChar_4cfef_b7 at hyp
    refine V_iload (pc := 7) C dJ1_indexOfChar_4cfef_7 rfl ?_
    refine V_iload_n (pc := 9) C dJ1_indexOfChar_4cfef_9 rfl ?_
    refine V_icmp_ge (pc := 10) C dJ1_indexOfChar_4cfef_10 (tgt := 31) (by decide) (fun q1 => ?_) (fun q1 => ?_)
    · replace hyp := (if_pos q1).symm.trans hyp
      refine V_iconst (pc := 31) C dJ1_indexOfChar_4cfef_31 (v := -1) (by decide) ?_
      cases hyp
      exact V_iret C dJ1_indexOfChar_4cfef_32
    · replace hyp := (if_neg q1).symm.trans hyp
      refine V_aload_n (pc := 13) C dJ1_indexOfChar_4cfef_13 rfl ?_
      refine V_iload (pc := 14) C dJ1_indexOfChar_4cfef_14 rfl ?_
      obtain ⟨g2, hyp⟩ := gd_n hyp
      refine V_strA (pc := 16) C (si := si) hsi dJ1_indexOfChar_4cfef_16 g2 ?_
      refine V_iload (pc := 17) C dJ1_indexOfChar_4cfef_17 rfl ?_
      refine V_icmp_ne (pc := 19) C dJ1_indexOfChar_4cfef_19 (tgt := 25) (by decide) (fun q3 => ?_) (fun q3 => ?_)
      · replace hyp := (if_neg q3).symm.trans hyp
        obtain ⟨v4, ev4, hyp⟩ := ib_n hyp
        refine V_iinc (pc := 25) C dJ1_indexOfChar_4cfef_25 (v := v4) rfl (by rw [ev4]; rfl) (by decide) rfl ?_
        refine V_goto (pc := 28) C dJ1_indexOfChar_4cfef_28 (tgt := 7) (by decide) ?_
        refine V_weak (lv' := [some (.ref (2000 + si)), none, none, some (.int x3), some (.int x4), some (.int v4)]) (lvle_s (lvle_n (lvle_n (lvle_s (lvle_s (lvle_s lvle_0)))))) ?_
        exact ih x3 x4 v4 h hyp
      · replace hyp := (if_pos q3).symm.trans hyp
        refine V_iload (pc := 22) C dJ1_indexOfChar_4cfef_22 rfl ?_
        cases hyp
        exact V_iret C dJ1_indexOfChar_4cfef_24
def F_J1_indexOfChar_4cfef (N : Nat) (si : Nat) (a2 : Int32) (a3 : Int32) (a4 : Int32) (h : PH) : Option (Int32 × PH) :=
  F_J1_indexOfChar_4cfef_b7 N si N a4 a2.toInt8.toInt32 a3 h
set_option maxRecDepth 20000 in
set_option maxHeartbeats 4000000 in
theorem M_J1_indexOfChar_4cfef (E : EV) {N : Nat} {si : Nat} {a2 : Int32} {a3 : Int32} {a4 : Int32} (hsi : si < 2) {r : Int32} {h h2 : PH} (hyp : F_J1_indexOfChar_4cfef N si a2 a3 a4 h = some (r, h2)) : MI E 103 yJ1_indexOfChar_4cfef cJ1_indexOfChar_4cfef 6 (some .int) 0 0 [.ref (2000 + si), .int a2, .int a3, .int a4] h r h2 := by
  refine MI.of 2 (by decide) rfl (fun X e1 C => ?_)
  subst e1
  replace C : CX X 103 cJ1_indexOfChar_4cfef 6 RJ1 (some .int) 0 0 := C
  show V X _ h 0 [some (.ref (2000 + si)), some (.int a2), some (.int a3), some (.int a4), none, none] []
  unfold F_J1_indexOfChar_4cfef at hyp
  refine V_iload_n (pc := 0) C dJ1_indexOfChar_4cfef_0 rfl ?_
  refine V_i2b (pc := 1) C dJ1_indexOfChar_4cfef_1 ?_
  refine V_istore (pc := 2) C dJ1_indexOfChar_4cfef_2 (by decide) rfl ?_
  refine V_iload_n (pc := 4) C dJ1_indexOfChar_4cfef_4 rfl ?_
  refine V_istore (pc := 5) C dJ1_indexOfChar_4cfef_5 (by decide) rfl ?_
  refine V_weak (lv' := [some (.ref (2000 + si)), none, none, some (.int a4), some (.int a2.toInt8.toInt32), some (.int a3)]) (lvle_s (lvle_n (lvle_n (lvle_s (lvle_s (lvle_s lvle_0)))))) ?_
  exact (T_J1_indexOfChar_4cfef_b7 C hsi) N a4 a2.toInt8.toInt32 a3 h hyp
theorem dJ1_indexOf_4cfef_0 : decode cJ1_indexOf_4cfef 0 = .ok (.iload_n 1, 1) := by decide +kernel
theorem dJ1_indexOf_4cfef_1 : decode cJ1_indexOf_4cfef 1 = .ok (.invokestatic 88, 3) := by decide +kernel
theorem dJ1_indexOf_4cfef_4 : decode cJ1_indexOf_4cfef 4 = .ok (.ifCond .ne 5, 3) := by decide +kernel
theorem dJ1_indexOf_4cfef_7 : decode cJ1_indexOf_4cfef 7 = .ok (.iconst (-1), 1) := by decide +kernel
theorem dJ1_indexOf_4cfef_8 : decode cJ1_indexOf_4cfef 8 = .ok (.ireturn, 1) := by decide +kernel
theorem dJ1_indexOf_4cfef_9 : decode cJ1_indexOf_4cfef 9 = .ok (.iload_n 2, 1) := by decide +kernel
theorem dJ1_indexOf_4cfef_10 : decode cJ1_indexOf_4cfef 10 = .ok (.iconst 0, 1) := by decide +kernel
theorem dJ1_indexOf_4cfef_11 : decode cJ1_indexOf_4cfef 11 = .ok (.invokestatic 92, 3) := by decide +kernel
theorem dJ1_indexOf_4cfef_14 : decode cJ1_indexOf_4cfef 14 = .ok (.istore_n 2, 1) := by decide +kernel
theorem dJ1_indexOf_4cfef_15 : decode cJ1_indexOf_4cfef 15 = .ok (.iload_n 3, 1) := by decide +kernel
theorem dJ1_indexOf_4cfef_16 : decode cJ1_indexOf_4cfef 16 = .ok (.aload_n 0, 1) := by decide +kernel
theorem dJ1_indexOf_4cfef_17 : decode cJ1_indexOf_4cfef 17 = .ok (.arraylength, 1) := by decide +kernel
theorem dJ1_indexOf_4cfef_18 : decode cJ1_indexOf_4cfef 18 = .ok (.invokestatic 38, 3) := by decide +kernel
theorem dJ1_indexOf_4cfef_21 : decode cJ1_indexOf_4cfef 21 = .ok (.istore_n 3, 1) := by decide +kernel
theorem dJ1_indexOf_4cfef_22 : decode cJ1_indexOf_4cfef 22 = .ok (.iload_n 2, 1) := by decide +kernel
theorem dJ1_indexOf_4cfef_23 : decode cJ1_indexOf_4cfef 23 = .ok (.iload_n 3, 1) := by decide +kernel
theorem dJ1_indexOf_4cfef_24 : decode cJ1_indexOf_4cfef 24 = .ok (.if_icmp .lt 5, 3) := by decide +kernel
theorem dJ1_indexOf_4cfef_27 : decode cJ1_indexOf_4cfef 27 = .ok (.iconst (-1), 1) := by decide +kernel
theorem dJ1_indexOf_4cfef_28 : decode cJ1_indexOf_4cfef 28 = .ok (.ireturn, 1) := by decide +kernel
theorem dJ1_indexOf_4cfef_29 : decode cJ1_indexOf_4cfef 29 = .ok (.aload_n 0, 1) := by decide +kernel
theorem dJ1_indexOf_4cfef_30 : decode cJ1_indexOf_4cfef 30 = .ok (.iload_n 1, 1) := by decide +kernel
theorem dJ1_indexOf_4cfef_31 : decode cJ1_indexOf_4cfef 31 = .ok (.iload_n 2, 1) := by decide +kernel
theorem dJ1_indexOf_4cfef_32 : decode cJ1_indexOf_4cfef 32 = .ok (.iload_n 3, 1) := by decide +kernel
theorem dJ1_indexOf_4cfef_33 : decode cJ1_indexOf_4cfef 33 = .ok (.invokestatic 95, 3) := by decide +kernel
theorem dJ1_indexOf_4cfef_36 : decode cJ1_indexOf_4cfef 36 = .ok (.ireturn, 1) := by decide +kernel
def F_J1_indexOf_4cfef (N : Nat) (si : Nat) (a2 : Int32) (a3 : Int32) (a4 : Int32) (h : PH) : Option (Int32 × PH) :=
  bI (F_J1_canEncode_9a6ad a2 h) fun r1 h2 =>
  if r1 = 0 then
    some ((-1 : Int32), h2)
  else
    ib (imax a3 (0 : Int32)) fun v4 =>
    ib (imin a4 (nI (lenS.getD si 0))) fun v5 =>
    if v4 < v5 then
      bI (F_J1_indexOfChar_4cfef N si a2 v4 v5 h2) fun r7 h8 =>
      some (r7, h8)
    else
      some ((-1 : Int32), h2)
set_option maxRecDepth 20000 in
set_option maxHeartbeats 4000000 in
theorem M_J1_indexOf_4cfef (E : EV) {N : Nat} {si : Nat} {a2 : Int32} {a3 : Int32} {a4 : Int32} (hsi : si < 2) {r : Int32} {h h2 : PH} (hyp : F_J1_indexOf_4cfef N si a2 a3 a4 h = some (r, h2)) : MI E 103 yJ1_indexOf_4cfef cJ1_indexOf_4cfef 4 (some .int) 1 25 [.ref (2000 + si), .int a2, .int a3, .int a4] h r h2 := by
  refine MI.of 0 (by decide) rfl (fun X e1 C => ?_)
  subst e1
  replace C : CX X 103 cJ1_indexOf_4cfef 4 RJ1 (some .int) 1 25 := C
  show V X _ h 0 [some (.ref (2000 + si)), some (.int a2), some (.int a3), some (.int a4)] []
  unfold F_J1_indexOf_4cfef at hyp
  refine V_iload_n (pc := 0) C dJ1_indexOf_4cfef_0 rfl ?_
  obtain ⟨r1, h2, eh2, hyp⟩ := bI_n hyp
  refine V_statI (pc := 1) C dJ1_indexOf_4cfef_1 lm_J1_88 ms_J1_canEncode_9a6ad (M_J1_canEncode_9a6ad _ eh2) rfl pd_J1_canEncode_9a6ad (by decide) (by decide) (by decide) (As := [.int a2]) (rest := []) rfl (Nat.le_of_ble_eq_true rfl) ?_
  refine V_if_ne (pc := 4) C dJ1_indexOf_4cfef_4 (tgt := 9) (by decide) (fun q3 => ?_) (fun q3 => ?_)
  · replace hyp := (if_neg q3).symm.trans hyp
    refine V_iload_n (pc := 9) C dJ1_indexOf_4cfef_9 rfl ?_
    refine V_iconst (pc := 10) C dJ1_indexOf_4cfef_10 (v := 0) (by decide) ?_
    refine V_mmax (pc := 11) C dJ1_indexOf_4cfef_11 lm_J1_92 (by decide) (Nat.le_of_ble_eq_true rfl) ?_
    obtain ⟨v4, ev4, hyp⟩ := ib_n hyp
    refine V_topI ev4 ?_
    refine V_istore_n (pc := 14) C dJ1_indexOf_4cfef_14 (by decide) rfl ?_
    refine V_iload_n (pc := 15) C dJ1_indexOf_4cfef_15 rfl ?_
    refine V_aload_n (pc := 16) C dJ1_indexOf_4cfef_16 rfl ?_
    refine V_strN (pc := 17) C (si := si) hsi dJ1_indexOf_4cfef_17 ?_
    refine V_mmin (pc := 18) C dJ1_indexOf_4cfef_18 lm_J1_38 (by decide) (Nat.le_of_ble_eq_true rfl) ?_
    obtain ⟨v5, ev5, hyp⟩ := ib_n hyp
    refine V_topI ev5 ?_
    refine V_istore_n (pc := 21) C dJ1_indexOf_4cfef_21 (by decide) rfl ?_
    refine V_iload_n (pc := 22) C dJ1_indexOf_4cfef_22 rfl ?_
    refine V_iload_n (pc := 23) C dJ1_indexOf_4cfef_23 rfl ?_
    refine V_icmp_lt (pc := 24) C dJ1_indexOf_4cfef_24 (tgt := 29) (by decide) (fun q6 => ?_) (fun q6 => ?_)
    · replace hyp := (if_pos q6).symm.trans hyp
      refine V_aload_n (pc := 29) C dJ1_indexOf_4cfef_29 rfl ?_
      refine V_iload_n (pc := 30) C dJ1_indexOf_4cfef_30 rfl ?_
      refine V_iload_n (pc := 31) C dJ1_indexOf_4cfef_31 rfl ?_
      refine V_iload_n (pc := 32) C dJ1_indexOf_4cfef_32 rfl ?_
      obtain ⟨r7, h8, eh8, hyp⟩ := bI_n hyp
      refine V_statI (pc := 33) C dJ1_indexOf_4cfef_33 lm_J1_95 ms_J1_indexOfChar_4cfef (M_J1_indexOfChar_4cfef _ hsi eh8) rfl pd_J1_indexOfChar_4cfef (by decide) (by decide) (by decide) (As := [.ref (2000 + si), .int a2, .int v4, .int v5]) (rest := []) rfl (Nat.le_of_ble_eq_true rfl) ?_
      cases hyp
      exact V_iret C dJ1_indexOf_4cfef_36
    · replace hyp := (if_neg q6).symm.trans hyp
      refine V_iconst (pc := 27) C dJ1_indexOf_4cfef_27 (v := -1) (by decide) ?_
      cases hyp
      exact V_iret C dJ1_indexOf_4cfef_28
  · replace hyp := (if_pos q3).symm.trans hyp
    refine V_iconst (pc := 7) C dJ1_indexOf_4cfef_7 (v := -1) (by decide) ?_
    cases hyp
    exact V_iret C dJ1_indexOf_4cfef_8
theorem dJ0_indexOf_7cf53_0 : decode cJ0_indexOf_7cf53 0 = .ok (.aload_n 0, 1) := by decide +kernel
theorem dJ0_indexOf_7cf53_1 : decode cJ0_indexOf_7cf53 1 = .ok (.invokevirtual 492, 3) := by decide +kernel
theorem dJ0_indexOf_7cf53_4 : decode cJ0_indexOf_7cf53 4 = .ok (.ifCond .eq 19, 3) := by decide +kernel
theorem dJ0_indexOf_7cf53_7 : decode cJ0_indexOf_7cf53 7 = .ok (.aload_n 0, 1) := by decide +kernel
theorem dJ0_indexOf_7cf53_8 : decode cJ0_indexOf_7cf53 8 = .ok (.getfield 9, 3) := by decide +kernel
theorem dJ0_indexOf_7cf53_11 : decode cJ0_indexOf_7cf53 11 = .ok (.iload_n 1, 1) := by decide +kernel
theorem dJ0_indexOf_7cf53_12 : decode cJ0_indexOf_7cf53 12 = .ok (.iload_n 2, 1) := by decide +kernel
theorem dJ0_indexOf_7cf53_13 : decode cJ0_indexOf_7cf53 13 = .ok (.aload_n 0, 1) := by decide +kernel
theorem dJ0_indexOf_7cf53_14 : decode cJ0_indexOf_7cf53 14 = .ok (.invokevirtual 505, 3) := by decide +kernel
theorem dJ0_indexOf_7cf53_17 : decode cJ0_indexOf_7cf53 17 = .ok (.invokestatic 637, 3) := by decide +kernel
theorem dJ0_indexOf_7cf53_20 : decode cJ0_indexOf_7cf53 20 = .ok (.goto 16, 3) := by decide +kernel
theorem dJ0_indexOf_7cf53_23 : decode cJ0_indexOf_7cf53 23 = .ok (.aload_n 0, 1) := by decide +kernel
theorem dJ0_indexOf_7cf53_24 : decode cJ0_indexOf_7cf53 24 = .ok (.getfield 9, 3) := by decide +kernel
theorem dJ0_indexOf_7cf53_27 : decode cJ0_indexOf_7cf53 27 = .ok (.iload_n 1, 1) := by decide +kernel
theorem dJ0_indexOf_7cf53_28 : decode cJ0_indexOf_7cf53 28 = .ok (.iload_n 2, 1) := by decide +kernel
theorem dJ0_indexOf_7cf53_29 : decode cJ0_indexOf_7cf53 29 = .ok (.aload_n 0, 1) := by decide +kernel
theorem dJ0_indexOf_7cf53_30 : decode cJ0_indexOf_7cf53 30 = .ok (.invokevirtual 505, 3) := by decide +kernel
theorem dJ0_indexOf_7cf53_33 : decode cJ0_indexOf_7cf53 33 = .ok (.invokestatic 640, 3) := by decide +kernel
theorem dJ0_indexOf_7cf53_36 : decode cJ0_indexOf_7cf53 36 = .ok (.ireturn, 1) := by decide +kernel
def F_J0_indexOf_7cf53 (N : Nat) (si : Nat) (a1 : Int32) (a2 : Int32) (h : PH) : Option (Int32 × PH) :=
  bI (F_J0_isLatin1_aae02 si h) fun r1 h2 =>
  if r1 = 0 then
    bI (F_J0_length_8abf5 si h2) fun r4 h5 =>
    none
  else
    bI (F_J0_length_8abf5 si h2) fun r6 h7 =>
    bI (F_J1_indexOf_4cfef N si a1 a2 r6 h7) fun r8 h9 =>
    some (r8, h9)
set_option maxRecDepth 20000 in
set_option maxHeartbeats 4000000 in
theorem M_J0_indexOf_7cf53 (E : EV) {N : Nat} {si : Nat} {a1 : Int32} {a2 : Int32} (hsi : si < 2) {r : Int32} {h h2 : PH} (hyp : F_J0_indexOf_7cf53 N si a1 a2 h = some (r, h2)) : MI E 103 yJ0_indexOf_7cf53 cJ0_indexOf_7cf53 3 (some .int) 2 48 [.ref (1000 + si), .int a1, .int a2] h r h2 := by
  refine MI.of 0 (by decide) rfl (fun X e1 C => ?_)
  subst e1
  replace C : CX X 103 cJ0_indexOf_7cf53 3 RJ0 (some .int) 2 48 := C
  show V X _ h 0 [some (.ref (1000 + si)), some (.int a1), some (.int a2)] []
  unfold F_J0_indexOf_7cf53 at hyp
  refine V_aload_n (pc := 0) C dJ0_indexOf_7cf53_0 rfl ?_
  obtain ⟨r1, h2, eh2, hyp⟩ := bI_n hyp
  refine V_scallI (pc := 1) C (si := si) hsi dJ0_indexOf_7cf53_1 lm_J0_492 mk_J0_isLatin1_aae02 rfl (M_J0_isLatin1_aae02 _ hsi eh2) rfl pd_J0_isLatin1_aae02 (by decide) (by decide) (by decide) (As := []) (rest := []) rfl (Nat.le_of_ble_eq_true rfl) ?_
  refine V_if_eq (pc := 4) C dJ0_indexOf_7cf53_4 (tgt := 23) (by decide) (fun q3 => ?_) (fun q3 => ?_)
  · replace hyp := (if_pos q3).symm.trans hyp
    refine V_aload_n (pc := 23) C dJ0_indexOf_7cf53_23 rfl ?_
    refine V_strV (pc := 24) C (si := si) hsi dJ0_indexOf_7cf53_24 lx_J0_9 ?_
    refine V_iload_n (pc := 27) C dJ0_indexOf_7cf53_27 rfl ?_
    refine V_iload_n (pc := 28) C dJ0_indexOf_7cf53_28 rfl ?_
    refine V_aload_n (pc := 29) C dJ0_indexOf_7cf53_29 rfl ?_
    obtain ⟨r4, h5, eh5, hyp⟩ := bI_n hyp
    refine V_scallI (pc := 30) C (si := si) hsi dJ0_indexOf_7cf53_30 lm_J0_505 mk_J0_length_8abf5 rfl (M_J0_length_8abf5 _ hsi eh5) rfl pd_J0_length_8abf5 (by decide) (by decide) (by decide) (As := []) (rest := [.int a2, .int a1, .ref (2000 + si)]) rfl (Nat.le_of_ble_eq_true rfl) ?_
    cases hyp
  · replace hyp := (if_neg q3).symm.trans hyp
    refine V_aload_n (pc := 7) C dJ0_indexOf_7cf53_7 rfl ?_
    refine V_strV (pc := 8) C (si := si) hsi dJ0_indexOf_7cf53_8 lx_J0_9 ?_
    refine V_iload_n (pc := 11) C dJ0_indexOf_7cf53_11 rfl ?_
    refine V_iload_n (pc := 12) C dJ0_indexOf_7cf53_12 rfl ?_
    refine V_aload_n (pc := 13) C dJ0_indexOf_7cf53_13 rfl ?_
    obtain ⟨r6, h7, eh7, hyp⟩ := bI_n hyp
    refine V_scallI (pc := 14) C (si := si) hsi dJ0_indexOf_7cf53_14 lm_J0_505 mk_J0_length_8abf5 rfl (M_J0_length_8abf5 _ hsi eh7) rfl pd_J0_length_8abf5 (by decide) (by decide) (by decide) (As := []) (rest := [.int a2, .int a1, .ref (2000 + si)]) rfl (Nat.le_of_ble_eq_true rfl) ?_
    obtain ⟨r8, h9, eh9, hyp⟩ := bI_n hyp
    refine V_statI (pc := 17) C dJ0_indexOf_7cf53_17 lm_J0_637 ms_J1_indexOf_4cfef (M_J1_indexOf_4cfef _ hsi eh9) rfl pd_J1_indexOf_4cfef (by decide) (by decide) (by decide) (As := [.ref (2000 + si), .int a1, .int a2, .int r6]) (rest := []) rfl (Nat.le_of_ble_eq_true rfl) ?_
    refine V_goto (pc := 20) C dJ0_indexOf_7cf53_20 (tgt := 36) (by decide) ?_
    cases hyp
    exact V_iret C dJ0_indexOf_7cf53_36
theorem dJ0_indexOf_0f7a4_0 : decode cJ0_indexOf_0f7a4 0 = .ok (.aload_n 0, 1) := by decide +kernel
theorem dJ0_indexOf_0f7a4_1 : decode cJ0_indexOf_0f7a4 1 = .ok (.iload_n 1, 1) := by decide +kernel
theorem dJ0_indexOf_0f7a4_2 : decode cJ0_indexOf_0f7a4 2 = .ok (.iconst 0, 1) := by decide +kernel
theorem dJ0_indexOf_0f7a4_3 : decode cJ0_indexOf_0f7a4 3 = .ok (.invokevirtual 633, 3) := by decide +kernel
theorem dJ0_indexOf_0f7a4_6 : decode cJ0_indexOf_0f7a4 6 = .ok (.ireturn, 1) := by decide +kernel
def F_J0_indexOf_0f7a4 (N : Nat) (si : Nat) (a1 : Int32) (h : PH) : Option (Int32 × PH) :=
  bI (F_J0_indexOf_7cf53 N si a1 (0 : Int32) h) fun r1 h2 =>
  some (r1, h2)
set_option maxRecDepth 20000 in
set_option maxHeartbeats 4000000 in
theorem M_J0_indexOf_0f7a4 (E : EV) {N : Nat} {si : Nat} {a1 : Int32} (hsi : si < 2) {r : Int32} {h h2 : PH} (hyp : F_J0_indexOf_0f7a4 N si a1 h = some (r, h2)) : MI E 103 yJ0_indexOf_0f7a4 cJ0_indexOf_0f7a4 2 (some .int) 3 70 [.ref (1000 + si), .int a1] h r h2 := by
  refine MI.of 0 (by decide) rfl (fun X e1 C => ?_)
  subst e1
  replace C : CX X 103 cJ0_indexOf_0f7a4 2 RJ0 (some .int) 3 70 := C
  show V X _ h 0 [some (.ref (1000 + si)), some (.int a1)] []
  unfold F_J0_indexOf_0f7a4 at hyp
  refine V_aload_n (pc := 0) C dJ0_indexOf_0f7a4_0 rfl ?_
  refine V_iload_n (pc := 1) C dJ0_indexOf_0f7a4_1 rfl ?_
  refine V_iconst (pc := 2) C dJ0_indexOf_0f7a4_2 (v := 0) (by decide) ?_
  obtain ⟨r1, h2, eh2, hyp⟩ := bI_n hyp
  refine V_scallI (pc := 3) C (si := si) hsi dJ0_indexOf_0f7a4_3 lm_J0_633 mk_J0_indexOf_7cf53 rfl (M_J0_indexOf_7cf53 _ hsi eh2) rfl pd_J0_indexOf_7cf53 (by decide) (by decide) (by decide) (As := [.int a1, .int (0 : Int32)]) (rest := []) rfl (Nat.le_of_ble_eq_true rfl) ?_
  cases hyp
  exact V_iret C dJ0_indexOf_0f7a4_6
