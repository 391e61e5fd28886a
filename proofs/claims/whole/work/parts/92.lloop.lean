/-! look's case and the law's loop; what the law's look does is asked as LOOK (printed by wip/whole/gen2/lloop.py) -/
def LOOK (X : CT) (Q : State → Prop) : Prop := ∀ (kc ks : Nat) (h : PH) (lv : List (Option Value)) (x : Int32), kc + 1 ≤ 601024 → ks + 6 ≤ 7293034 →
  (∀ r h1, wth x 0 5 = true → lookC 5000 x h = some (r, h1) → VL X kc ks Q (hsL h1 153 0 r.toInt64) 431 lv [.int 0] → VL X kc ks Q h 428 lv [.ref 153, .int x, .ref 0]) ∧ (wth x 0 5 = false → VL X (kc + 1) (ks + 6) Q h 431 lv [.int 1] → VL X kc ks Q h 428 lv [.ref 153, .int x, .ref 0])
section LLO
variable {X : CT} {Ln kc ks B : Nat} {xs : Nat → Int32} {Q : State → Prop} {h : PH}
theorem th_x {h : PH} {r : Int32} (e : h.1 103 0 = r) : F_X12_thrown h = some (r, h) := by
  unfold F_X12_thrown
  rw [e]
theorem LC_6 (C : CLW X Ln xs) (hL : Ln < 2 ^ 31) {i : Nat} (hi : i + 7 ≤ Ln) (hB : B < 512) (I : Inv B h) (hkc : kc + 1 ≤ 601024) (hks : ks + 6 ≤ 7293034) (lk : LOOK X Q) (k : ∀ h2, Inv (B + 1) h2 → VL X (kc + 1) (ks + 6) Q h2 1342 (lvL i) []) : VL X kc ks Q h 420 (lvL i) [] := by
  refine L_aload_n (pc := 420) C dL_law_420 rfl ?_
  refine L_aload_n (pc := 421) C dL_law_421 rfl ?_
  refine L_iload (pc := 422) C dL_law_422 rfl ?_
  refine L_iconst (pc := 424) (v := 1) C dL_law_424 (by decide) ?_
  refine L_iaddE (pc := 425) C dL_law_425 (la_1 i) ?_
  refine L_sld (pc := 426) C dL_law_426 (by omega) hL ?_
  refine L_aload_n (pc := 427) C dL_law_427 rfl ?_
  obtain ⟨l1, l2⟩ := lk kc ks h (lvL i) (xs (i + 1)) hkc hks
  rcases S_lookK (N := 5000) (Nat.le_refl _) hB I (xs (i + 1)) with ⟨g, r, h1, e1, e2⟩ | ⟨g, e2, I2⟩
  · obtain ⟨h2, e2, e3, I2⟩ := e2 (hsL h1 153 0 r.toInt64) rfl
    have e4 : h2.2 153 0 = r.toInt64 := by rw [zz_F_X12_look rfl _ _ e2]; simp [hsL, vp_updL]
    refine l1 r h1 g e1 ?_
    refine L_istore (pc := 431) C dL_law_431 (by decide) rfl ?_
    refine L_aload_n (pc := 433) C dL_law_433 rfl ?_
    refine L_aload_n (pc := 434) C dL_law_434 rfl ?_
    refine L_iload (pc := 435) C dL_law_435 rfl ?_
    refine L_iconst (pc := 437) (v := 1) C dL_law_437 (by decide) ?_
    refine L_iaddE (pc := 438) C dL_law_438 (la_1 i) ?_
    refine L_sld (pc := 439) C dL_law_439 (by omega) hL ?_
    refine L_callI (pc := 440) (As := [.int (xs (i + 1))]) (rest := []) C dL_law_440 lm_L_54 mk_X12_look ok_103 rfl (M_X12_look (xE X) e2) rfl pd_X12_look (by omega) (by omega) (by omega) rfl (Nat.le_of_ble_eq_true rfl) (by omega) (by omega) ?_
    refine L_istore (pc := 443) C dL_law_443 (by decide) rfl ?_
    refine L_aload_n (pc := 445) C dL_law_445 rfl ?_
    refine L_callI (pc := 446) (As := []) (rest := []) C dL_law_446 lm_L_55 mk_X12_thrown ok_103 rfl (M_X12_thrown (xE X) (th_x e3)) rfl pd_X12_thrown (by omega) (by omega) (by omega) rfl (Nat.le_of_ble_eq_true rfl) (by omega) (by omega) ?_
    refine L_iload (pc := 449) C dL_law_449 rfl ?_
    refine L_icmp_eq (pc := 451) (tgt := 456) C dL_law_451 (by decide) (fun _ => ?_) (fun z => absurd rfl z)
    refine L_iload (pc := 456) C dL_law_456 rfl ?_
    refine L_if_ne (pc := 458) (tgt := 473) C dL_law_458 (by decide) (fun z => absurd rfl z) (fun _ => ?_)
    refine L_aload_n (pc := 461) C dL_law_461 rfl ?_
    refine L_iconst (pc := 462) (v := 0) C dL_law_462 (by decide) ?_
    refine L_lald (pc := 463) C dL_law_463 ak_153 rfl ?_
    refine L_iload (pc := 464) C dL_law_464 rfl ?_
    refine L_i2l (pc := 466) C dL_law_466 ?_
    refine L_lcmp (pc := 467) C dL_law_467 ?_
    refine L_if_eq (pc := 468) (tgt := 473) C dL_law_468 (by decide) (fun _ => ?_) (fun z => absurd (by rw [show (0 : Int32).toNatClampNeg = 0 from rfl, e4]; simp [lg_cmp]) z)
    refine L_goto (pc := 473) (tgt := 1342) C dL_law_473 (by decide) ?_
    exact L_widen (by omega) (by omega) (L_weak (lv' := lvL i) ⟨rfl, rfl, rfl, rfl, rfl, trivial⟩ (k h2 I2))
  · refine l2 g ?_
    refine L_istore (pc := 431) C dL_law_431 (by decide) rfl ?_
    refine L_aload_n (pc := 433) C dL_law_433 rfl ?_
    refine L_aload_n (pc := 434) C dL_law_434 rfl ?_
    refine L_iload (pc := 435) C dL_law_435 rfl ?_
    refine L_iconst (pc := 437) (v := 1) C dL_law_437 (by decide) ?_
    refine L_iaddE (pc := 438) C dL_law_438 (la_1 i) ?_
    refine L_sld (pc := 439) C dL_law_439 (by omega) hL ?_
    refine L_callI (pc := 440) (As := [.int (xs (i + 1))]) (rest := []) C dL_law_440 lm_L_54 mk_X12_look ok_103 rfl (M_X12_look (xE X) e2) rfl pd_X12_look (by omega) (by omega) (by omega) rfl (Nat.le_of_ble_eq_true rfl) (by omega) (by omega) ?_
    refine L_istore (pc := 443) C dL_law_443 (by decide) rfl ?_
    refine L_aload_n (pc := 445) C dL_law_445 rfl ?_
    refine L_callI (pc := 446) (As := []) (rest := []) C dL_law_446 lm_L_55 mk_X12_thrown ok_103 rfl (M_X12_thrown (xE X) (th_x (r := 1) (by simp [hs_1]))) rfl pd_X12_thrown (by omega) (by omega) (by omega) rfl (Nat.le_of_ble_eq_true rfl) (by omega) (by omega) ?_
    refine L_iload (pc := 449) C dL_law_449 rfl ?_
    refine L_icmp_eq (pc := 451) (tgt := 456) C dL_law_451 (by decide) (fun _ => ?_) (fun z => absurd rfl z)
    refine L_iload (pc := 456) C dL_law_456 rfl ?_
    refine L_if_ne (pc := 458) (tgt := 473) C dL_law_458 (by decide) (fun _ => ?_) (fun z => absurd z (by decide))
    refine L_goto (pc := 473) (tgt := 1342) C dL_law_473 (by decide) ?_
    exact L_weak (lv' := lvL i) ⟨rfl, rfl, rfl, rfl, rfl, trivial⟩ (k _ I2)
abbrev S0L : Nat := 133792
theorem LLP (C : CLW X Ln xs) (hL : Ln ≤ 3584) (lk : LOOK X Q) (kend : ∀ B h, B ≤ 512 → VL X (154 + B) (S0L + 6 * B) Q h 1348 (lvL (7 * B)) []) : ∀ n B h, n + B = 512 → Inv B h → VL X (154 + B) (S0L + 6 * B) Q h 23 (lvL (7 * B)) [] := by
  intro n
  induction n with
  | zero =>
    intro B h e I
    refine L_iload (pc := 23) C dL_law_23 rfl ?_
    refine L_aload_n (pc := 25) C dL_law_25 rfl ?_
    refine L_slen (pc := 26) C dL_law_26 ?_
    refine L_bipush (pc := 27) (v := 7) C dL_law_27 (by decide) ?_
    refine L_isub (pc := 29) C dL_law_29 ?_
    refine L_icmp_gt (pc := 30) (tgt := 1348) C dL_law_30 (by decide) (fun _ => kend B h (by omega)) (fun z => ?_)
    exfalso
    apply z
    have q := pk_sub_toInt (a := Ln) (b := 7) (by omega) (by omega)
    rw [Int32.lt_iff_toInt_lt, nI_toInt (by omega : 7 * B < 2 ^ 31)]
    have q2 : (nI Ln - 7).toInt = (Ln : Int) - 7 := q
    rw [q2]
    omega
  | succ n ih =>
    intro B h e I
    refine L_iload (pc := 23) C dL_law_23 rfl ?_
    refine L_aload_n (pc := 25) C dL_law_25 rfl ?_
    refine L_slen (pc := 26) C dL_law_26 ?_
    refine L_bipush (pc := 27) (v := 7) C dL_law_27 (by decide) ?_
    refine L_isub (pc := 29) C dL_law_29 ?_
    refine L_icmp_gt (pc := 30) (tgt := 1348) C dL_law_30 (by decide) (fun _ => kend B h (by omega)) (fun z => ?_)
    have hi : 7 * B + 7 ≤ Ln := by
      have q := pk_sub_toInt (a := Ln) (b := 7) (by omega) (by omega)
      have q2 : (nI Ln - 7).toInt = (Ln : Int) - 7 := q
      rw [Int32.lt_iff_toInt_lt, nI_toInt (by omega : 7 * B < 2 ^ 31), q2] at z
      omega
    refine L_aload_n (pc := 33) C dL_law_33 rfl ?_
    refine L_iload (pc := 34) C dL_law_34 rfl ?_
    refine L_sld (pc := 36) C dL_law_36 (by omega) (by omega) ?_
    refine L_bipush (pc := 37) (v := 31) C dL_law_37 (by decide) ?_
    refine L_iand (pc := 39) C dL_law_39 ?_
    obtain ⟨j, hj, ej⟩ := pk_andE (xs (7 * B)) (m := 31) 5 (by decide)
    rw [ej]
    have fin : ∀ h2, Inv (B + 1) h2 → VL X (154 + B + 1) (S0L + 6 * B + 6) Q h2 1342 (lvL (7 * B)) [] := fun h2 I2 => by
      refine L_iinc (pc := 1342) (v := nI (7 * (B + 1))) C dL_law_1342 rfl (nI_add (7 * B) 7) (by decide) rfl ?_
      refine L_goto (pc := 1345) (tgt := 23) C dL_law_1345 (by decide) ?_
      exact ih (B + 1) h2 (by omega) I2
    have fi2 : ∀ h2, Inv (B + 1) h2 → VL X (154 + B) (S0L + 6 * B) Q h2 1342 (lvL (7 * B)) [] := fun h2 I2 => L_widen (by omega) (by omega) (fin h2 I2)
    have hj : j < 32 := hj
    have hk1 : 154 + B ≤ 601024 := by omega
    have hk2 : S0L + 6 * B ≤ 7293034 := by show 133792 + 6 * B ≤ 7293034; omega
    have hk3 : S0L + 6 * B + 6 ≤ 7293034 := by show 133792 + 6 * B + 6 ≤ 7293034; omega
    have hB : B < 512 := by omega
    have hL2 : Ln < 2 ^ 31 := by omega
    rcases (show j = 0 ∨ j = 1 ∨ j = 2 ∨ j = 3 ∨ j = 4 ∨ j = 5 ∨ j = 6 ∨ j = 7 ∨ j = 8 ∨ j = 9 ∨ j = 10 ∨ j = 11 ∨ j = 12 ∨ j = 13 ∨ j = 14 ∨ j = 15 ∨ j = 16 ∨ j = 17 ∨ j = 18 ∨ j = 19 ∨ j = 20 ∨ j = 21 ∨ j = 22 ∨ j = 23 ∨ j = 24 ∨ j = 25 ∨ j = 26 ∨ j = 27 ∨ j = 28 ∨ j = 29 ∨ j = 30 ∨ j = 31 by omega) with rfl | rfl | rfl | rfl | rfl | rfl | rfl | rfl | rfl | rfl | rfl | rfl | rfl | rfl | rfl | rfl | rfl | rfl | rfl | rfl | rfl | rfl | rfl | rfl | rfl | rfl | rfl | rfl | rfl | rfl | rfl | rfl
    · exact L_tsIn (pc := 40) (tgt := 184) C (nI 0) dL_law_40 rfl (by decide) (by decide) rfl (by decide) (LC_0 C hL2 hi hB I hk1 hk2 fi2)
    · exact L_tsIn (pc := 40) (tgt := 209) C (nI 1) dL_law_40 rfl (by decide) (by decide) rfl (by decide) (LC_1 C hL2 hi hB I hk1 hk2 fi2)
    · exact L_tsIn (pc := 40) (tgt := 356) C (nI 2) dL_law_40 rfl (by decide) (by decide) rfl (by decide) (LC_2 C hL2 hi hB I hk1 hk2 fi2)
    · exact L_tsIn (pc := 40) (tgt := 369) C (nI 3) dL_law_40 rfl (by decide) (by decide) rfl (by decide) (LC_3 C hL2 hi hB I hk1 hk2 fi2)
    · exact L_tsIn (pc := 40) (tgt := 382) C (nI 4) dL_law_40 rfl (by decide) (by decide) rfl (by decide) (LC_4 C hL2 hi hB I hk1 hk2 fi2)
    · exact L_tsIn (pc := 40) (tgt := 407) C (nI 5) dL_law_40 rfl (by decide) (by decide) rfl (by decide) (LC_5 C hL2 hi hB I hk1 hk2 fi2)
    · exact L_tsIn (pc := 40) (tgt := 420) C (nI 6) dL_law_40 rfl (by decide) (by decide) rfl (by decide) (LC_6 C hL2 hi hB I (by omega) hk3 lk fin)
    · exact L_tsIn (pc := 40) (tgt := 476) C (nI 7) dL_law_40 rfl (by decide) (by decide) rfl (by decide) (LC_7 C hL2 hi hB I hk1 hk2 fi2)
    · exact L_tsIn (pc := 40) (tgt := 513) C (nI 8) dL_law_40 rfl (by decide) (by decide) rfl (by decide) (LC_8 C hL2 hi hB I hk1 hk2 fi2)
    · exact L_tsIn (pc := 40) (tgt := 550) C (nI 9) dL_law_40 rfl (by decide) (by decide) rfl (by decide) (LC_9 C hL2 hi hB I hk1 hk2 fi2)
    · exact L_tsIn (pc := 40) (tgt := 599) C (nI 10) dL_law_40 rfl (by decide) (by decide) rfl (by decide) (LC_10 C hL2 hi hB I hk1 hk2 fi2)
    · exact L_tsIn (pc := 40) (tgt := 648) C (nI 11) dL_law_40 rfl (by decide) (by decide) rfl (by decide) (LC_11 C hL2 hi hB I hk1 hk2 fi2)
    · exact L_tsIn (pc := 40) (tgt := 673) C (nI 12) dL_law_40 rfl (by decide) (by decide) rfl (by decide) (LC_12 C hL2 hi hB I hk1 hk2 fi2)
    · exact L_tsIn (pc := 40) (tgt := 710) C (nI 13) dL_law_40 rfl (by decide) (by decide) rfl (by decide) (LC_13 C hL2 hi hB I hk1 hk2 fi2)
    · exact L_tsIn (pc := 40) (tgt := 735) C (nI 14) dL_law_40 rfl (by decide) (by decide) rfl (by decide) (LC_14 C hL2 hi hB I hk1 hk2 fi2)
    · exact L_tsIn (pc := 40) (tgt := 760) C (nI 15) dL_law_40 rfl (by decide) (by decide) rfl (by decide) (LC_15 C hL2 hi hB I hk1 hk2 fi2)
    · exact L_tsIn (pc := 40) (tgt := 821) C (nI 16) dL_law_40 rfl (by decide) (by decide) rfl (by decide) (LC_16 C hL2 hi hB I hk1 hk2 fi2)
    · exact L_tsIn (pc := 40) (tgt := 870) C (nI 17) dL_law_40 rfl (by decide) (by decide) rfl (by decide) (LC_17 C hL2 hi hB I hk1 hk2 fi2)
    · exact L_tsIn (pc := 40) (tgt := 919) C (nI 18) dL_law_40 rfl (by decide) (by decide) rfl (by decide) (LC_18 C hL2 hi hB I hk1 hk2 fi2)
    · exact L_tsIn (pc := 40) (tgt := 944) C (nI 19) dL_law_40 rfl (by decide) (by decide) rfl (by decide) (LC_19 C hL2 hi hB I hk1 hk2 fi2)
    · exact L_tsIn (pc := 40) (tgt := 957) C (nI 20) dL_law_40 rfl (by decide) (by decide) rfl (by decide) (LC_20 C hL2 hi hB I hk1 hk2 fi2)
    · exact L_tsIn (pc := 40) (tgt := 970) C (nI 21) dL_law_40 rfl (by decide) (by decide) rfl (by decide) (LC_21 C hL2 hi hB I hk1 hk2 fi2)
    · exact L_tsIn (pc := 40) (tgt := 1007) C (nI 22) dL_law_40 rfl (by decide) (by decide) rfl (by decide) (LC_22 C hL2 hi hB I hk1 hk2 fi2)
    · exact L_tsIn (pc := 40) (tgt := 1032) C (nI 23) dL_law_40 rfl (by decide) (by decide) rfl (by decide) (LC_23 C hL2 hi hB I hk1 hk2 fi2)
    · exact L_tsIn (pc := 40) (tgt := 1069) C (nI 24) dL_law_40 rfl (by decide) (by decide) rfl (by decide) (LC_24 C hL2 hi hB I hk1 hk2 fi2)
    · exact L_tsIn (pc := 40) (tgt := 1094) C (nI 25) dL_law_40 rfl (by decide) (by decide) rfl (by decide) (LC_25 C hL2 hi hB I hk1 hk2 fi2)
    · exact L_tsIn (pc := 40) (tgt := 1131) C (nI 26) dL_law_40 rfl (by decide) (by decide) rfl (by decide) (LC_26 C hL2 hi hB I hk1 hk2 fi2)
    · exact L_tsIn (pc := 40) (tgt := 1180) C (nI 27) dL_law_40 rfl (by decide) (by decide) rfl (by decide) (LC_27 C hL2 hi hB I hk1 hk2 fi2)
    · exact L_tsIn (pc := 40) (tgt := 1217) C (nI 28) dL_law_40 rfl (by decide) (by decide) rfl (by decide) (LC_28 C hL2 hi hB I hk1 hk2 fi2)
    · exact L_tsIn (pc := 40) (tgt := 1254) C (nI 29) dL_law_40 rfl (by decide) (by decide) rfl (by decide) (LC_29 C hL2 hi hB I hk1 hk2 fi2)
    · exact L_tsIn (pc := 40) (tgt := 1279) C (nI 30) dL_law_40 rfl (by decide) (by decide) rfl (by decide) (LC_30 C hL2 hi hB I hk1 hk2 fi2)
    · exact L_tsIn (pc := 40) (tgt := 1317) C (nI 31) dL_law_40 rfl (by decide) (by decide) rfl (by decide) (LC_31 C hL2 hi hB I hk1 hk2 fi2)
end LLO
