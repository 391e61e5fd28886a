theorem lvle_0 {b : List (Option Value)} : lvle [] b := by
  unfold lvle
  trivial
theorem lvle_n {a b : List (Option Value)} {w : Option Value} (h : lvle a b) : lvle (none :: a) (w :: b) := by
  unfold lvle
  exact h
theorem lvle_s {a b : List (Option Value)} {v : Value} (h : lvle a b) : lvle (some v :: a) (some v :: b) := by
  unfold lvle
  exact ⟨rfl, h⟩
def ISC (o : Nat) : Prop := o = 4 ∨ o = 15 ∨ o = 58
theorem isC_4 : ISC 4 := Or.inl rfl
theorem isC_15 : ISC 15 := Or.inr (Or.inl rfl)
theorem isC_58 : ISC 58 := Or.inr (Or.inr rfl)
theorem okC {o : Nat} (h : ISC o) : OK 103 o 2 := by
  rcases h with rfl | rfl | rfl
  · exact ok_4
  · exact ok_15
  · exact ok_58
theorem fkC_0 {o : Nat} (h : ISC o) : FK 103 o 2 0 (o + 1 + 2) := by
  rcases h with rfl | rfl | rfl
  · exact fk_4_0
  · exact fk_15_0
  · exact fk_58_0
theorem akC_1 {o : Nat} (h : ISC o) : AK 103 (o + 1) 0 10 0 := by
  rcases h with rfl | rfl | rfl
  · exact ak_5
  · exact ak_16
  · exact ak_59
theorem fkC_1 {o : Nat} (h : ISC o) : FK 103 o 2 1 0 := by
  rcases h with rfl | rfl | rfl
  · exact fk_4_1
  · exact fk_15_1
  · exact fk_58_1
theorem fkC_2 {o : Nat} (h : ISC o) : FK 103 o 2 2 (o + 2 + 2) := by
  rcases h with rfl | rfl | rfl
  · exact fk_4_2
  · exact fk_15_2
  · exact fk_58_2
theorem akC_2 {o : Nat} (h : ISC o) : AK 103 (o + 2) 0 1000 0 := by
  rcases h with rfl | rfl | rfl
  · exact ak_6
  · exact ak_17
  · exact ak_60
theorem fkC_3 {o : Nat} (h : ISC o) : FK 103 o 2 3 (o + 3 + 2) := by
  rcases h with rfl | rfl | rfl
  · exact fk_4_3
  · exact fk_15_3
  · exact fk_58_3
theorem akC_3 {o : Nat} (h : ISC o) : AK 103 (o + 3) 0 25 0 := by
  rcases h with rfl | rfl | rfl
  · exact ak_7
  · exact ak_18
  · exact ak_61
theorem fkC_4 {o : Nat} (h : ISC o) : FK 103 o 2 4 (o + 4 + 2) := by
  rcases h with rfl | rfl | rfl
  · exact fk_4_4
  · exact fk_15_4
  · exact fk_58_4
theorem akC_4 {o : Nat} (h : ISC o) : AK 103 (o + 4) 0 25 0 := by
  rcases h with rfl | rfl | rfl
  · exact ak_8
  · exact ak_19
  · exact ak_62
theorem fkC_5 {o : Nat} (h : ISC o) : FK 103 o 2 5 (o + 5 + 2) := by
  rcases h with rfl | rfl | rfl
  · exact fk_4_5
  · exact fk_15_5
  · exact fk_58_5
theorem akC_5 {o : Nat} (h : ISC o) : AK 103 (o + 5) 0 32 0 := by
  rcases h with rfl | rfl | rfl
  · exact ak_9
  · exact ak_20
  · exact ak_63
theorem fkC_6 {o : Nat} (h : ISC o) : FK 103 o 2 6 0 := by
  rcases h with rfl | rfl | rfl
  · exact fk_4_6
  · exact fk_15_6
  · exact fk_58_6
def IST (o : Nat) : Prop := o = 64 ∨ o = 83
theorem isT_64 : IST 64 := Or.inl rfl
theorem isT_83 : IST 83 := Or.inr rfl
theorem okT {o : Nat} (h : IST o) : OK 103 o 10 := by
  rcases h with rfl | rfl
  · exact ok_64
  · exact ok_83
theorem fkT_0 {o : Nat} (h : IST o) : FK 103 o 10 0 (o + 1 + 2) := by
  rcases h with rfl | rfl
  · exact fk_64_0
  · exact fk_83_0
theorem akT_1 {o : Nat} (h : IST o) : AK 103 (o + 1) 0 24 0 := by
  rcases h with rfl | rfl
  · exact ak_65
  · exact ak_84
theorem fkT_1 {o : Nat} (h : IST o) : FK 103 o 10 1 (o + 2 + 2) := by
  rcases h with rfl | rfl
  · exact fk_64_1
  · exact fk_83_1
theorem akT_2 {o : Nat} (h : IST o) : AK 103 (o + 2) 0 24 0 := by
  rcases h with rfl | rfl
  · exact ak_66
  · exact ak_85
theorem fkT_2 {o : Nat} (h : IST o) : FK 103 o 10 2 (o + 3 + 2) := by
  rcases h with rfl | rfl
  · exact fk_64_2
  · exact fk_83_2
theorem akT_3 {o : Nat} (h : IST o) : AK 103 (o + 3) 0 24 0 := by
  rcases h with rfl | rfl
  · exact ak_67
  · exact ak_86
theorem fkT_3 {o : Nat} (h : IST o) : FK 103 o 10 3 (o + 4 + 2) := by
  rcases h with rfl | rfl
  · exact fk_64_3
  · exact fk_83_3
theorem akT_4 {o : Nat} (h : IST o) : AK 103 (o + 4) 0 24 0 := by
  rcases h with rfl | rfl
  · exact ak_68
  · exact ak_87
theorem fkT_4 {o : Nat} (h : IST o) : FK 103 o 10 4 (o + 5 + 2) := by
  rcases h with rfl | rfl
  · exact fk_64_4
  · exact fk_83_4
theorem akT_5 {o : Nat} (h : IST o) : AK 103 (o + 5) 0 2 0 := by
  rcases h with rfl | rfl
  · exact ak_69
  · exact ak_88
theorem fkT_5 {o : Nat} (h : IST o) : FK 103 o 10 5 (o + 6 + 2) := by
  rcases h with rfl | rfl
  · exact fk_64_5
  · exact fk_83_5
theorem akT_6 {o : Nat} (h : IST o) : AK 103 (o + 6) 4 2 (o + 7) := by
  rcases h with rfl | rfl
  · exact ak_70
  · exact ak_89
theorem akrT_6 {o : Nat} (h : IST o) {i : Int32} (hi : inb i 2 = true) : AK 103 (o + 7 + i.toNatClampNeg) 0 5 0 := by
  have hlt : i.toNatClampNeg < 2 := Nat.not_le.mp fun q => inb_in hi (Or.inr q)
  generalize i.toNatClampNeg = m at hlt
  rcases h with rfl | rfl
  · rcases (show m = 0 ∨ m = 1 by omega) with rfl | rfl
    · exact ak_71
    · exact ak_72
  · rcases (show m = 0 ∨ m = 1 by omega) with rfl | rfl
    · exact ak_90
    · exact ak_91
theorem fkT_6 {o : Nat} (h : IST o) : FK 103 o 10 6 0 := by
  rcases h with rfl | rfl
  · exact fk_64_6
  · exact fk_83_6
theorem fkT_7 {o : Nat} (h : IST o) : FK 103 o 10 7 0 := by
  rcases h with rfl | rfl
  · exact fk_64_7
  · exact fk_83_7
theorem fkT_8 {o : Nat} (h : IST o) : FK 103 o 10 8 0 := by
  rcases h with rfl | rfl
  · exact fk_64_8
  · exact fk_83_8
theorem fkT_9 {o : Nat} (h : IST o) : FK 103 o 10 9 53 := by
  rcases h with rfl | rfl
  · exact fk_64_9
  · exact fk_83_9
theorem fkT_10 {o : Nat} (h : IST o) : FK 103 o 10 10 (o + 9 + 2) := by
  rcases h with rfl | rfl
  · exact fk_64_10
  · exact fk_83_10
theorem akT_9 {o : Nat} (h : IST o) : AK 103 (o + 9) 0 2 0 := by
  rcases h with rfl | rfl
  · exact ak_73
  · exact ak_92
theorem fkT_11 {o : Nat} (h : IST o) : FK 103 o 10 11 (o + 10 + 2) := by
  rcases h with rfl | rfl
  · exact fk_64_11
  · exact fk_83_11
theorem akT_10 {o : Nat} (h : IST o) : AK 103 (o + 10) 0 2 0 := by
  rcases h with rfl | rfl
  · exact ak_74
  · exact ak_93
theorem fkT_12 {o : Nat} (h : IST o) : FK 103 o 10 12 (o + 11 + 2) := by
  rcases h with rfl | rfl
  · exact fk_64_12
  · exact fk_83_12
theorem akT_11 {o : Nat} (h : IST o) : AK 103 (o + 11) 0 2 0 := by
  rcases h with rfl | rfl
  · exact ak_75
  · exact ak_94
theorem fkT_13 {o : Nat} (h : IST o) : FK 103 o 10 13 (o + 12 + 2) := by
  rcases h with rfl | rfl
  · exact fk_64_13
  · exact fk_83_13
theorem akT_12 {o : Nat} (h : IST o) : AK 103 (o + 12) 0 2 0 := by
  rcases h with rfl | rfl
  · exact ak_76
  · exact ak_95
theorem fkT_14 {o : Nat} (h : IST o) : FK 103 o 10 14 (o + 13 + 2) := by
  rcases h with rfl | rfl
  · exact fk_64_14
  · exact fk_83_14
theorem akT_13 {o : Nat} (h : IST o) : AK 103 (o + 13) 0 2 0 := by
  rcases h with rfl | rfl
  · exact ak_77
  · exact ak_96
theorem fkT_15 {o : Nat} (h : IST o) : FK 103 o 10 15 (o + 14 + 2) := by
  rcases h with rfl | rfl
  · exact fk_64_15
  · exact fk_83_15
theorem akT_14 {o : Nat} (h : IST o) : AK 103 (o + 14) 0 6 0 := by
  rcases h with rfl | rfl
  · exact ak_78
  · exact ak_97
theorem fkT_16 {o : Nat} (h : IST o) : FK 103 o 10 16 (o + 15 + 2) := by
  rcases h with rfl | rfl
  · exact fk_64_16
  · exact fk_83_16
theorem akT_15 {o : Nat} (h : IST o) : AK 103 (o + 15) 0 6 0 := by
  rcases h with rfl | rfl
  · exact ak_79
  · exact ak_98
theorem fkT_17 {o : Nat} (h : IST o) : FK 103 o 10 17 0 := by
  rcases h with rfl | rfl
  · exact fk_64_17
  · exact fk_83_17
theorem fkT_18 {o : Nat} (h : IST o) : FK 103 o 10 18 0 := by
  rcases h with rfl | rfl
  · exact fk_64_18
  · exact fk_83_18
theorem fkT_19 {o : Nat} (h : IST o) : FK 103 o 10 19 0 := by
  rcases h with rfl | rfl
  · exact fk_64_19
  · exact fk_83_19
theorem akr_23 {i : Int32} (hi : inb i 6 = true) : AK 103 (24 + i.toNatClampNeg) 0 61 0 := by
  have hlt : i.toNatClampNeg < 6 := Nat.not_le.mp fun q => inb_in hi (Or.inr q)
  generalize i.toNatClampNeg = m at hlt
  rcases (show m = 0 ∨ m = 1 ∨ m = 2 ∨ m = 3 ∨ m = 4 ∨ m = 5 by omega) with rfl | rfl | rfl | rfl | rfl | rfl
  · exact ak_24
  · exact ak_25
  · exact ak_26
  · exact ak_27
  · exact ak_28
  · exact ak_29
theorem akr_45 {i : Int32} (hi : inb i 2 = true) : AK 103 (46 + i.toNatClampNeg) 0 3072 0 := by
  have hlt : i.toNatClampNeg < 2 := Nat.not_le.mp fun q => inb_in hi (Or.inr q)
  generalize i.toNatClampNeg = m at hlt
  rcases (show m = 0 ∨ m = 1 by omega) with rfl | rfl
  · exact ak_46
  · exact ak_47
theorem akr_48 {i : Int32} (hi : inb i 2 = true) : AK 103 (49 + i.toNatClampNeg) 0 256 0 := by
  have hlt : i.toNatClampNeg < 2 := Nat.not_le.mp fun q => inb_in hi (Or.inr q)
  generalize i.toNatClampNeg = m at hlt
  rcases (show m = 0 ∨ m = 1 by omega) with rfl | rfl
  · exact ak_49
  · exact ak_50
theorem lk_out {ps : List (Int × Int)} {dflt : Int} {x : Int32} (hz : ∀ q ∈ ps, (Int32.ofInt q.1).toInt = q.1) (h : ∀ q ∈ ps, ¬ x = Int32.ofInt q.1) : Op.lookupswitch.offset ps dflt x.toInt = dflt := by
  induction ps with
  | nil => rfl
  | cons p ps ih =>
    have h1 : ¬ p.1 = x.toInt := fun e => h p List.mem_cons_self (by rw [e]; exact (Int32.ofInt_toInt x).symm)
    obtain ⟨a, b⟩ := p
    have ih' := ih (fun q hq => hz q (List.mem_cons_of_mem _ hq)) (fun q hq => h q (List.mem_cons_of_mem _ hq))
    simp only [Op.lookupswitch.offset] at ih' ⊢
    simp [h1]
    first | exact ih' | simpa using ih'
def hfill (h : PH) (k n : Nat) (v : Int32) : PH := hsA h k (fun j => if j < n then v else h.1 k j)
def cpok (sp dp n : Int32) (n0 n1 : Nat) : Bool := decide (¬ sp < 0 ∧ ¬ dp < 0 ∧ ¬ n < 0 ∧ sp.toNatClampNeg + n.toNatClampNeg ≤ n0 ∧ dp.toNatClampNeg + n.toNatClampNeg ≤ n1)
def imax (x y : Int32) : Int32 := if x < y then y else x
def imin (x y : Int32) : Int32 := if y < x then y else x
def iabs (x : Int32) : Int32 := if 0 ≤ x then x else 0 - x
def lmax (x y : Int64) : Int64 := if y < x then x else y
theorem cmax_eq : cJ9_max_7cf53 = Lib.Math.max.code := by decide +kernel
theorem cmin_eq : cJ9_min_7cf53 = Lib.Math.min.code := by decide +kernel
theorem cabs_eq : cJ9_abs_0f7a4 = Lib.Math.abs.code := by decide +kernel
theorem cmaxl_eq : cJ9_max_f86c9 = Lib.MathLoose.max_long.code := by decide +kernel
section VM
variable {X : CT} {B : Nat} {cc : ByteArray} {nL : Nat} {own : String} {ret : Option FieldType} {fr lo : Nat} {Q : State → Prop} {h : PH} {pc : Nat} {lv : List (Option Value)} {st : List Value}
theorem V_mmax (C : CX X B cc nL own ret fr lo) {i : Nat} {x y : Int32} (d : decode cc pc = .ok (.invokestatic i, 3)) (hl0 : Cond.methodLink own i yJ9_max_7cf53 ∈ BW) (hf : 1 ≤ fr) (hlo2 : sumcat st + 13 ≤ lo) (k : V X Q h (pc + 3) lv (.int (imax x y) :: st)) : V X Q h pc lv (.int y :: .int x :: st) := by
  obtain ⟨p, e, R, s, m, args, below, meth, c, l, D, ad, cA, nh⟩ := X
  obtain ⟨hx, hb, hml, hown, hts, hret, hlocks, hK, hI, hN, hfr, hlo, hB⟩ := C
  intro H locs ls hP hS hl
  obtain ⟨m1, m3, m4, m5⟩ := ms_J9_max_7cf53
  rw [cmax_eq] at m4
  exact va_mmax hx hb hl.1.symm hown (hts _ hl0) (hts _ m1) (hts _ m3) (hts _ m4) (Nat.le_trans hf hfr) (by rw [sumcat_tr]; exact Nat.le_trans hlo2 hlo) (Nat.zero_le _) (Nat.zero_le _) d (k H locs ls hP hS hl)
theorem V_mmin (C : CX X B cc nL own ret fr lo) {i : Nat} {x y : Int32} (d : decode cc pc = .ok (.invokestatic i, 3)) (hl0 : Cond.methodLink own i yJ9_min_7cf53 ∈ BW) (hf : 1 ≤ fr) (hlo2 : sumcat st + 13 ≤ lo) (k : V X Q h (pc + 3) lv (.int (imin x y) :: st)) : V X Q h pc lv (.int y :: .int x :: st) := by
  obtain ⟨p, e, R, s, m, args, below, meth, c, l, D, ad, cA, nh⟩ := X
  obtain ⟨hx, hb, hml, hown, hts, hret, hlocks, hK, hI, hN, hfr, hlo, hB⟩ := C
  intro H locs ls hP hS hl
  obtain ⟨m1, m3, m4, m5⟩ := ms_J9_min_7cf53
  rw [cmin_eq] at m4
  exact va_mmin hx hb hl.1.symm hown (hts _ hl0) (hts _ m1) (hts _ m3) (hts _ m4) (Nat.le_trans hf hfr) (by rw [sumcat_tr]; exact Nat.le_trans hlo2 hlo) (Nat.zero_le _) (Nat.zero_le _) d (k H locs ls hP hS hl)
theorem V_mabs (C : CX X B cc nL own ret fr lo) {i : Nat} {x : Int32} (d : decode cc pc = .ok (.invokestatic i, 3)) (hl0 : Cond.methodLink own i yJ9_abs_0f7a4 ∈ BW) (hf : 1 ≤ fr) (hlo2 : sumcat st + 13 ≤ lo) (k : V X Q h (pc + 3) lv (.int (iabs x) :: st)) : V X Q h pc lv (.int x :: st) := by
  obtain ⟨p, e, R, s, m, args, below, meth, c, l, D, ad, cA, nh⟩ := X
  obtain ⟨hx, hb, hml, hown, hts, hret, hlocks, hK, hI, hN, hfr, hlo, hB⟩ := C
  intro H locs ls hP hS hl
  obtain ⟨m1, m3, m4, m5⟩ := ms_J9_abs_0f7a4
  rw [cabs_eq] at m4
  exact va_mabs hx hb hl.1.symm hown (hts _ hl0) (hts _ m1) (hts _ m3) (hts _ m4) (Nat.le_trans hf hfr) (by rw [sumcat_tr]; exact Nat.le_trans hlo2 hlo) (Nat.zero_le _) (Nat.zero_le _) d (k H locs ls hP hS hl)
theorem V_mmaxL (C : CX X B cc nL own ret fr lo) {i : Nat} {x y : Int64} (d : decode cc pc = .ok (.invokestatic i, 3)) (hl0 : Cond.methodLink own i yJ9_max_f86c9 ∈ BW) (hf : 1 ≤ fr) (hlo2 : sumcat st + 15 ≤ lo) (k : V X Q h (pc + 3) lv (.long (lmax x y) :: st)) : V X Q h pc lv (.long y :: .long x :: st) := by
  obtain ⟨p, e, R, s, m, args, below, meth, c, l, D, ad, cA, nh⟩ := X
  obtain ⟨hx, hb, hml, hown, hts, hret, hlocks, hK, hI, hN, hfr, hlo, hB⟩ := C
  intro H locs ls hP hS hl
  obtain ⟨m1, m3, m4, m5⟩ := ms_J9_max_f86c9
  rw [cmaxl_eq] at m4
  exact va_mmax_long hx hb hl.1.symm hown (hts _ hl0) (hts _ m1) (hts _ m3) (hts _ m4) (Nat.le_trans hf hfr) (by rw [sumcat_tr]; exact Nat.le_trans hlo2 hlo) (Nat.zero_le _) (Nat.zero_le _) d (k H locs ls hP hS hl)
theorem acs : Cond.static arraycopyName ∈ BW := bw_c4 (List.mem_of_getElem? (i := 77) (by decide +kernel)) rfl
theorem acn : Cond.native arraycopyName ∈ BW := bw_c4 (List.mem_of_getElem? (i := 78) (by decide +kernel)) rfl
theorem aci : Cond.initialized "java/lang/System" ∈ BW := bw_c1 (List.mem_of_getElem? (i := 21) (by decide +kernel)) rfl
theorem la_X2_40 : Cond.methodLink RX2 40 arraycopyName ∈ BW := bw_c4 (List.mem_of_getElem? (i := 76) (by decide +kernel)) rfl
theorem V_copy (C : CX X B cc nL own ret fr lo) {i k0 k1 n0 n1 : Nat} {sp dp n : Int32} (d : decode cc pc = .ok (.invokestatic i, 3)) (hl0 : Cond.methodLink own i arraycopyName ∈ BW) (ak0 : AK B k0 0 n0 0) (ak1 : AK B k1 0 n1 0) (hg : cpok sp dp n n0 n1 = true) (hf : 1 ≤ fr) (hlo2 : 8 + (nativeFrameWords "java/lang/System" "arraycopy" 5 + 11) ≤ lo) (hc : sumcat st ≤ 8) {h1 : PH} (eh : h1 = hsA h k1 (va_cpy (h.1 k0) (h.1 k1) sp.toNatClampNeg dp.toNatClampNeg n.toNatClampNeg)) (k : V X Q h1 (pc + 3) lv st) : V X Q h pc lv (.int n :: .int dp :: .ref k1 :: .int sp :: .ref k0 :: st) := by
  obtain ⟨p, e, R, s, m, args, below, meth, c, l, D, ad, cA, nh⟩ := X
  obtain ⟨hx, hb, hml, hown, hts, hret, hlocks, hK, hI, hN, hfr, hlo, hB⟩ := C
  intro H locs ls hP hS hl
  subst eh
  obtain ⟨g1, g2, g3, g4, g5⟩ : ¬ sp < 0 ∧ ¬ dp < 0 ∧ ¬ n < 0 ∧ sp.toNatClampNeg + n.toNatClampNeg ≤ n0 ∧ dp.toNatClampNeg + n.toNatClampNeg ≤ n1 := of_decide_eq_true hg
  have he0 := WD_get (nh := nh) (ad := ad) (cA := cA) (h := h) (Nat.lt_of_lt_of_le ak0.1 hB)
  rw [ak0.2] at he0
  have he1 := WD_get (nh := nh) (ad := ad) (cA := cA) (h := h) (Nat.lt_of_lt_of_le ak1.1 hB)
  rw [ak1.2] at he1
  refine va_copyi (ty := .int) hx hb hl.1.symm hown (hts _ hl0) (hts _ acn) (hts _ acs) (hts _ aci) hK hP (WD_AD hI) hS k0 k1 0 0 he0 he1 rfl rfl rfl g1 g2 g3 g4 g5 (fun _ _ => rfl) (Nat.le_trans hf hfr) (by rw [sumcat_tr]; omega) d (fun H1 locs1 hP1 _ hS1 => k H1 locs1 ls ?_ hS1 hl)
  rwa [WD_set (h' := hsA h k1 (va_cpy (h.1 k0) (h.1 k1) sp.toNatClampNeg dp.toNatClampNeg n.toNatClampNeg)) (Nat.lt_of_lt_of_le ak1.1 hB) (by rw [ak1.2]; simp [cellE, hsA]) (fun a ha => by simp [hsA, ha])] at hP1
end VM
