/-! what stands at the law's start, out of the tables and the premises (printed by wip/whole/gen2/facts.py) -/
theorem tb_c1 {w : Cond} (h : w ∈ tables_1_1) : w ∈ lw_tbl := List.mem_append_right _ (List.mem_append_left _ h)
theorem tb_c2 {w : Cond} (h : w ∈ tables_1_2) : w ∈ lw_tbl := List.mem_append_right _ (List.mem_append_right _ (List.mem_append_left _ h))
theorem tb_c3 {w : Cond} (h : w ∈ tables_1_3) : w ∈ lw_tbl := List.mem_append_right _ (List.mem_append_right _ (List.mem_append_right _ (List.mem_append_left _ h)))
theorem tb_c4 {w : Cond} (h : w ∈ tables_1_4) : w ∈ lw_tbl := List.mem_append_right _ (List.mem_append_right _ (List.mem_append_right _ (List.mem_append_right _ (List.mem_append_left _ h))))
theorem tb_c5 {w : Cond} (h : w ∈ tables_1_5) : w ∈ lw_tbl := List.mem_append_right _ (List.mem_append_right _ (List.mem_append_right _ (List.mem_append_right _ (List.mem_append_right _ (List.mem_append_left _ h)))))
theorem tb_c6 {w : Cond} (h : w ∈ tables_1_6) : w ∈ lw_tbl := List.mem_append_right _ (List.mem_append_right _ (List.mem_append_right _ (List.mem_append_right _ (List.mem_append_right _ (List.mem_append_right _ (List.mem_append_left _ h))))))
theorem tb_c7 {w : Cond} (h : w ∈ tables_1_7) : w ∈ lw_tbl := List.mem_append_right _ (List.mem_append_right _ (List.mem_append_right _ (List.mem_append_right _ (List.mem_append_right _ (List.mem_append_right _ (List.mem_append_right _ (List.mem_append_left _ h)))))))
theorem tb_c8 {w : Cond} (h : w ∈ tables_1_8) : w ∈ lw_tbl := List.mem_append_right _ (List.mem_append_right _ (List.mem_append_right _ (List.mem_append_right _ (List.mem_append_right _ (List.mem_append_right _ (List.mem_append_right _ (List.mem_append_right _ (List.mem_append_left _ h))))))))
theorem tb_c9 {w : Cond} (h : w ∈ tables_1_9) : w ∈ lw_tbl := List.mem_append_right _ (List.mem_append_right _ (List.mem_append_right _ (List.mem_append_right _ (List.mem_append_right _ (List.mem_append_right _ (List.mem_append_right _ (List.mem_append_right _ (List.mem_append_right _ (h)))))))))
section FCTS
variable {s : State} {b : Nat}
set_option maxRecDepth 20000 in
theorem fc_N (hts : ∀ w ∈ lw_tbl, w.before #[Value.ref b] s = true) : NWM s := by
  intro q hq
  simp only [nwL, List.mem_cons, List.not_mem_nil, or_false] at hq
  rcases hq with rfl | rfl | rfl | rfl | rfl | rfl | rfl | rfl | rfl | rfl | rfl | rfl | rfl
  · exact va_Nw.of rfl (hts _ (tb_c1 (List.mem_of_getElem? (i := 37) (by decide +kernel))))
  · exact va_Nw.of rfl (hts _ (tb_c1 (List.mem_of_getElem? (i := 60) (by decide +kernel))))
  · exact va_Nw.of rfl (hts _ (tb_c1 (List.mem_of_getElem? (i := 143) (by decide +kernel))))
  · exact va_Nw.of rfl (hts _ (tb_c1 (List.mem_of_getElem? (i := 148) (by decide +kernel))))
  · exact va_Nw.of rfl (hts _ (tb_c2 (List.mem_of_getElem? (i := 38) (by decide +kernel))))
  · exact va_Nw.of rfl (hts _ (tb_c2 (List.mem_of_getElem? (i := 43) (by decide +kernel))))
  · exact va_Nw.of rfl (hts _ (tb_c2 (List.mem_of_getElem? (i := 224) (by decide +kernel))))
  · exact va_Nw.of rfl (hts _ (tb_c4 (List.mem_of_getElem? (i := 112) (by decide +kernel))))
  · exact va_Nw.of rfl (hts _ (tb_c4 (List.mem_of_getElem? (i := 115) (by decide +kernel))))
  · exact va_Nw.of rfl (hts _ (tb_c4 (List.mem_of_getElem? (i := 210) (by decide +kernel))))
  · exact va_Nw.of rfl (hts _ (tb_c4 (List.mem_of_getElem? (i := 211) (by decide +kernel))))
  · exact va_Nw.of rfl (hts _ (tb_c5 (List.mem_of_getElem? (i := 17) (by decide +kernel))))
  · exact va_Nw.of rfl (hts _ (tb_c5 (List.mem_of_getElem? (i := 18) (by decide +kernel))))
set_option maxRecDepth 20000 in
theorem fc_O (hts : ∀ w ∈ lw_tbl, w.before #[Value.ref b] s = true) : (Cond.arrayOver (.array .int)).before #[] s = true := over_moved (Vm.Alike.refl s.vm) (hts _ (tb_c1 (List.mem_of_getElem? (i := 178) (by decide +kernel))))
set_option maxRecDepth 20000 in
theorem fc_K (hts : ∀ w ∈ lw_tbl, w.before #[Value.ref b] s = true) : ∃ (D : va_G) (cA : Nat → ClassId), va_K D vwCl (TY cA) s := by
  have htb : ∀ w ∈ BW, w.before #[Value.ref b] s = true := fun w hw => hts w (bw_tbl hw)
  have hx : ∀ c : Nat, ∃ cd : ClassId × (Nat → Nat), ∀ q, vwCl[c]? = some q → u_Kn s q.1 q.2.1 q.2.2 cd.1 cd.2 := by
    intro c
    by_cases hc : c < 13
    · rcases (show c = 0 ∨ c = 1 ∨ c = 2 ∨ c = 3 ∨ c = 4 ∨ c = 5 ∨ c = 6 ∨ c = 7 ∨ c = 8 ∨ c = 9 ∨ c = 10 ∨ c = 11 ∨ c = 12 by omega) with rfl | rfl | rfl | rfl | rfl | rfl | rfl | rfl | rfl | rfl | rfl | rfl | rfl
      · obtain ⟨cC, iS, hk⟩ := u_known htb inBX0 (hts (.instantiable RX0 14) (tb_c1 (List.mem_of_getElem? (i := 172) (by decide +kernel)))); exact ⟨(cC, iS), fun q hq => by cases hq; exact hk⟩
      · obtain ⟨cC, iS, hk⟩ := u_known htb inBX1 (hts (.instantiable RX1 5) (tb_c2 (List.mem_of_getElem? (i := 197) (by decide +kernel)))); exact ⟨(cC, iS), fun q hq => by cases hq; exact hk⟩
      · obtain ⟨cC, iS, hk⟩ := u_known htb inBX2 (hts (.instantiable RX2 7) (tb_c1 (List.mem_of_getElem? (i := 59) (by decide +kernel)))); exact ⟨(cC, iS), fun q hq => by cases hq; exact hk⟩
      · obtain ⟨cC, iS, hk⟩ := u_known htb inBX3 (hts (.instantiable RX3 14) (tb_c1 (List.mem_of_getElem? (i := 223) (by decide +kernel)))); exact ⟨(cC, iS), fun q hq => by cases hq; exact hk⟩
      · obtain ⟨cC, iS, hk⟩ := u_known htb inBX4 (hts (.instantiable RX4 5) (tb_c1 (List.mem_of_getElem? (i := 142) (by decide +kernel)))); exact ⟨(cC, iS), fun q hq => by cases hq; exact hk⟩
      · obtain ⟨cC, iS, hk⟩ := u_known htb inBX5 (hts (.instantiable RX5 8) (tb_c1 (List.mem_of_getElem? (i := 53) (by decide +kernel)))); exact ⟨(cC, iS), fun q hq => by cases hq; exact hk⟩
      · obtain ⟨cC, iS, hk⟩ := u_known htb inBX6 (hts (.instantiable RX6 17) (tb_c2 (List.mem_of_getElem? (i := 37) (by decide +kernel)))); exact ⟨(cC, iS), fun q hq => by cases hq; exact hk⟩
      · obtain ⟨cC, iS, hk⟩ := u_known htb inBX7 (hts (.instantiable RX7 7) (tb_c2 (List.mem_of_getElem? (i := 223) (by decide +kernel)))); exact ⟨(cC, iS), fun q hq => by cases hq; exact hk⟩
      · obtain ⟨cC, iS, hk⟩ := u_known htb inBX8 (hts (.instantiable RX8 2) (tb_c1 (List.mem_of_getElem? (i := 36) (by decide +kernel)))); exact ⟨(cC, iS), fun q hq => by cases hq; exact hk⟩
      · obtain ⟨cC, iS, hk⟩ := u_known htb inBX9 (hts (.instantiable RX9 5) (tb_c1 (List.mem_of_getElem? (i := 91) (by decide +kernel)))); exact ⟨(cC, iS), fun q hq => by cases hq; exact hk⟩
      · obtain ⟨cC, iS, hk⟩ := u_known htb inBX10 (hts (.instantiable RX10 20) (tb_c2 (List.mem_of_getElem? (i := 119) (by decide +kernel)))); exact ⟨(cC, iS), fun q hq => by cases hq; exact hk⟩
      · obtain ⟨cC, iS, hk⟩ := u_known htb inBX11 (hts (.instantiable RX11 9) (tb_c1 (List.mem_of_getElem? (i := 28) (by decide +kernel)))); exact ⟨(cC, iS), fun q hq => by cases hq; exact hk⟩
      · obtain ⟨cC, iS, hk⟩ := u_known htb inBX12 (hts (.instantiable RX12 82) (tb_c6 (List.mem_of_getElem? (i := 167) (by decide +kernel)))); exact ⟨(cC, iS), fun q hq => by cases hq; exact hk⟩
    · exact ⟨(0, fun _ => 0), fun q hq => by have := (List.getElem?_eq_some_iff.mp hq).1; exact absurd this hc⟩
  obtain ⟨f, hf⟩ := Classical.axiomOfChoice hx
  obtain ⟨c0, k0, m0, p0, q0, r0⟩ := Cond.arrayClass_spec (hts (.arrayClass .int) (tb_c1 (List.mem_of_getElem? (i := 89) (by decide +kernel))))
  obtain ⟨c1, k1, m1, p1, q1, r1⟩ := Cond.arrayClass_spec (hts (.arrayClass .char) (tb_c1 (List.mem_of_getElem? (i := 51) (by decide +kernel))))
  obtain ⟨c2, k2, m2, p2, q2, r2⟩ := Cond.arrayClass_spec (hts (.arrayClass .boolean) (tb_c7 (List.mem_of_getElem? (i := 179) (by decide +kernel))))
  obtain ⟨c3, k3, m3, p3, q3, r3⟩ := Cond.arrayClass_spec (hts (.arrayClass .long) (tb_c9 (List.mem_of_getElem? (i := 90) (by decide +kernel))))
  obtain ⟨m4, c4, k4, -, -, q4, r4, p4⟩ := arrayOverA_spec (fc_O hts)
  refine ⟨(fun c => (f c).1, fun c => (f c).2), fun t => match t with | 0 => c0 | 1 => c1 | 2 => c2 | 3 => c3 | _ => c4, fun c q hq => hf c q hq, fun k q hq => ?_⟩
  have hk : k < 5 := (List.getElem?_eq_some_iff.mp hq).1
  rcases (show k = 0 ∨ k = 1 ∨ k = 2 ∨ k = 3 ∨ k = 4 by omega) with rfl | rfl | rfl | rfl | rfl
  · cases hq; exact ⟨fun n z => ⟨fun k h => (by cases h), k0, q0, m0, r0⟩, p0⟩
  · cases hq; exact ⟨fun n z => ⟨fun k h => (by cases h), k1, q1, m1, r1⟩, p1⟩
  · cases hq; exact ⟨fun n z => ⟨fun k h => (by cases h), k2, q2, m2, r2⟩, p2⟩
  · cases hq; exact ⟨fun n z => ⟨fun k h => (by cases h), k3, q3, m3, r3⟩, p3⟩
  · cases hq; exact ⟨fun n z => ⟨fun k h => (by cases h), k4, q4, m4, r4⟩, p4⟩
def tmS (i : Nat) : Term := .string "OldLift$Tokens" (if i = 0 then 57 else 67)
set_option maxRecDepth 20000 in
theorem fc_S (hts : ∀ w ∈ lw_tbl, w.before #[Value.ref b] s = true) (hgv : (Jvm.Cond.and given_1 narrow_1).before #[Value.ref b] s = true) : ∃ ad : Nat → Nat, STR 0 ad s ∧ ad 4000 = b := by
  have hs := flat_of_before _ hgv
  have hA : ∀ a : Nat, a < s.heap.size → ¬ (fun q : Nat => s.heap.size ≤ q) a := fun a h1 h2 => by
    have : s.heap.size ≤ a := h2
    omega
  have two : ∀ {Pr : Nat → Prop}, Pr 0 → Pr 1 → ∀ i, i < 2 → Pr i := fun h0 h1 i hi => by
    rcases (show i = 0 ∨ i = 1 by omega) with rfl | rfl
    · exact h0
    · exact h1
  obtain ⟨adK, adV, hS, hE⟩ := vk_Sof (args := #[Value.ref b]) (s := s) (N := 2) (tm := tmS) (len := lenS) (byt := bytS) (A := fun q => s.heap.size ≤ q) (two (by decide) (by decide)) (two (hs _ (by decide +kernel)) (hs _ (by decide +kernel))) (two (hs _ (by decide +kernel)) (hs _ (by decide +kernel))) (two (hs _ (by decide +kernel)) (hs _ (by decide +kernel))) (two (hs _ (by decide +kernel)) (hs _ (by decide +kernel)))
    (two (fun j hj => hs _ ((show ∀ j, j < 8 → Cond.eq (.elem (.field (tmS 0) "java/lang/String" "value" "[B") (.int (Int32.ofNat j))) (.int ((bytS.getD 0 []).getD j 0)) ∈ flatC (Jvm.Cond.and given_1 narrow_1) by decide +kernel) j hj)) (fun j hj => hs _ ((show ∀ j, j < 108 → Cond.eq (.elem (.field (tmS 1) "java/lang/String" "value" "[B") (.int (Int32.ofNat j))) (.int ((bytS.getD 1 []).getD j 0)) ∈ flatC (Jvm.Cond.and given_1 narrow_1) by decide +kernel) j hj)))
    (fun i j hi hj ne => by
      have c : (Cond.not (Cond.eq (tmS 0) (tmS 1))).before #[Value.ref b] s = true ∨ (Cond.not (Cond.eq (tmS 1) (tmS 0))).before #[Value.ref b] s = true := by
        first | exact Or.inl (hs _ (by decide +kernel)) | exact Or.inr (hs _ (by decide +kernel))
      rcases (show (i = 0 ∧ j = 1) ∨ (i = 1 ∧ j = 0) by omega) with ⟨rfl, rfl⟩ | ⟨rfl, rfl⟩
      · exact c
      · exact c.symm) hA
  have hC := va_Zof (A := fun q => s.heap.size ≤ q) (v := .int 1) (hts (.laysStatic "java/lang/String" "COMPACT_STRINGS" "Z") (tb_c3 (List.mem_of_getElem? (i := 141) (by decide +kernel)))) (hts (.initialized "java/lang/String") (tb_c1 (List.mem_of_getElem? (i := 15) (by decide +kernel)))) (va_eqt (hs (.eq (.static "java/lang/String" "COMPACT_STRINGS" "Z") (.int 1)) (by decide +kernel))) hA
  have hQ := va_Zqof (A := fun q => s.heap.size ≤ q) (hts (.laysStatic "jdk/internal/util/Preconditions" "SIOOBE_FORMATTER" "Ljava/util/function/BiFunction;") (tb_c3 (List.mem_of_getElem? (i := 157) (by decide +kernel)))) (hts (.initialized "jdk/internal/util/Preconditions") (tb_c1 (List.mem_of_getElem? (i := 17) (by decide +kernel)))) (hs (.isRef (.static "jdk/internal/util/Preconditions" "SIOOBE_FORMATTER" "Ljava/util/function/BiFunction;")) (by decide +kernel)) hA
  have h57 := vk_R.of (hts (.stringRef "OldLift$Tokens" 57 "()<=+-*;") (tb_c3 (List.mem_of_getElem? (i := 184) (by decide +kernel)))) (hE 0 (by omega))
  have h67 := vk_R.of (hts (.stringRef "OldLift$Tokens" 67 "relay up down door lamp never not and or call at open any far load stops toward idle floor from to car time ") (tb_c3 (List.mem_of_getElem? (i := 131) (by decide +kernel)))) (hE 1 (by omega))
  have key : ∀ t : Nat, (va_Z "jdk/internal/util/Preconditions" "SIOOBE_FORMATTER" "Ljava/util/function/BiFunction;" .null (fun q => s.heap.size ≤ q) s s.heap ∨ va_Z "jdk/internal/util/Preconditions" "SIOOBE_FORMATTER" "Ljava/util/function/BiFunction;" (.ref t) (fun q => s.heap.size ≤ q) s s.heap) → ∃ ad : Nat → Nat, STR 0 ad s ∧ ad 4000 = b := fun t ht => by
    refine ⟨fun k => if k = 1000 then adK 0 else if k = 1001 then adK 1 else if k = 2000 then adV 0 else if k = 2001 then adV 1 else if k = 3000 then t else b, ⟨⟨fun i hi => ?_, fun i j hi hj z => ?_⟩, h57, h67, hC.narrow ?_, ?_⟩, rfl⟩
    · rcases (show i = 0 ∨ i = 1 by omega) with rfl | rfl
      · exact (hS.narrow (B := AD 0 _ s.heap.size) (fun q z => z.elim (fun ⟨k, k1, _⟩ => absurd k1 (Nat.not_lt_zero k)) id)).1 0 (by omega)
      · exact (hS.narrow (B := AD 0 _ s.heap.size) (fun q z => z.elim (fun ⟨k, k1, _⟩ => absurd k1 (Nat.not_lt_zero k)) id)).1 1 (by omega)
    · rcases (show i = 0 ∨ i = 1 by omega) with rfl | rfl <;> rcases (show j = 0 ∨ j = 1 by omega) with rfl | rfl
      · rfl
      · exact hS.2 0 1 (by omega) (by omega) z
      · exact hS.2 1 0 (by omega) (by omega) z
      · rfl
    · exact fun q z => z.elim (fun ⟨k, k1, _⟩ => absurd k1 (Nat.not_lt_zero k)) id
    · rcases ht with ht | ht
      · exact Or.inl (ht.narrow (fun q z => z.elim (fun ⟨k, k1, _⟩ => absurd k1 (Nat.not_lt_zero k)) id))
      · exact Or.inr (ht.narrow (fun q z => z.elim (fun ⟨k, k1, _⟩ => absurd k1 (Nat.not_lt_zero k)) id))
  rcases hQ with hQ | ⟨t, hQ⟩
  · exact key 0 (Or.inl hQ)
  · exact key t (Or.inr hQ)
end FCTS
