/-! the law's walk over LOOK -/
theorem STR_ad {ad0 ad : Nat → Nat} {s : State} (h : STR 0 ad0 s) (ha : ∀ k, 1000 ≤ k → ad k = ad0 k) : STR 0 ad s := by
  obtain ⟨h1, h2, h3, h4, h5⟩ := h
  have e1 : (fun i => ad (1000 + i)) = fun i => ad0 (1000 + i) := funext fun i => ha _ (by omega)
  have e2 : (fun i => ad (2000 + i)) = fun i => ad0 (2000 + i) := funext fun i => ha _ (by omega)
  have hn : ∀ q, AD 0 ad s.heap.size q → AD 0 ad0 s.heap.size q := fun q z => z.elim (fun ⟨k, k1, _⟩ => absurd k1 (Nat.not_lt_zero k)) Or.inr
  unfold STR
  rw [e1, e2, ha 1000 (by omega), ha 1001 (by omega), ha 3000 (by omega)]
  refine ⟨h1.narrow hn, h2, h3, h4.narrow hn, ?_⟩
  rcases h5 with h5 | h5
  · exact Or.inl (h5.narrow hn)
  · exact Or.inr (h5.narrow hn)
theorem kend_x {p : Program} {e : Env} {s : State} {m : MethodId} {below : List Frame} {meth : Method} {c : Code} {l : Launch} {b Ln : Nat} {xs : Nat → Int32} {D : va_G} {ad : Nat → Nat} {cA : Nat → ClassId} (C : CLW (p, e, room_1, s, m, #[Value.ref b], below, meth, c, l, D, ad, cA, 154) Ln xs) : ∀ B h, B ≤ 512 → VL (p, e, room_1, s, m, #[Value.ref b], below, meth, c, l, D, ad, cA, 154) (154 + B) (S0L + 6 * B) (lw_Z below #[Value.ref b] s) h 1348 (lvL (7 * B)) [] := by
  obtain ⟨hx, hb, hml, hown, hts, hret, hlocks, -⟩ := C
  intro B h hB H locs ls hP hS hl
  refine lv_iconst (v := 1) hx hb dL_law_1348 (by decide) ?_
  refine va_forget (fun q hq => (hS.2.2 q hq).elim (fun ⟨k, k1, _⟩ => absurd k1 (Nat.not_lt_zero k)) id) ?_
  refine W.widen (k := 601024) (n := 7293034) (by omega) (by show 133792 + 6 * B ≤ 7293034; omega) ?_
  exact lw_ret hx hb hret hlocks dL_law_1349
theorem whole_open {p : Program} {e : Env} {s : State} {m : MethodId} {below : List Frame} {meth : Method} {c : Code} (l : Launch) {b L : Nat} {xs : Nat → Int32} (hL : L ≤ 3584) (C0 : lw_At p s m meth c b L xs)
    (lk : ∀ (D : va_G) (ad : Nat → Nat) (cA : Nat → ClassId), CLW (p, e, room_1, s, m, #[Value.ref b], below, meth, c, l, D, ad, cA, 154) L xs → LOOK (p, e, room_1, s, m, #[Value.ref b], below, meth, c, l, D, ad, cA, 154) (lw_Z below #[Value.ref b] s)) : W p l e room_1 s m #[Value.ref b] below meth c s.heap [] 0 0 (lw_Z below #[Value.ref b] s) (entryFrame m ([Value.ref b] : List Value).toArray 7) := by
  obtain ⟨hx, hb, hr, hml, hown, hts, hX, hbl, hlk, hgv⟩ := C0
  obtain ⟨D, cA, hK⟩ := fc_K hts
  obtain ⟨ad0, hS, h4⟩ := fc_S hts hgv
  have hN := fc_N hts
  have hO := fc_O hts
  have htb : ∀ w ∈ BW, w.before #[Value.ref b] s = true := fun w hw => hts w (bw_tbl hw)
  have C : CB (p, e, room_1, s, m, #[Value.ref b], below, meth, c, l, D, ad0, cA, 0) cL_law 7 RL 2048 84000 601024 7293034 := ⟨hx, hb, hml, hown, htb, hK, hN, Nat.le_refl _, Nat.le_refl _, Nat.le_refl _, Nat.le_refl _⟩
  have key := LSTART (Q := lw_Z below #[Value.ref b] s) C hS hO (fun ad h hB I => by
    have hk : ∀ k, k < 154 → k ∈ ([0, 1, 2, 3, 4, 5, 6, 7, 8, 9, 10, 11, 12, 13, 14, 15, 16, 17, 18, 19, 20, 21, 22, 23, 24, 25, 26, 27, 28, 29, 30, 31, 32, 33, 34, 35, 36, 37, 38, 39, 40, 41, 42, 43, 44, 45, 46, 47, 48, 49, 50, 51, 58, 59, 60, 61, 62, 63, 52, 53, 54, 55, 56, 57, 64, 65, 66, 67, 68, 69, 70, 71, 72, 73, 74, 75, 76, 77, 78, 79, 80, 81, 82, 83, 84, 85, 86, 87, 88, 89, 90, 91, 92, 93, 94, 95, 96, 97, 98, 99, 100, 101, 102, 103, 104, 105, 106, 107, 108, 109, 110, 111, 112, 113, 114, 115, 116, 117, 118, 119, 120, 121, 122, 123, 124, 125, 126, 127, 128, 129, 130, 131, 132, 133, 134, 135, 136, 137, 138, 139, 140, 141, 142, 143, 144, 145, 146, 147, 148, 149, 150, 151, 152, 153] : List Nat) := by decide +kernel
    have hk2 : ∀ k ∈ ([0, 1, 2, 3, 4, 5, 6, 7, 8, 9, 10, 11, 12, 13, 14, 15, 16, 17, 18, 19, 20, 21, 22, 23, 24, 25, 26, 27, 28, 29, 30, 31, 32, 33, 34, 35, 36, 37, 38, 39, 40, 41, 42, 43, 44, 45, 46, 47, 48, 49, 50, 51, 58, 59, 60, 61, 62, 63, 52, 53, 54, 55, 56, 57, 64, 65, 66, 67, 68, 69, 70, 71, 72, 73, 74, 75, 76, 77, 78, 79, 80, 81, 82, 83, 84, 85, 86, 87, 88, 89, 90, 91, 92, 93, 94, 95, 96, 97, 98, 99, 100, 101, 102, 103, 104, 105, 106, 107, 108, 109, 110, 111, 112, 113, 114, 115, 116, 117, 118, 119, 120, 121, 122, 123, 124, 125, 126, 127, 128, 129, 130, 131, 132, 133, 134, 135, 136, 137, 138, 139, 140, 141, 142, 143, 144, 145, 146, 147, 148, 149, 150, 151, 152, 153] : List Nat), k < 154 := by decide +kernel
    have hB : BD [] [0, 1, 2, 3, 4, 5, 6, 7, 8, 9, 10, 11, 12, 13, 14, 15, 16, 17, 18, 19, 20, 21, 22, 23, 24, 25, 26, 27, 28, 29, 30, 31, 32, 33, 34, 35, 36, 37, 38, 39, 40, 41, 42, 43, 44, 45, 46, 47, 48, 49, 50, 51, 58, 59, 60, 61, 62, 63, 52, 53, 54, 55, 56, 57, 64, 65, 66, 67, 68, 69, 70, 71, 72, 73, 74, 75, 76, 77, 78, 79, 80, 81, 82, 83, 84, 85, 86, 87, 88, 89, 90, 91, 92, 93, 94, 95, 96, 97, 98, 99, 100, 101, 102, 103, 104, 105, 106, 107, 108, 109, 110, 111, 112, 113, 114, 115, 116, 117, 118, 119, 120, 121, 122, 123, 124, 125, 126, 127, 128, 129, 130, 131, 132, 133, 134, 135, 136, 137, 138, 139, 140, 141, 142, 143, 144, 145, 146, 147, 148, 149, 150, 151, 152, 153] ad0 ad s.heap.size := hB
    have ha : ∀ k, 1000 ≤ k → ad k = ad0 k := fun k q => hB.2.2.1 k (Or.inr (fun z => by have := hk2 k z; omega))
    have hge : ∀ k, k < 154 → s.heap.size ≤ ad k := fun k q => (hB.2.2.2.1 k (hk k q)).elim (fun z => absurd z List.not_mem_nil) id
    have e4 : ad 4000 = b := (ha 4000 (by omega)).trans h4
    have C2 : CLW (p, e, room_1, s, m, #[Value.ref b], below, meth, c, l, D, ad, cA, 154) L xs := ⟨hx, hb, hml, hown, htb, hr, hlk, hK, fun i j hi hj z => hB.2.1 i j (hk i hi) (hk j hj) z, ⟨hN, STR_ad hS ha⟩, Nat.le_refl _, Nat.le_refl _, Nat.le_refl _, hge, Nat.le_refl _, Nat.le_refl _, by rw [e4]; exact hX, by rw [e4]; exact hbl⟩
    exact LLP C2 hL (lk D ad cA C2) (kend_x C2) 512 0 h rfl I)
  have hl := lv_entry ([Value.ref b] : List Value) (n := 7) (Nat.le_of_ble_eq_true rfl)
  have e5 : ([Value.ref 4000] : List Value).map (tr ad0) = [Value.ref b] := by show [Value.ref (ad0 4000)] = _; rw [h4]
  rw [lg_entry_eq]
  generalize (lg_sl ([Value.ref b] : List Value) ++ List.replicate (7 - (lg_sl ([Value.ref b] : List Value)).length) Slot.unset).toArray = ls at hl ⊢
  exact key ad0 s.heap [] ls ⟨List.nodup_nil, fun i j hi => absurd hi List.not_mem_nil, fun _ _ => rfl, fun k hk => absurd hk List.not_mem_nil, fun k hk => hk⟩ (PBo (fun k mk => absurd mk List.not_mem_nil)) va_S.rf (by show LV ad0 ls c.maxLocals _; rw [hml]; exact LV.start (vs := [.ref 4000]) (k := 6) (by rw [e5]; exact hl))
