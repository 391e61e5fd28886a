theorem V_alen4 {X : CT} {B : Nat} {cc : ByteArray} {nL : Nat} {own : String} {ret : Option FieldType} {fr lo : Nat} {Q : State → Prop} {h : PH} {pc : Nat} {lv : List (Option Value)} {st : List Value} (C : CX X B cc nL own ret fr lo) {k0 n b : Nat} {v : Int32} (d : decode cc pc = .ok (.arraylength, 1)) (ak : AK B k0 4 n b) (hv : Int32.ofNat n = v) (k : V X Q h (pc + 1) lv (.int v :: st)) : V X Q h pc lv (.ref k0 :: st) := by
  obtain ⟨p, e, R, s, m, args, below, meth, c, l, D, ad, cA, nh⟩ := X
  obtain ⟨hx, hb, hml, hown, hts, hret, hlocks, hK, hI, hN, hfr, hlo, hB⟩ := C
  intro H locs ls hP hS hl
  have he := WD_get (nh := nh) (ad := ad) (cA := cA) (h := h) (Nat.lt_of_lt_of_le ak.1 hB)
  rw [ak.2] at he
  exact va_alen hx hb hK hP k0 4 he (ty := .array .int) rfl hv d (k H locs ls hP hS hl)
