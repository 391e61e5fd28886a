/-! the good words of the tables: every method of the two systems has these -/
def BW : List Cond := lw_tbl.filter goodWord
theorem bw_of {w : Cond} (i : Nat) (h : lw_tbl[i]? = some w) (hg : goodWord w = true) : w ∈ BW := List.mem_filter.mpr ⟨List.mem_of_getElem? h, hg⟩
theorem bw_good {w : Cond} (h : w ∈ BW) : goodWord w = true := (List.mem_filter.mp h).2
theorem bw_tbl {w : Cond} (h : w ∈ BW) : w ∈ lw_tbl := (List.mem_filter.mp h).1
theorem bw_in : GoodIn BW BW := fun _ h => ⟨h, good_of_word (bw_good h)⟩
theorem bw_cons {b : Cond} (hb : b ∈ BW) : GoodIn BW (b :: BW) := fun w h => by
  rcases List.mem_cons.mp h with rfl | h
  · exact ⟨hb, good_of_word (bw_good hb)⟩
  · exact ⟨h, good_of_word (bw_good h)⟩
/-! what the cells hold: ints (fields and places of arrays) and longs, by the cell's number and the place -/
abbrev PH : Type := (Nat → Nat → Int32) × (Nat → Nat → Int64)
/-- a cell's shape: an object (its class, of each field: 0 an int, 1 a long, r + 2 the cell r) or an array (its type's number, its length, the number of its first row) -/
abbrev SH : Type := (Nat × List Nat) ⊕ (Nat × Nat × Nat)
def hs (h : PH) (k j : Nat) (x : Int32) : PH := (fun a => if a = k then upd (h.1 a) j x else h.1 a, h.2)
def hsL (h : PH) (k j : Nat) (x : Int64) : PH := (h.1, fun a => if a = k then vp_updL (h.2 a) j x else h.2 a)
def hsA (h : PH) (k : Nat) (f : Nat → Int32) : PH := (fun a => if a = k then f else h.1 a, h.2)
def tr (ad : Nat → Nat) : Value → Value
  | .ref k => .ref (ad k)
  | v => v
def fv (ad : Nat → Nat) (h : PH) (k j q : Nat) : Value := match q with
  | 0 => .int (h.1 k j)
  | 1 => .long (h.2 k j)
  | r + 2 => .ref (ad r)
def tyN : Nat → FieldType
  | 0 => .int
  | 1 => .char
  | 2 => .boolean
  | 3 => .long
  | _ => .array .int
def cellE (ad : Nat → Nat) (cA : Nat → ClassId) (h : PH) (k : Nat) (s : SH) : va_E := match s with
  | .inl (ci, fl) => .inr (ci, fl.mapIdx (fun j q => fv ad h k j q))
  | .inr (0, n, _) => .inl (cA 0, n, .inl (h.1 k))
  | .inr (1, n, _) => .inl (cA 1, n, .inl (h.1 k))
  | .inr (2, n, _) => .inl (cA 2, n, .inl (h.1 k))
  | .inr (3, n, _) => .inl (cA 3, n, .inr (.inl (h.2 k)))
  | .inr (_, n, b) => .inl (cA 4, n, .inr (.inr (.inr (.inr (fun i => if i < n then some (ad (b + i)) else none)))))

def shL : List SH := [.inl (11, [3, 5, 16, 23, 41, 53, 66, 82, 101]),
  .inl (8, [4, 0]),
  .inr (1, 1000, 0),
  .inl (5, [6, 12, 0, 0, 0, 0, 0, 0]),
  .inl (2, [7, 0, 8, 9, 10, 11, 0]),
  .inr (0, 10, 0),
  .inr (0, 1000, 0),
  .inr (0, 25, 0),
  .inr (0, 25, 0),
  .inr (0, 32, 0),
  .inl (9, [13, 14, 15, 3, 0]),
  .inr (0, 1001, 0),
  .inr (0, 1001, 0),
  .inr (0, 1001, 0),
  .inl (4, [17, 0, 0, 0, 0]),
  .inl (2, [18, 0, 19, 20, 21, 22, 0]),
  .inr (0, 10, 0),
  .inr (0, 1000, 0),
  .inr (0, 25, 0),
  .inr (0, 25, 0),
  .inr (0, 32, 0),
  .inl (0, [16, 24, 25, 32, 33, 34, 35, 36, 37, 38, 39, 40, 0, 0]),
  .inr (0, 6, 0),
  .inr (4, 6, 24),
  .inr (0, 61, 0),
  .inr (0, 61, 0),
  .inr (0, 61, 0),
  .inr (0, 61, 0),
  .inr (0, 61, 0),
  .inr (0, 61, 0),
  .inr (0, 3072, 0),
  .inr (0, 4096, 0),
  .inr (0, 3072, 0),
  .inr (0, 3072, 0),
  .inr (0, 3072, 0),
  .inr (0, 3072, 0),
  .inr (0, 21504, 0),
  .inr (0, 3072, 0),
  .inr (0, 3072, 0),
  .inl (3, [0, 0, 0, 0, 23, 42, 43, 44, 45, 46, 47, 50, 0, 0]),
  .inr (0, 256, 0),
  .inr (0, 256, 0),
  .inr (0, 3072, 0),
  .inr (0, 3072, 0),
  .inr (0, 3072, 0),
  .inr (4, 2, 46),
  .inr (0, 3072, 0),
  .inr (0, 3072, 0),
  .inr (4, 2, 49),
  .inr (0, 256, 0),
  .inr (0, 256, 0),
  .inl (6, [60, 54, 55, 56, 57, 58, 59, 0, 0, 0, 0, 0, 0, 0, 0, 0, 0]),
  .inr (0, 24, 0),
  .inr (0, 24, 0),
  .inr (0, 24, 0),
  .inr (0, 8, 0),
  .inr (0, 8, 0),
  .inr (0, 8, 0),
  .inl (2, [61, 0, 62, 63, 64, 65, 0]),
  .inr (0, 10, 0),
  .inr (0, 1000, 0),
  .inr (0, 25, 0),
  .inr (0, 25, 0),
  .inr (0, 32, 0),
  .inl (10, [67, 68, 69, 70, 71, 72, 0, 0, 0, 53, 75, 76, 77, 78, 79, 80, 81, 0, 0, 0]),
  .inr (0, 24, 0),
  .inr (0, 24, 0),
  .inr (0, 24, 0),
  .inr (0, 24, 0),
  .inr (0, 2, 0),
  .inr (4, 2, 71),
  .inr (0, 5, 0),
  .inr (0, 5, 0),
  .inr (0, 2, 0),
  .inr (0, 2, 0),
  .inr (0, 2, 0),
  .inr (0, 2, 0),
  .inr (0, 2, 0),
  .inr (0, 6, 0),
  .inr (0, 6, 0),
  .inl (1, [83, 84, 53, 85, 0]),
  .inr (0, 3, 0),
  .inr (0, 3, 0),
  .inl (10, [86, 87, 88, 89, 90, 91, 0, 0, 0, 53, 94, 95, 96, 97, 98, 99, 100, 0, 0, 0]),
  .inr (0, 24, 0),
  .inr (0, 24, 0),
  .inr (0, 24, 0),
  .inr (0, 24, 0),
  .inr (0, 2, 0),
  .inr (4, 2, 90),
  .inr (0, 5, 0),
  .inr (0, 5, 0),
  .inr (0, 2, 0),
  .inr (0, 2, 0),
  .inr (0, 2, 0),
  .inr (0, 2, 0),
  .inr (0, 2, 0),
  .inr (0, 6, 0),
  .inr (0, 6, 0),
  .inl (7, [0, 102, 103, 104, 0, 0, 0]),
  .inr (0, 40, 0),
  .inr (0, 40, 0),
  .inr (0, 40, 0),
  .inl (12, [0, 0, 0, 106, 0, 0, 0, 0, 1, 0, 0, 107, 108, 109, 110, 111, 112, 113, 0, 0, 0, 114, 115, 116, 117, 118, 119, 120, 121, 122, 123, 124, 125, 0, 0, 0, 0, 0, 0, 126, 127, 128, 129, 130, 131, 132, 0, 133, 134, 135, 0, 136, 137, 0, 0, 0, 0, 0, 138, 139, 140, 0, 141, 142, 143, 0, 144, 145, 146, 147, 148, 149, 150, 151, 0, 0, 152, 153, 154, 0, 0, 0]),
  .inr (0, 1000, 0),
  .inr (2, 26, 0),
  .inr (0, 26, 0),
  .inr (0, 26, 0),
  .inr (2, 26, 0),
  .inr (0, 26, 0),
  .inr (0, 26, 0),
  .inr (0, 4000, 0),
  .inr (0, 7, 0),
  .inr (2, 7, 0),
  .inr (0, 7, 0),
  .inr (0, 7, 0),
  .inr (0, 7, 0),
  .inr (0, 7, 0),
  .inr (0, 7, 0),
  .inr (0, 7, 0),
  .inr (0, 7, 0),
  .inr (0, 7, 0),
  .inr (0, 7, 0),
  .inr (0, 60, 0),
  .inr (0, 3072, 0),
  .inr (0, 3072, 0),
  .inr (0, 3072, 0),
  .inr (0, 3072, 0),
  .inr (2, 3072, 0),
  .inr (0, 21504, 0),
  .inr (0, 3072, 0),
  .inr (0, 12288, 0),
  .inr (0, 4, 0),
  .inr (0, 3072, 0),
  .inr (0, 1024, 0),
  .inr (0, 4, 0),
  .inr (0, 24, 0),
  .inr (0, 24, 0),
  .inr (0, 24, 0),
  .inr (0, 8, 0),
  .inr (0, 8, 0),
  .inr (0, 8, 0),
  .inr (0, 24, 0),
  .inr (0, 24, 0),
  .inr (0, 24, 0),
  .inr (0, 2, 0),
  .inr (0, 2, 0),
  .inr (0, 2, 0),
  .inr (0, 10, 0),
  .inr (0, 2, 0),
  .inr (0, 40, 0),
  .inr (0, 40, 0),
  .inr (0, 40, 0),
  .inr (3, 1, 0)]
def sh (k : Nat) : SH := shL.getD k (.inr (0, 0, 0))
abbrev NH : Nat := 154
theorem sh_0 : sh 0 = .inl (11, [3, 5, 16, 23, 41, 53, 66, 82, 101]) := by decide +kernel
theorem sh_1 : sh 1 = .inl (8, [4, 0]) := by decide +kernel
theorem sh_2 : sh 2 = .inr (1, 1000, 0) := by decide +kernel
theorem sh_3 : sh 3 = .inl (5, [6, 12, 0, 0, 0, 0, 0, 0]) := by decide +kernel
theorem sh_4 : sh 4 = .inl (2, [7, 0, 8, 9, 10, 11, 0]) := by decide +kernel
theorem sh_5 : sh 5 = .inr (0, 10, 0) := by decide +kernel
theorem sh_6 : sh 6 = .inr (0, 1000, 0) := by decide +kernel
theorem sh_7 : sh 7 = .inr (0, 25, 0) := by decide +kernel
theorem sh_8 : sh 8 = .inr (0, 25, 0) := by decide +kernel
theorem sh_9 : sh 9 = .inr (0, 32, 0) := by decide +kernel
theorem sh_10 : sh 10 = .inl (9, [13, 14, 15, 3, 0]) := by decide +kernel
theorem sh_11 : sh 11 = .inr (0, 1001, 0) := by decide +kernel
theorem sh_12 : sh 12 = .inr (0, 1001, 0) := by decide +kernel
theorem sh_13 : sh 13 = .inr (0, 1001, 0) := by decide +kernel
theorem sh_14 : sh 14 = .inl (4, [17, 0, 0, 0, 0]) := by decide +kernel
theorem sh_15 : sh 15 = .inl (2, [18, 0, 19, 20, 21, 22, 0]) := by decide +kernel
theorem sh_16 : sh 16 = .inr (0, 10, 0) := by decide +kernel
theorem sh_17 : sh 17 = .inr (0, 1000, 0) := by decide +kernel
theorem sh_18 : sh 18 = .inr (0, 25, 0) := by decide +kernel
theorem sh_19 : sh 19 = .inr (0, 25, 0) := by decide +kernel
theorem sh_20 : sh 20 = .inr (0, 32, 0) := by decide +kernel
theorem sh_21 : sh 21 = .inl (0, [16, 24, 25, 32, 33, 34, 35, 36, 37, 38, 39, 40, 0, 0]) := by decide +kernel
theorem sh_22 : sh 22 = .inr (0, 6, 0) := by decide +kernel
theorem sh_23 : sh 23 = .inr (4, 6, 24) := by decide +kernel
theorem sh_24 : sh 24 = .inr (0, 61, 0) := by decide +kernel
theorem sh_25 : sh 25 = .inr (0, 61, 0) := by decide +kernel
theorem sh_26 : sh 26 = .inr (0, 61, 0) := by decide +kernel
theorem sh_27 : sh 27 = .inr (0, 61, 0) := by decide +kernel
theorem sh_28 : sh 28 = .inr (0, 61, 0) := by decide +kernel
theorem sh_29 : sh 29 = .inr (0, 61, 0) := by decide +kernel
theorem sh_30 : sh 30 = .inr (0, 3072, 0) := by decide +kernel
theorem sh_31 : sh 31 = .inr (0, 4096, 0) := by decide +kernel
theorem sh_32 : sh 32 = .inr (0, 3072, 0) := by decide +kernel
theorem sh_33 : sh 33 = .inr (0, 3072, 0) := by decide +kernel
theorem sh_34 : sh 34 = .inr (0, 3072, 0) := by decide +kernel
theorem sh_35 : sh 35 = .inr (0, 3072, 0) := by decide +kernel
theorem sh_36 : sh 36 = .inr (0, 21504, 0) := by decide +kernel
theorem sh_37 : sh 37 = .inr (0, 3072, 0) := by decide +kernel
theorem sh_38 : sh 38 = .inr (0, 3072, 0) := by decide +kernel
theorem sh_39 : sh 39 = .inl (3, [0, 0, 0, 0, 23, 42, 43, 44, 45, 46, 47, 50, 0, 0]) := by decide +kernel
theorem sh_40 : sh 40 = .inr (0, 256, 0) := by decide +kernel
theorem sh_41 : sh 41 = .inr (0, 256, 0) := by decide +kernel
theorem sh_42 : sh 42 = .inr (0, 3072, 0) := by decide +kernel
theorem sh_43 : sh 43 = .inr (0, 3072, 0) := by decide +kernel
theorem sh_44 : sh 44 = .inr (0, 3072, 0) := by decide +kernel
theorem sh_45 : sh 45 = .inr (4, 2, 46) := by decide +kernel
theorem sh_46 : sh 46 = .inr (0, 3072, 0) := by decide +kernel
theorem sh_47 : sh 47 = .inr (0, 3072, 0) := by decide +kernel
theorem sh_48 : sh 48 = .inr (4, 2, 49) := by decide +kernel
theorem sh_49 : sh 49 = .inr (0, 256, 0) := by decide +kernel
theorem sh_50 : sh 50 = .inr (0, 256, 0) := by decide +kernel
theorem sh_51 : sh 51 = .inl (6, [60, 54, 55, 56, 57, 58, 59, 0, 0, 0, 0, 0, 0, 0, 0, 0, 0]) := by decide +kernel
theorem sh_52 : sh 52 = .inr (0, 24, 0) := by decide +kernel
theorem sh_53 : sh 53 = .inr (0, 24, 0) := by decide +kernel
theorem sh_54 : sh 54 = .inr (0, 24, 0) := by decide +kernel
theorem sh_55 : sh 55 = .inr (0, 8, 0) := by decide +kernel
theorem sh_56 : sh 56 = .inr (0, 8, 0) := by decide +kernel
theorem sh_57 : sh 57 = .inr (0, 8, 0) := by decide +kernel
theorem sh_58 : sh 58 = .inl (2, [61, 0, 62, 63, 64, 65, 0]) := by decide +kernel
theorem sh_59 : sh 59 = .inr (0, 10, 0) := by decide +kernel
theorem sh_60 : sh 60 = .inr (0, 1000, 0) := by decide +kernel
theorem sh_61 : sh 61 = .inr (0, 25, 0) := by decide +kernel
theorem sh_62 : sh 62 = .inr (0, 25, 0) := by decide +kernel
theorem sh_63 : sh 63 = .inr (0, 32, 0) := by decide +kernel
theorem sh_64 : sh 64 = .inl (10, [67, 68, 69, 70, 71, 72, 0, 0, 0, 53, 75, 76, 77, 78, 79, 80, 81, 0, 0, 0]) := by decide +kernel
theorem sh_65 : sh 65 = .inr (0, 24, 0) := by decide +kernel
theorem sh_66 : sh 66 = .inr (0, 24, 0) := by decide +kernel
theorem sh_67 : sh 67 = .inr (0, 24, 0) := by decide +kernel
theorem sh_68 : sh 68 = .inr (0, 24, 0) := by decide +kernel
theorem sh_69 : sh 69 = .inr (0, 2, 0) := by decide +kernel
theorem sh_70 : sh 70 = .inr (4, 2, 71) := by decide +kernel
theorem sh_71 : sh 71 = .inr (0, 5, 0) := by decide +kernel
theorem sh_72 : sh 72 = .inr (0, 5, 0) := by decide +kernel
theorem sh_73 : sh 73 = .inr (0, 2, 0) := by decide +kernel
theorem sh_74 : sh 74 = .inr (0, 2, 0) := by decide +kernel
theorem sh_75 : sh 75 = .inr (0, 2, 0) := by decide +kernel
theorem sh_76 : sh 76 = .inr (0, 2, 0) := by decide +kernel
theorem sh_77 : sh 77 = .inr (0, 2, 0) := by decide +kernel
theorem sh_78 : sh 78 = .inr (0, 6, 0) := by decide +kernel
theorem sh_79 : sh 79 = .inr (0, 6, 0) := by decide +kernel
theorem sh_80 : sh 80 = .inl (1, [83, 84, 53, 85, 0]) := by decide +kernel
theorem sh_81 : sh 81 = .inr (0, 3, 0) := by decide +kernel
theorem sh_82 : sh 82 = .inr (0, 3, 0) := by decide +kernel
theorem sh_83 : sh 83 = .inl (10, [86, 87, 88, 89, 90, 91, 0, 0, 0, 53, 94, 95, 96, 97, 98, 99, 100, 0, 0, 0]) := by decide +kernel
theorem sh_84 : sh 84 = .inr (0, 24, 0) := by decide +kernel
theorem sh_85 : sh 85 = .inr (0, 24, 0) := by decide +kernel
theorem sh_86 : sh 86 = .inr (0, 24, 0) := by decide +kernel
theorem sh_87 : sh 87 = .inr (0, 24, 0) := by decide +kernel
theorem sh_88 : sh 88 = .inr (0, 2, 0) := by decide +kernel
theorem sh_89 : sh 89 = .inr (4, 2, 90) := by decide +kernel
theorem sh_90 : sh 90 = .inr (0, 5, 0) := by decide +kernel
theorem sh_91 : sh 91 = .inr (0, 5, 0) := by decide +kernel
theorem sh_92 : sh 92 = .inr (0, 2, 0) := by decide +kernel
theorem sh_93 : sh 93 = .inr (0, 2, 0) := by decide +kernel
theorem sh_94 : sh 94 = .inr (0, 2, 0) := by decide +kernel
theorem sh_95 : sh 95 = .inr (0, 2, 0) := by decide +kernel
theorem sh_96 : sh 96 = .inr (0, 2, 0) := by decide +kernel
theorem sh_97 : sh 97 = .inr (0, 6, 0) := by decide +kernel
theorem sh_98 : sh 98 = .inr (0, 6, 0) := by decide +kernel
theorem sh_99 : sh 99 = .inl (7, [0, 102, 103, 104, 0, 0, 0]) := by decide +kernel
theorem sh_100 : sh 100 = .inr (0, 40, 0) := by decide +kernel
theorem sh_101 : sh 101 = .inr (0, 40, 0) := by decide +kernel
theorem sh_102 : sh 102 = .inr (0, 40, 0) := by decide +kernel
theorem sh_103 : sh 103 = .inl (12, [0, 0, 0, 106, 0, 0, 0, 0, 1, 0, 0, 107, 108, 109, 110, 111, 112, 113, 0, 0, 0, 114, 115, 116, 117, 118, 119, 120, 121, 122, 123, 124, 125, 0, 0, 0, 0, 0, 0, 126, 127, 128, 129, 130, 131, 132, 0, 133, 134, 135, 0, 136, 137, 0, 0, 0, 0, 0, 138, 139, 140, 0, 141, 142, 143, 0, 144, 145, 146, 147, 148, 149, 150, 151, 0, 0, 152, 153, 154, 0, 0, 0]) := by decide +kernel
theorem sh_104 : sh 104 = .inr (0, 1000, 0) := by decide +kernel
theorem sh_105 : sh 105 = .inr (2, 26, 0) := by decide +kernel
theorem sh_106 : sh 106 = .inr (0, 26, 0) := by decide +kernel
theorem sh_107 : sh 107 = .inr (0, 26, 0) := by decide +kernel
theorem sh_108 : sh 108 = .inr (2, 26, 0) := by decide +kernel
theorem sh_109 : sh 109 = .inr (0, 26, 0) := by decide +kernel
theorem sh_110 : sh 110 = .inr (0, 26, 0) := by decide +kernel
theorem sh_111 : sh 111 = .inr (0, 4000, 0) := by decide +kernel
theorem sh_112 : sh 112 = .inr (0, 7, 0) := by decide +kernel
theorem sh_113 : sh 113 = .inr (2, 7, 0) := by decide +kernel
theorem sh_114 : sh 114 = .inr (0, 7, 0) := by decide +kernel
theorem sh_115 : sh 115 = .inr (0, 7, 0) := by decide +kernel
theorem sh_116 : sh 116 = .inr (0, 7, 0) := by decide +kernel
theorem sh_117 : sh 117 = .inr (0, 7, 0) := by decide +kernel
theorem sh_118 : sh 118 = .inr (0, 7, 0) := by decide +kernel
theorem sh_119 : sh 119 = .inr (0, 7, 0) := by decide +kernel
theorem sh_120 : sh 120 = .inr (0, 7, 0) := by decide +kernel
theorem sh_121 : sh 121 = .inr (0, 7, 0) := by decide +kernel
theorem sh_122 : sh 122 = .inr (0, 7, 0) := by decide +kernel
theorem sh_123 : sh 123 = .inr (0, 60, 0) := by decide +kernel
theorem sh_124 : sh 124 = .inr (0, 3072, 0) := by decide +kernel
theorem sh_125 : sh 125 = .inr (0, 3072, 0) := by decide +kernel
theorem sh_126 : sh 126 = .inr (0, 3072, 0) := by decide +kernel
theorem sh_127 : sh 127 = .inr (0, 3072, 0) := by decide +kernel
theorem sh_128 : sh 128 = .inr (2, 3072, 0) := by decide +kernel
theorem sh_129 : sh 129 = .inr (0, 21504, 0) := by decide +kernel
theorem sh_130 : sh 130 = .inr (0, 3072, 0) := by decide +kernel
theorem sh_131 : sh 131 = .inr (0, 12288, 0) := by decide +kernel
theorem sh_132 : sh 132 = .inr (0, 4, 0) := by decide +kernel
theorem sh_133 : sh 133 = .inr (0, 3072, 0) := by decide +kernel
theorem sh_134 : sh 134 = .inr (0, 1024, 0) := by decide +kernel
theorem sh_135 : sh 135 = .inr (0, 4, 0) := by decide +kernel
theorem sh_136 : sh 136 = .inr (0, 24, 0) := by decide +kernel
theorem sh_137 : sh 137 = .inr (0, 24, 0) := by decide +kernel
theorem sh_138 : sh 138 = .inr (0, 24, 0) := by decide +kernel
theorem sh_139 : sh 139 = .inr (0, 8, 0) := by decide +kernel
theorem sh_140 : sh 140 = .inr (0, 8, 0) := by decide +kernel
theorem sh_141 : sh 141 = .inr (0, 8, 0) := by decide +kernel
theorem sh_142 : sh 142 = .inr (0, 24, 0) := by decide +kernel
theorem sh_143 : sh 143 = .inr (0, 24, 0) := by decide +kernel
theorem sh_144 : sh 144 = .inr (0, 24, 0) := by decide +kernel
theorem sh_145 : sh 145 = .inr (0, 2, 0) := by decide +kernel
theorem sh_146 : sh 146 = .inr (0, 2, 0) := by decide +kernel
theorem sh_147 : sh 147 = .inr (0, 2, 0) := by decide +kernel
theorem sh_148 : sh 148 = .inr (0, 10, 0) := by decide +kernel
theorem sh_149 : sh 149 = .inr (0, 2, 0) := by decide +kernel
theorem sh_150 : sh 150 = .inr (0, 40, 0) := by decide +kernel
theorem sh_151 : sh 151 = .inr (0, 40, 0) := by decide +kernel
theorem sh_152 : sh 152 = .inr (0, 40, 0) := by decide +kernel
theorem sh_153 : sh 153 = .inr (3, 1, 0) := by decide +kernel
def WD (nh : Nat) (ad : Nat → Nat) (cA : Nat → ClassId) (h : PH) : va_W := (List.range nh).map (fun k => (ad k, cellE ad cA h k (sh k)))
theorem WD_get {nh : Nat} {ad : Nat → Nat} {cA : Nat → ClassId} {h : PH} {k : Nat} (hk : k < nh) : (WD nh ad cA h)[k]? = some (ad k, cellE ad cA h k (sh k)) := by
  unfold WD
  rw [List.getElem?_map, List.getElem?_range hk]
  rfl
theorem WD_len {nh : Nat} {ad : Nat → Nat} {cA : Nat → ClassId} {h : PH} : (WD nh ad cA h).length = nh := by
  unfold WD
  rw [List.length_map, List.length_range]
theorem WD_set {nh : Nat} {ad : Nat → Nat} {cA : Nat → ClassId} {h h' : PH} {k : Nat} {e : va_E} (hk : k < nh) (he : e = cellE ad cA h' k (sh k)) (ho : ∀ j, j ≠ k → h'.1 j = h.1 j ∧ h'.2 j = h.2 j) : (WD nh ad cA h).set k (ad k, e) = WD nh ad cA h' := by
  apply List.ext_getElem?
  intro j
  by_cases hj : j < nh
  · by_cases hjk : k = j
    · subst hjk
      rw [List.getElem?_set_self (by rw [WD_len]; exact hj), WD_get hj, he]
    · rw [List.getElem?_set_ne hjk, WD_get hj, WD_get hj]
      obtain ⟨e1, e2⟩ := ho j (fun q => hjk q.symm)
      have : cellE ad cA h j (sh j) = cellE ad cA h' j (sh j) := by
        have hf : (fun a b => fv ad h j a b) = (fun a b => fv ad h' j a b) := by
          funext a b
          unfold fv
          rw [e1, e2]
        unfold cellE
        rw [hf, e1, e2]
      rw [this]
  · rw [List.getElem?_eq_none (by rw [List.length_set, WD_len]; omega), List.getElem?_eq_none (by rw [WD_len]; omega)]
/-- the cells that the systems own, and all that are made later -/
def AD (nh : Nat) (ad : Nat → Nat) (sz : Nat) : Nat → Prop := fun q => (∃ k, k < nh ∧ q = ad k) ∨ sz ≤ q
theorem AD_of {nh : Nat} {ad : Nat → Nat} {cA : Nat → ClassId} {h : PH} {sz : Nat} : ∀ q, va_A (WD nh ad cA h) sz q → AD nh ad sz q := by
  intro q hq
  rcases hq with ⟨k, e, h1⟩ | h1
  · have hk : k < nh := by
      have := (List.getElem?_eq_some_iff.mp h1).1
      rwa [WD_len] at this
    rw [WD_get hk] at h1
    cases h1
    exact Or.inl ⟨k, hk, rfl⟩
  · exact Or.inr h1
def INJ (nh : Nat) (ad : Nat → Nat) : Prop := ∀ i j, i < nh → j < nh → ad i = ad j → i = j
theorem WD_D {nh : Nat} {ad : Nat → Nat} {cA : Nat → ClassId} {h : PH} (hi : INJ nh ad) {A : Nat → Prop} (hA : ∀ k, k < nh → A (ad k)) : va_D A (WD nh ad cA h) := by
  have key : ∀ (k : Nat) (q : Nat × va_E), (WD nh ad cA h)[k]? = some q → k < nh ∧ q.1 = ad k := by
    intro k q hq
    have hk : k < nh := by
      have := (List.getElem?_eq_some_iff.mp hq).1
      rwa [WD_len] at this
    rw [WD_get hk] at hq
    cases hq
    exact ⟨hk, rfl⟩
  refine ⟨fun i j p q h1 h2 e => ?_, fun k q h1 => ?_⟩
  · obtain ⟨a1, a2⟩ := key i p h1
    obtain ⟨b1, b2⟩ := key j q h2
    exact hi i j a1 b1 (by rw [← a2, ← b2]; exact e)
  · obtain ⟨a1, a2⟩ := key k q h1
    rw [a2]
    exact hA k a1
theorem WD_AD {nh : Nat} {ad : Nat → Nat} {cA : Nat → ClassId} {h : PH} (hi : INJ nh ad) {sz : Nat} : va_D (AD nh ad sz) (WD nh ad cA h) := WD_D hi (fun k hk => Or.inl ⟨k, hk, rfl⟩)
def TY (cA : Nat → ClassId) : List (ClassId × FieldType) := [(cA 0, .int), (cA 1, .char), (cA 2, .boolean), (cA 3, .long), (cA 4, .array .int)]
/-! the locals: a list, a place a slot, none where nothing is known -/
def LV (ad : Nat → Nat) (ls : Array Slot) (nL : Nat) (lv : List (Option Value)) : Prop := ls.size = nL ∧ lv_wf ls ∧ ∀ (i : Nat) (v : Value), lv[i]? = some (some v) → ls[i]? = some (.val (tr ad v))
def prs (ad : Nat → Nat) (lv : List (Option Value)) : List (Nat × Value) := lv.zipIdx.filterMap (fun q => q.1.map (fun v => (q.2, tr ad v)))
theorem prs_mem {ad : Nat → Nat} {lv : List (Option Value)} {q : Nat × Value} : q ∈ prs ad lv ↔ ∃ v, lv[q.1]? = some (some v) ∧ q.2 = tr ad v := by
  unfold prs
  rw [List.mem_filterMap]
  constructor
  · rintro ⟨⟨x, i⟩, h1, h2⟩
    have h3 := List.mem_zipIdx_iff_getElem?.mp h1
    cases x with
    | none => cases h2
    | some v =>
      cases h2
      exact ⟨v, h3, rfl⟩
  · rintro ⟨v, h1, h2⟩
    obtain ⟨i, w⟩ := q
    refine ⟨(some v, i), List.mem_zipIdx_iff_getElem?.mpr h1, ?_⟩
    dsimp only at h2
    rw [h2]
    rfl
theorem LV.has {ad : Nat → Nat} {ls : Array Slot} {nL : Nat} {lv : List (Option Value)} (h : LV ad ls nL lv) : lv_has ls nL (prs ad lv) := ⟨h.1, h.2.1, fun q hq => by
  obtain ⟨v, h1, h2⟩ := prs_mem.mp hq
  rw [h2]
  exact h.2.2 q.1 v h1⟩
theorem tr_cat {ad : Nat → Nat} (v : Value) : (tr ad v).category = v.category := by cases v <;> rfl
/-- a store at i spoils no long below it -/
def okst (lv : List (Option Value)) (i : Nat) : Bool := match i with
  | 0 => true
  | j + 1 => match lv[j]? with
    | some (some v) => !(v.category == 2)
    | _ => true
theorem LV.st1 {ad : Nat → Nat} {ls' : Array Slot} {nL i : Nat} {lv : List (Option Value)} {v : Value} (ho : okst lv i = true) (h : lv_has ls' nL ((i, tr ad v) :: (prs ad lv).filter (fun q => !(q.1 == i) && !(q.1 + 1 == i && q.2.category == 2)))) : LV ad ls' nL (lv.set i (some v)) := by
  refine ⟨h.1, h.2.1, fun j w hj => ?_⟩
  by_cases hij : i = j
  · subst hij
    have hl : i < lv.length := by
      have := (List.getElem?_eq_some_iff.mp hj).1
      rwa [List.length_set] at this
    rw [List.getElem?_set_self hl] at hj
    cases hj
    exact h.2.2 (i, tr ad v) List.mem_cons_self
  · rw [List.getElem?_set_ne hij] at hj
    refine h.2.2 (j, tr ad w) (List.mem_cons_of_mem _ (List.mem_filter.mpr ⟨prs_mem.mpr ⟨w, hj, rfl⟩, ?_⟩))
    have h1 : (j == i) = false := by simpa using fun e => hij e.symm
    dsimp only
    rw [h1]
    by_cases h2 : j + 1 = i
    · subst h2
      simp only [okst, hj] at ho
      rw [tr_cat]
      simp at ho ⊢
      exact ho
    · simp [h2]
theorem LV.st2 {ad : Nat → Nat} {ls' : Array Slot} {nL i : Nat} {lv : List (Option Value)} {v : Value} (ho : okst lv i = true) (h : lv_has ls' nL ((i, tr ad v) :: (prs ad lv).filter (fun q => !(q.1 == i) && (!(q.1 == i + 1) && !(q.1 + 1 == i && q.2.category == 2))))) : LV ad ls' nL ((lv.set i (some v)).set (i + 1) none) := by
  refine ⟨h.1, h.2.1, fun j w hj => ?_⟩
  by_cases hij : i + 1 = j
  · subst hij
    by_cases hl : i + 1 < (lv.set i (some v)).length
    · rw [List.getElem?_set_self hl] at hj
      cases hj
    · rw [List.getElem?_eq_none (by rw [List.length_set]; omega)] at hj
      cases hj
  rw [List.getElem?_set_ne hij] at hj
  by_cases hi : i = j
  · subst hi
    have hl : i < lv.length := by
      have := (List.getElem?_eq_some_iff.mp hj).1
      rwa [List.length_set] at this
    rw [List.getElem?_set_self hl] at hj
    cases hj
    exact h.2.2 (i, tr ad v) List.mem_cons_self
  · rw [List.getElem?_set_ne hi] at hj
    refine h.2.2 (j, tr ad w) (List.mem_cons_of_mem _ (List.mem_filter.mpr ⟨prs_mem.mpr ⟨w, hj, rfl⟩, ?_⟩))
    have h1 : (j == i) = false := by simpa using fun e => hi e.symm
    have h3 : (j == i + 1) = false := by simpa using fun e => hij e.symm
    dsimp only
    rw [h1, h3]
    by_cases h2 : j + 1 = i
    · subst h2
      simp only [okst, hj] at ho
      rw [tr_cat]
      simp at ho ⊢
      exact ho
    · simp [h2]
/-- fewer of the locals -/
def lvle : List (Option Value) → List (Option Value) → Prop
  | [], _ => True
  | none :: a, _ :: b => lvle a b
  | none :: a, [] => lvle a []
  | some v :: a, w :: b => w = some v ∧ lvle a b
  | some _ :: _, [] => False
theorem lvle_get : ∀ {a b : List (Option Value)}, lvle a b → ∀ (i : Nat) (v : Value), a[i]? = some (some v) → b[i]? = some (some v)
  | [], _, _, _, _, h => by simp at h
  | none :: a, w :: b, h, i, v, hi => by
    cases i with
    | zero => simp at hi
    | succ i => simpa using lvle_get (a := a) (b := b) h i v (by simpa using hi)
  | none :: a, [], h, i, v, hi => by
    cases i with
    | zero => simp at hi
    | succ i =>
      have := lvle_get (a := a) (b := []) h i v (by simpa using hi)
      simp at this
  | some x :: a, w :: b, h, i, v, hi => by
    obtain ⟨h1, h2⟩ := h
    cases i with
    | zero =>
      subst h1
      simpa using hi
    | succ i => simpa using lvle_get (a := a) (b := b) h2 i v (by simpa using hi)
  | some _ :: _, [], h, _, _, _ => h.elim
theorem LV.weak {ad : Nat → Nat} {ls : Array Slot} {nL : Nat} {lv lv' : List (Option Value)} (hl : lvle lv' lv) (h : LV ad ls nL lv) : LV ad ls nL lv' := ⟨h.1, h.2.1, fun i v hi => h.2.2 i v (lvle_get hl i v hi)⟩
/-- the locals of a method's start -/
def lvin : List Value → List (Option Value)
  | [] => []
  | v :: vs => if v.category = 2 then some v :: none :: lvin vs else some v :: lvin vs
theorem lvin_mem {ad : Nat → Nat} : ∀ (vs : List Value) (n i : Nat) (v : Value), (lvin vs)[i]? = some (some v) → (n + i, tr ad v) ∈ lv_args n (vs.map (tr ad)) := by
  intro vs
  induction vs with
  | nil => intro n i v h; simp [lvin] at h
  | cons w ws ih =>
    intro n i v h
    rw [List.map_cons, lv_args, tr_cat]
    rw [lvin] at h
    by_cases hc : w.category = 2
    · rw [if_pos hc] at h ⊢
      match i, h with
      | 0, h =>
        simp at h
        subst h
        exact List.mem_cons_self
      | 1, h => simp at h
      | i + 2, h =>
        have := ih (n + 2) i v (by simpa using h)
        rw [show n + (i + 2) = n + 2 + i by omega]
        exact List.mem_cons_of_mem _ this
    · rw [if_neg hc] at h ⊢
      match i, h with
      | 0, h =>
        simp at h
        subst h
        exact List.mem_cons_self
      | i + 1, h =>
        have := ih (n + 1) i v (by simpa using h)
        rw [show n + (i + 1) = n + 1 + i by omega]
        exact List.mem_cons_of_mem _ this
theorem LV.start {ad : Nat → Nat} {ls : Array Slot} {nL k : Nat} {vs : List Value} (h : lv_has ls nL (lv_args 0 (vs.map (tr ad)))) : LV ad ls nL (lvin vs ++ List.replicate k none) := by
  refine ⟨h.1, h.2.1, fun i v hi => ?_⟩
  by_cases hl : i < (lvin vs).length
  · rw [List.getElem?_append_left hl] at hi
    have := h.2.2 _ (lvin_mem (ad := ad) vs 0 i v hi)
    simpa using this
  · rw [List.getElem?_append_right (by omega)] at hi
    have := List.eq_of_mem_replicate (List.mem_of_getElem? hi)
    cases this
