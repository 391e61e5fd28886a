theorem bw_p {w : Cond} (h : w ∈ k2_sels lw_privs) (hg : goodWord w = true) : w ∈ BW := List.mem_filter.mpr ⟨List.mem_append_left _ h, hg⟩
theorem bw_c1 {w : Cond} (h : w ∈ tables_1_1) (hg : goodWord w = true) : w ∈ BW := List.mem_filter.mpr ⟨List.mem_append_right _ (List.mem_append_left _ h), hg⟩
theorem bw_c2 {w : Cond} (h : w ∈ tables_1_2) (hg : goodWord w = true) : w ∈ BW := List.mem_filter.mpr ⟨List.mem_append_right _ (List.mem_append_right _ (List.mem_append_left _ h)), hg⟩
theorem bw_c3 {w : Cond} (h : w ∈ tables_1_3) (hg : goodWord w = true) : w ∈ BW := List.mem_filter.mpr ⟨List.mem_append_right _ (List.mem_append_right _ (List.mem_append_right _ (List.mem_append_left _ h))), hg⟩
theorem bw_c4 {w : Cond} (h : w ∈ tables_1_4) (hg : goodWord w = true) : w ∈ BW := List.mem_filter.mpr ⟨List.mem_append_right _ (List.mem_append_right _ (List.mem_append_right _ (List.mem_append_right _ (List.mem_append_left _ h)))), hg⟩
theorem bw_c5 {w : Cond} (h : w ∈ tables_1_5) (hg : goodWord w = true) : w ∈ BW := List.mem_filter.mpr ⟨List.mem_append_right _ (List.mem_append_right _ (List.mem_append_right _ (List.mem_append_right _ (List.mem_append_right _ (List.mem_append_left _ h))))), hg⟩
theorem bw_c6 {w : Cond} (h : w ∈ tables_1_6) (hg : goodWord w = true) : w ∈ BW := List.mem_filter.mpr ⟨List.mem_append_right _ (List.mem_append_right _ (List.mem_append_right _ (List.mem_append_right _ (List.mem_append_right _ (List.mem_append_right _ (List.mem_append_left _ h)))))), hg⟩
theorem bw_c7 {w : Cond} (h : w ∈ tables_1_7) (hg : goodWord w = true) : w ∈ BW := List.mem_filter.mpr ⟨List.mem_append_right _ (List.mem_append_right _ (List.mem_append_right _ (List.mem_append_right _ (List.mem_append_right _ (List.mem_append_right _ (List.mem_append_right _ (List.mem_append_left _ h))))))), hg⟩
theorem bw_c8 {w : Cond} (h : w ∈ tables_1_8) (hg : goodWord w = true) : w ∈ BW := List.mem_filter.mpr ⟨List.mem_append_right _ (List.mem_append_right _ (List.mem_append_right _ (List.mem_append_right _ (List.mem_append_right _ (List.mem_append_right _ (List.mem_append_right _ (List.mem_append_right _ (List.mem_append_left _ h)))))))), hg⟩
theorem bw_c9 {w : Cond} (h : w ∈ tables_1_9) (hg : goodWord w = true) : w ∈ BW := List.mem_filter.mpr ⟨List.mem_append_right _ (List.mem_append_right _ (List.mem_append_right _ (List.mem_append_right _ (List.mem_append_right _ (List.mem_append_right _ (List.mem_append_right _ (List.mem_append_right _ (List.mem_append_right _ (h))))))))), hg⟩
set_option maxRecDepth 20000 in
theorem inBX0 : ∀ w ∈ wsX00, w ∈ BW := fun w h => by
  have e : wsX00 = [.laysFinal RX0 "OldLift$Atlas" "machine" "LOldLift$Machine;", .laysFinal RX0 "OldLift$Atlas" "breaker" "[I", .laysFinal RX0 "OldLift$Atlas" "forgetter" "[[I", .laysFinal RX0 "OldLift$Atlas" "state" "[I", .laysFinal RX0 "OldLift$Atlas" "number" "[I", .laysFinal RX0 "OldLift$Atlas" "parent" "[I", .laysFinal RX0 "OldLift$Atlas" "button" "[I", .laysFinal RX0 "OldLift$Atlas" "depth" "[I", .laysFinal RX0 "OldLift$Atlas" "lamps" "[I", .laysFinal RX0 "OldLift$Atlas" "next" "[I", .laysFinal RX0 "OldLift$Atlas" "patienceFrom" "[I", .laysFinal RX0 "OldLift$Atlas" "path" "[I", .lays RX0 "OldLift$Atlas" "known" "Z", .lays RX0 "OldLift$Atlas" "size" "I"] := by decide +kernel
  rw [e] at h
  simp only [List.mem_cons, List.not_mem_nil, or_false] at h
  rcases h with rfl | rfl | rfl | rfl | rfl | rfl | rfl | rfl | rfl | rfl | rfl | rfl | rfl | rfl
  · exact bw_c1 (List.mem_of_getElem? (i := 193) (by decide +kernel)) rfl
  · exact bw_c1 (List.mem_of_getElem? (i := 195) (by decide +kernel)) rfl
  · exact bw_c1 (List.mem_of_getElem? (i := 197) (by decide +kernel)) rfl
  · exact bw_c1 (List.mem_of_getElem? (i := 199) (by decide +kernel)) rfl
  · exact bw_c1 (List.mem_of_getElem? (i := 201) (by decide +kernel)) rfl
  · exact bw_c1 (List.mem_of_getElem? (i := 203) (by decide +kernel)) rfl
  · exact bw_c1 (List.mem_of_getElem? (i := 205) (by decide +kernel)) rfl
  · exact bw_c1 (List.mem_of_getElem? (i := 207) (by decide +kernel)) rfl
  · exact bw_c1 (List.mem_of_getElem? (i := 209) (by decide +kernel)) rfl
  · exact bw_c1 (List.mem_of_getElem? (i := 211) (by decide +kernel)) rfl
  · exact bw_c1 (List.mem_of_getElem? (i := 213) (by decide +kernel)) rfl
  · exact bw_c1 (List.mem_of_getElem? (i := 215) (by decide +kernel)) rfl
  · exact bw_c1 (List.mem_of_getElem? (i := 217) (by decide +kernel)) rfl
  · exact bw_c1 (List.mem_of_getElem? (i := 219) (by decide +kernel)) rfl
set_option maxRecDepth 20000 in
theorem inBX1 : ∀ w ∈ wsX10, w ∈ BW := fun w h => by
  have e : wsX10 = [.laysFinal RX1 "OldLift$Choice" "least" "[I", .laysFinal RX1 "OldLift$Choice" "way" "[I", .laysFinal RX1 "OldLift$Choice" "plan" "LOldLift$Plan;", .laysFinal RX1 "OldLift$Choice" "probe" "LOldLift$Trial;", .lays RX1 "OldLift$Choice" "weighed" "I"] := by decide +kernel
  rw [e] at h
  simp only [List.mem_cons, List.not_mem_nil, or_false] at h
  rcases h with rfl | rfl | rfl | rfl | rfl
  · exact bw_c2 (List.mem_of_getElem? (i := 211) (by decide +kernel)) rfl
  · exact bw_c2 (List.mem_of_getElem? (i := 213) (by decide +kernel)) rfl
  · exact bw_c2 (List.mem_of_getElem? (i := 215) (by decide +kernel)) rfl
  · exact bw_c2 (List.mem_of_getElem? (i := 217) (by decide +kernel)) rfl
  · exact bw_c2 (List.mem_of_getElem? (i := 219) (by decide +kernel)) rfl
set_option maxRecDepth 20000 in
theorem inBX2 : ∀ w ∈ wsX20, w ∈ BW := fun w h => by
  have e : wsX20 = [.laysFinal RX2 "OldLift$Code" "facts" "[I", .lays RX2 "OldLift$Code" "nevers" "I", .laysFinal RX2 "OldLift$Code" "ops" "[I", .laysFinal RX2 "OldLift$Code" "begin" "[I", .laysFinal RX2 "OldLift$Code" "end" "[I", .laysFinal RX2 "OldLift$Code" "stack" "[I", .lays RX2 "OldLift$Code" "size" "I"] := by decide +kernel
  rw [e] at h
  simp only [List.mem_cons, List.not_mem_nil, or_false] at h
  rcases h with rfl | rfl | rfl | rfl | rfl | rfl | rfl
  · exact bw_c1 (List.mem_of_getElem? (i := 74) (by decide +kernel)) rfl
  · exact bw_c1 (List.mem_of_getElem? (i := 76) (by decide +kernel)) rfl
  · exact bw_c1 (List.mem_of_getElem? (i := 78) (by decide +kernel)) rfl
  · exact bw_c1 (List.mem_of_getElem? (i := 80) (by decide +kernel)) rfl
  · exact bw_c1 (List.mem_of_getElem? (i := 82) (by decide +kernel)) rfl
  · exact bw_c1 (List.mem_of_getElem? (i := 84) (by decide +kernel)) rfl
  · exact bw_c1 (List.mem_of_getElem? (i := 86) (by decide +kernel)) rfl
set_option maxRecDepth 20000 in
theorem inBX3 : ∀ w ∈ wsX30, w ∈ BW := fun w h => by
  have e : wsX30 = [.lays RX3 "OldLift$Guess" "begun" "Z", .lays RX3 "OldLift$Guess" "size" "I", .lays RX3 "OldLift$Guess" "need" "I", .lays RX3 "OldLift$Guess" "opening" "I", .laysFinal RX3 "OldLift$Guess" "atlas" "LOldLift$Atlas;", .laysFinal RX3 "OldLift$Guess" "lampMark" "[I", .laysFinal RX3 "OldLift$Guess" "lampNote" "[I", .laysFinal RX3 "OldLift$Guess" "held" "[I", .laysFinal RX3 "OldLift$Guess" "mark" "[I", .laysFinal RX3 "OldLift$Guess" "image" "[I", .laysFinal RX3 "OldLift$Guess" "members" "[[I", .laysFinal RX3 "OldLift$Guess" "ends" "[[I", .lays RX3 "OldLift$Guess" "planned" "Z", .lays RX3 "OldLift$Guess" "stamp" "I"] := by decide +kernel
  rw [e] at h
  simp only [List.mem_cons, List.not_mem_nil, or_false] at h
  rcases h with rfl | rfl | rfl | rfl | rfl | rfl | rfl | rfl | rfl | rfl | rfl | rfl | rfl | rfl
  · exact bw_c2 (List.mem_of_getElem? (i := 7) (by decide +kernel)) rfl
  · exact bw_c2 (List.mem_of_getElem? (i := 9) (by decide +kernel)) rfl
  · exact bw_c2 (List.mem_of_getElem? (i := 11) (by decide +kernel)) rfl
  · exact bw_c2 (List.mem_of_getElem? (i := 13) (by decide +kernel)) rfl
  · exact bw_c2 (List.mem_of_getElem? (i := 15) (by decide +kernel)) rfl
  · exact bw_c2 (List.mem_of_getElem? (i := 17) (by decide +kernel)) rfl
  · exact bw_c2 (List.mem_of_getElem? (i := 19) (by decide +kernel)) rfl
  · exact bw_c2 (List.mem_of_getElem? (i := 21) (by decide +kernel)) rfl
  · exact bw_c2 (List.mem_of_getElem? (i := 23) (by decide +kernel)) rfl
  · exact bw_c2 (List.mem_of_getElem? (i := 25) (by decide +kernel)) rfl
  · exact bw_c2 (List.mem_of_getElem? (i := 27) (by decide +kernel)) rfl
  · exact bw_c2 (List.mem_of_getElem? (i := 29) (by decide +kernel)) rfl
  · exact bw_c2 (List.mem_of_getElem? (i := 31) (by decide +kernel)) rfl
  · exact bw_c2 (List.mem_of_getElem? (i := 33) (by decide +kernel)) rfl
set_option maxRecDepth 20000 in
theorem inBX4 : ∀ w ∈ wsX40, w ∈ BW := fun w h => by
  have e : wsX40 = [.laysFinal RX4 "OldLift$Machine" "lines" "LOldLift$Code;", .lays RX4 "OldLift$Machine" "floors" "I", .lays RX4 "OldLift$Machine" "now" "I", .lays RX4 "OldLift$Machine" "bumps" "I", .lays RX4 "OldLift$Machine" "ticks" "I"] := by decide +kernel
  rw [e] at h
  simp only [List.mem_cons, List.not_mem_nil, or_false] at h
  rcases h with rfl | rfl | rfl | rfl | rfl
  · exact bw_c1 (List.mem_of_getElem? (i := 160) (by decide +kernel)) rfl
  · exact bw_c1 (List.mem_of_getElem? (i := 162) (by decide +kernel)) rfl
  · exact bw_c1 (List.mem_of_getElem? (i := 164) (by decide +kernel)) rfl
  · exact bw_c1 (List.mem_of_getElem? (i := 166) (by decide +kernel)) rfl
  · exact bw_c1 (List.mem_of_getElem? (i := 168) (by decide +kernel)) rfl
set_option maxRecDepth 20000 in
theorem inBX5 : ∀ w ∈ wsX50, w ∈ BW := fun w h => by
  have e : wsX50 = [.laysFinal RX5 "OldLift$Parser" "draft" "LOldLift$Code;", .laysFinal RX5 "OldLift$Parser" "tokens" "LOldLift$Tokens;", .lays RX5 "OldLift$Parser" "at" "I", .lays RX5 "OldLift$Parser" "kind" "I", .lays RX5 "OldLift$Parser" "value" "I", .lays RX5 "OldLift$Parser" "fault" "I", .lays RX5 "OldLift$Parser" "floors" "I", .lays RX5 "OldLift$Parser" "forRule" "Z"] := by decide +kernel
  rw [e] at h
  simp only [List.mem_cons, List.not_mem_nil, or_false] at h
  rcases h with rfl | rfl | rfl | rfl | rfl | rfl | rfl | rfl
  · exact bw_c1 (List.mem_of_getElem? (i := 124) (by decide +kernel)) rfl
  · exact bw_c1 (List.mem_of_getElem? (i := 126) (by decide +kernel)) rfl
  · exact bw_c1 (List.mem_of_getElem? (i := 128) (by decide +kernel)) rfl
  · exact bw_c1 (List.mem_of_getElem? (i := 130) (by decide +kernel)) rfl
  · exact bw_c1 (List.mem_of_getElem? (i := 132) (by decide +kernel)) rfl
  · exact bw_c1 (List.mem_of_getElem? (i := 134) (by decide +kernel)) rfl
  · exact bw_c1 (List.mem_of_getElem? (i := 136) (by decide +kernel)) rfl
  · exact bw_c1 (List.mem_of_getElem? (i := 138) (by decide +kernel)) rfl
set_option maxRecDepth 20000 in
theorem inBX6 : ∀ w ∈ wsX60, w ∈ BW := fun w h => by
  have e : wsX60 = [.laysFinal RX6 "OldLift$Plan" "rule" "LOldLift$Code;", .laysFinal RX6 "OldLift$Plan" "comes" "[I", .laysFinal RX6 "OldLift$Plan" "from" "[I", .laysFinal RX6 "OldLift$Plan" "to" "[I", .laysFinal RX6 "OldLift$Plan" "holdTime" "[I", .laysFinal RX6 "OldLift$Plan" "holdCar" "[I", .laysFinal RX6 "OldLift$Plan" "holdTicks" "[I", .lays RX6 "OldLift$Plan" "floors" "I", .lays RX6 "OldLift$Plan" "cars" "I", .lays RX6 "OldLift$Plan" "room" "I", .lays RX6 "OldLift$Plan" "doors" "I", .lays RX6 "OldLift$Plan" "park" "I", .lays RX6 "OldLift$Plan" "persons" "I", .lays RX6 "OldLift$Plan" "holds" "I", .lays RX6 "OldLift$Plan" "fireTime" "I", .lays RX6 "OldLift$Plan" "changes" "I", .lays RX6 "OldLift$Plan" "rulings" "I"] := by decide +kernel
  rw [e] at h
  simp only [List.mem_cons, List.not_mem_nil, or_false] at h
  rcases h with rfl | rfl | rfl | rfl | rfl | rfl | rfl | rfl | rfl | rfl | rfl | rfl | rfl | rfl | rfl | rfl | rfl
  · exact bw_c2 (List.mem_of_getElem? (i := 83) (by decide +kernel)) rfl
  · exact bw_c2 (List.mem_of_getElem? (i := 85) (by decide +kernel)) rfl
  · exact bw_c2 (List.mem_of_getElem? (i := 87) (by decide +kernel)) rfl
  · exact bw_c2 (List.mem_of_getElem? (i := 89) (by decide +kernel)) rfl
  · exact bw_c2 (List.mem_of_getElem? (i := 91) (by decide +kernel)) rfl
  · exact bw_c2 (List.mem_of_getElem? (i := 93) (by decide +kernel)) rfl
  · exact bw_c2 (List.mem_of_getElem? (i := 95) (by decide +kernel)) rfl
  · exact bw_c2 (List.mem_of_getElem? (i := 97) (by decide +kernel)) rfl
  · exact bw_c2 (List.mem_of_getElem? (i := 99) (by decide +kernel)) rfl
  · exact bw_c2 (List.mem_of_getElem? (i := 101) (by decide +kernel)) rfl
  · exact bw_c2 (List.mem_of_getElem? (i := 103) (by decide +kernel)) rfl
  · exact bw_c2 (List.mem_of_getElem? (i := 105) (by decide +kernel)) rfl
  · exact bw_c2 (List.mem_of_getElem? (i := 107) (by decide +kernel)) rfl
  · exact bw_c2 (List.mem_of_getElem? (i := 109) (by decide +kernel)) rfl
  · exact bw_c2 (List.mem_of_getElem? (i := 111) (by decide +kernel)) rfl
  · exact bw_c2 (List.mem_of_getElem? (i := 113) (by decide +kernel)) rfl
  · exact bw_c2 (List.mem_of_getElem? (i := 115) (by decide +kernel)) rfl
set_option maxRecDepth 20000 in
theorem inBX7 : ∀ w ∈ wsX70, w ∈ BW := fun w h => by
  have e : wsX70 = [.lays RX7 "OldLift$Rope" "lines" "I", .laysFinal RX7 "OldLift$Rope" "low" "[I", .laysFinal RX7 "OldLift$Rope" "high" "[I", .laysFinal RX7 "OldLift$Rope" "counted" "[I", .lays RX7 "OldLift$Rope" "slip" "I", .lays RX7 "OldLift$Rope" "life" "I", .lays RX7 "OldLift$Rope" "days" "I"] := by decide +kernel
  rw [e] at h
  simp only [List.mem_cons, List.not_mem_nil, or_false] at h
  rcases h with rfl | rfl | rfl | rfl | rfl | rfl | rfl
  · exact bw_c2 (List.mem_of_getElem? (i := 236) (by decide +kernel)) rfl
  · exact bw_c2 (List.mem_of_getElem? (i := 238) (by decide +kernel)) rfl
  · exact bw_c3 (List.mem_of_getElem? (i := 0) (by decide +kernel)) rfl
  · exact bw_c3 (List.mem_of_getElem? (i := 2) (by decide +kernel)) rfl
  · exact bw_c3 (List.mem_of_getElem? (i := 4) (by decide +kernel)) rfl
  · exact bw_c3 (List.mem_of_getElem? (i := 6) (by decide +kernel)) rfl
  · exact bw_c3 (List.mem_of_getElem? (i := 8) (by decide +kernel)) rfl
set_option maxRecDepth 20000 in
theorem inBX8 : ∀ w ∈ wsX80, w ∈ BW := fun w h => by
  have e : wsX80 = [.laysFinal RX8 "OldLift$Tape" "signs" "[C", .lays RX8 "OldLift$Tape" "length" "I"] := by decide +kernel
  rw [e] at h
  simp only [List.mem_cons, List.not_mem_nil, or_false] at h
  rcases h with rfl | rfl
  · exact bw_c1 (List.mem_of_getElem? (i := 46) (by decide +kernel)) rfl
  · exact bw_c1 (List.mem_of_getElem? (i := 48) (by decide +kernel)) rfl
set_option maxRecDepth 20000 in
theorem inBX9 : ∀ w ∈ wsX90, w ∈ BW := fun w h => by
  have e : wsX90 = [.laysFinal RX9 "OldLift$Tokens" "kind" "[I", .laysFinal RX9 "OldLift$Tokens" "value" "[I", .laysFinal RX9 "OldLift$Tokens" "place" "[I", .laysFinal RX9 "OldLift$Tokens" "tape" "LOldLift$Tape;", .lays RX9 "OldLift$Tokens" "size" "I"] := by decide +kernel
  rw [e] at h
  simp only [List.mem_cons, List.not_mem_nil, or_false] at h
  rcases h with rfl | rfl | rfl | rfl | rfl
  · exact bw_c1 (List.mem_of_getElem? (i := 104) (by decide +kernel)) rfl
  · exact bw_c1 (List.mem_of_getElem? (i := 106) (by decide +kernel)) rfl
  · exact bw_c1 (List.mem_of_getElem? (i := 108) (by decide +kernel)) rfl
  · exact bw_c1 (List.mem_of_getElem? (i := 110) (by decide +kernel)) rfl
  · exact bw_c1 (List.mem_of_getElem? (i := 112) (by decide +kernel)) rfl
set_option maxRecDepth 20000 in
theorem inBX10 : ∀ w ∈ wsX100, w ∈ BW := fun w h => by
  have e : wsX100 = [.laysFinal RX10 "OldLift$Trial" "given" "[I", .laysFinal RX10 "OldLift$Trial" "timeIn" "[I", .laysFinal RX10 "OldLift$Trial" "timeOut" "[I", .laysFinal RX10 "OldLift$Trial" "wait" "[I", .laysFinal RX10 "OldLift$Trial" "stops" "[I", .laysFinal RX10 "OldLift$Trial" "passed" "[[I", .lays RX10 "OldLift$Trial" "cars" "I", .lays RX10 "OldLift$Trial" "persons" "I", .lays RX10 "OldLift$Trial" "over" "I", .laysFinal RX10 "OldLift$Trial" "plan" "LOldLift$Plan;", .laysFinal RX10 "OldLift$Trial" "floor" "[I", .laysFinal RX10 "OldLift$Trial" "heading" "[I", .laysFinal RX10 "OldLift$Trial" "standing" "[I", .laysFinal RX10 "OldLift$Trial" "inside" "[I", .laysFinal RX10 "OldLift$Trial" "waiting" "[I", .laysFinal RX10 "OldLift$Trial" "fromHere" "[I", .laysFinal RX10 "OldLift$Trial" "toHere" "[I", .lays RX10 "OldLift$Trial" "coming" "I", .lays RX10 "OldLift$Trial" "notOut" "I", .lays RX10 "OldLift$Trial" "shown" "I"] := by decide +kernel
  rw [e] at h
  simp only [List.mem_cons, List.not_mem_nil, or_false] at h
  rcases h with rfl | rfl | rfl | rfl | rfl | rfl | rfl | rfl | rfl | rfl | rfl | rfl | rfl | rfl | rfl | rfl | rfl | rfl | rfl | rfl
  · exact bw_c2 (List.mem_of_getElem? (i := 155) (by decide +kernel)) rfl
  · exact bw_c2 (List.mem_of_getElem? (i := 157) (by decide +kernel)) rfl
  · exact bw_c2 (List.mem_of_getElem? (i := 159) (by decide +kernel)) rfl
  · exact bw_c2 (List.mem_of_getElem? (i := 161) (by decide +kernel)) rfl
  · exact bw_c2 (List.mem_of_getElem? (i := 163) (by decide +kernel)) rfl
  · exact bw_c2 (List.mem_of_getElem? (i := 165) (by decide +kernel)) rfl
  · exact bw_c2 (List.mem_of_getElem? (i := 167) (by decide +kernel)) rfl
  · exact bw_c2 (List.mem_of_getElem? (i := 169) (by decide +kernel)) rfl
  · exact bw_c2 (List.mem_of_getElem? (i := 171) (by decide +kernel)) rfl
  · exact bw_c2 (List.mem_of_getElem? (i := 173) (by decide +kernel)) rfl
  · exact bw_c2 (List.mem_of_getElem? (i := 175) (by decide +kernel)) rfl
  · exact bw_c2 (List.mem_of_getElem? (i := 177) (by decide +kernel)) rfl
  · exact bw_c2 (List.mem_of_getElem? (i := 179) (by decide +kernel)) rfl
  · exact bw_c2 (List.mem_of_getElem? (i := 181) (by decide +kernel)) rfl
  · exact bw_c2 (List.mem_of_getElem? (i := 183) (by decide +kernel)) rfl
  · exact bw_c2 (List.mem_of_getElem? (i := 185) (by decide +kernel)) rfl
  · exact bw_c2 (List.mem_of_getElem? (i := 187) (by decide +kernel)) rfl
  · exact bw_c2 (List.mem_of_getElem? (i := 189) (by decide +kernel)) rfl
  · exact bw_c2 (List.mem_of_getElem? (i := 191) (by decide +kernel)) rfl
  · exact bw_c2 (List.mem_of_getElem? (i := 193) (by decide +kernel)) rfl
set_option maxRecDepth 20000 in
theorem inBX11 : ∀ w ∈ wsX110, w ∈ BW := fun w h => by
  have e : wsX110 = [.laysFinal RX11 "OldLift" "tape" "LOldLift$Tape;", .laysFinal RX11 "OldLift" "parser" "LOldLift$Parser;", .laysFinal RX11 "OldLift" "machine" "LOldLift$Machine;", .laysFinal RX11 "OldLift" "atlas" "LOldLift$Atlas;", .laysFinal RX11 "OldLift" "guess" "LOldLift$Guess;", .laysFinal RX11 "OldLift" "plan" "LOldLift$Plan;", .laysFinal RX11 "OldLift" "ride" "LOldLift$Trial;", .laysFinal RX11 "OldLift" "choice" "LOldLift$Choice;", .laysFinal RX11 "OldLift" "cable" "LOldLift$Rope;"] := by decide +kernel
  rw [e] at h
  simp only [List.mem_cons, List.not_mem_nil, or_false] at h
  rcases h with rfl | rfl | rfl | rfl | rfl | rfl | rfl | rfl | rfl
  · exact bw_c3 (List.mem_of_getElem? (i := 64) (by decide +kernel)) rfl
  · exact bw_c3 (List.mem_of_getElem? (i := 66) (by decide +kernel)) rfl
  · exact bw_c3 (List.mem_of_getElem? (i := 68) (by decide +kernel)) rfl
  · exact bw_c3 (List.mem_of_getElem? (i := 70) (by decide +kernel)) rfl
  · exact bw_c3 (List.mem_of_getElem? (i := 72) (by decide +kernel)) rfl
  · exact bw_c3 (List.mem_of_getElem? (i := 74) (by decide +kernel)) rfl
  · exact bw_c3 (List.mem_of_getElem? (i := 76) (by decide +kernel)) rfl
  · exact bw_c3 (List.mem_of_getElem? (i := 78) (by decide +kernel)) rfl
  · exact bw_c3 (List.mem_of_getElem? (i := 80) (by decide +kernel)) rfl
set_option maxRecDepth 20000 in
theorem inBX12 : ∀ w ∈ wsX120, w ∈ BW := fun w h => by
  have e : wsX120 = [.lays RX12 "OldLiftModel" "thrown" "I", .lays RX12 "OldLiftModel" "floors" "I", .lays RX12 "OldLiftModel" "taped" "I", .laysFinal RX12 "OldLiftModel" "tape" "[I", .lays RX12 "OldLiftModel" "size" "I", .lays RX12 "OldLiftModel" "place" "I", .lays RX12 "OldLiftModel" "begin" "I", .lays RX12 "OldLiftModel" "token" "I", .lays RX12 "OldLiftModel" "word" "J", .lays RX12 "OldLiftModel" "told" "I", .lays RX12 "OldLiftModel" "wrong" "I", .laysFinal RX12 "OldLiftModel" "has" "[Z", .laysFinal RX12 "OldLiftModel" "lineFrom" "[I", .laysFinal RX12 "OldLiftModel" "lineTo" "[I", .laysFinal RX12 "OldLiftModel" "freshHas" "[Z", .laysFinal RX12 "OldLiftModel" "freshFrom" "[I", .laysFinal RX12 "OldLiftModel" "freshTo" "[I", .laysFinal RX12 "OldLiftModel" "codes" "[I", .lays RX12 "OldLiftModel" "code" "I", .lays RX12 "OldLiftModel" "isRule" "Z", .lays RX12 "OldLiftModel" "hasRule" "Z", .laysFinal RX12 "OldLiftModel" "opened" "[I", .laysFinal RX12 "OldLiftModel" "compared" "[Z", .laysFinal RX12 "OldLiftModel" "kept" "[I", .laysFinal RX12 "OldLiftModel" "keptBy" "[I", .laysFinal RX12 "OldLiftModel" "ahead" "[I", .laysFinal RX12 "OldLiftModel" "against" "[I", .laysFinal RX12 "OldLiftModel" "sum" "[I", .laysFinal RX12 "OldLiftModel" "sumBy" "[I", .laysFinal RX12 "OldLiftModel" "term" "[I", .laysFinal RX12 "OldLiftModel" "termBy" "[I", .laysFinal RX12 "OldLiftModel" "byNot" "[I", .laysFinal RX12 "OldLiftModel" "valueOf" "[I", .lays RX12 "OldLiftModel" "state" "I", .lays RX12 "OldLiftModel" "bumps" "I", .lays RX12 "OldLiftModel" "ticks" "I", .lays RX12 "OldLiftModel" "bumped" "I", .lays RX12 "OldLiftModel" "gone" "Z", .lays RX12 "OldLiftModel" "many" "I", .laysFinal RX12 "OldLiftModel" "queue" "[I", .laysFinal RX12 "OldLiftModel" "from" "[I", .laysFinal RX12 "OldLiftModel" "by" "[I", .laysFinal RX12 "OldLiftModel" "deep" "[I", .laysFinal RX12 "OldLiftModel" "met" "[Z", .laysFinal RX12 "OldLiftModel" "leads" "[I", .laysFinal RX12 "OldLiftModel" "shows" "[I", .lays RX12 "OldLiftModel" "isStuck" "Z", .laysFinal RX12 "OldLiftModel" "thoughts" "[I", .laysFinal RX12 "OldLiftModel" "thoughtMany" "[I", .laysFinal RX12 "OldLiftModel" "stamp" "[I", .lays RX12 "OldLiftModel" "stamped" "I", .laysFinal RX12 "OldLiftModel" "lampStamp" "[I", .laysFinal RX12 "OldLiftModel" "lampStamped" "[I", .lays RX12 "OldLiftModel" "cars" "I", .lays RX12 "OldLiftModel" "carSize" "I", .lays RX12 "OldLiftModel" "doors" "I", .lays RX12 "OldLiftModel" "park" "I", .lays RX12 "OldLiftModel" "persons" "I", .laysFinal RX12 "OldLiftModel" "comes" "[I", .laysFinal RX12 "OldLiftModel" "fromOf" "[I", .laysFinal RX12 "OldLiftModel" "toOf" "[I", .lays RX12 "OldLiftModel" "held" "I", .laysFinal RX12 "OldLiftModel" "holdTime" "[I", .laysFinal RX12 "OldLiftModel" "holdCar" "[I", .laysFinal RX12 "OldLiftModel" "holdFor" "[I", .lays RX12 "OldLiftModel" "fireAt" "I", .laysFinal RX12 "OldLiftModel" "carOf" "[I", .laysFinal RX12 "OldLiftModel" "timeIn" "[I", .laysFinal RX12 "OldLiftModel" "timeOut" "[I", .laysFinal RX12 "OldLiftModel" "floorAt" "[I", .laysFinal RX12 "OldLiftModel" "heading" "[I", .laysFinal RX12 "OldLiftModel" "standing" "[I", .laysFinal RX12 "OldLiftModel" "passes" "[I", .laysFinal RX12 "OldLiftModel" "stops" "[I", .lays RX12 "OldLiftModel" "end" "I", .lays RX12 "OldLiftModel" "trips" "I", .laysFinal RX12 "OldLiftModel" "tripFrom" "[I", .laysFinal RX12 "OldLiftModel" "tripTo" "[I", .laysFinal RX12 "OldLiftModel" "tripMany" "[I", .lays RX12 "OldLiftModel" "slip" "I", .lays RX12 "OldLiftModel" "life" "I", .lays RX12 "OldLiftModel" "days" "I"] := by decide +kernel
  rw [e] at h
  simp only [List.mem_cons, List.not_mem_nil, or_false] at h
  rcases h with rfl | rfl | rfl | rfl | rfl | rfl | rfl | rfl | rfl | rfl | rfl | rfl | rfl | rfl | rfl | rfl | rfl | rfl | rfl | rfl | rfl | rfl | rfl | rfl | rfl | rfl | rfl | rfl | rfl | rfl | rfl | rfl | rfl | rfl | rfl | rfl | rfl | rfl | rfl | rfl | rfl | rfl | rfl | rfl | rfl | rfl | rfl | rfl | rfl | rfl | rfl | rfl | rfl | rfl | rfl | rfl | rfl | rfl | rfl | rfl | rfl | rfl | rfl | rfl | rfl | rfl | rfl | rfl | rfl | rfl | rfl | rfl | rfl | rfl | rfl | rfl | rfl | rfl | rfl | rfl | rfl | rfl
  · exact bw_c7 (List.mem_of_getElem? (i := 14) (by decide +kernel)) rfl
  · exact bw_c7 (List.mem_of_getElem? (i := 16) (by decide +kernel)) rfl
  · exact bw_c7 (List.mem_of_getElem? (i := 18) (by decide +kernel)) rfl
  · exact bw_c7 (List.mem_of_getElem? (i := 20) (by decide +kernel)) rfl
  · exact bw_c7 (List.mem_of_getElem? (i := 22) (by decide +kernel)) rfl
  · exact bw_c7 (List.mem_of_getElem? (i := 24) (by decide +kernel)) rfl
  · exact bw_c7 (List.mem_of_getElem? (i := 26) (by decide +kernel)) rfl
  · exact bw_c7 (List.mem_of_getElem? (i := 28) (by decide +kernel)) rfl
  · exact bw_c7 (List.mem_of_getElem? (i := 30) (by decide +kernel)) rfl
  · exact bw_c7 (List.mem_of_getElem? (i := 32) (by decide +kernel)) rfl
  · exact bw_c7 (List.mem_of_getElem? (i := 34) (by decide +kernel)) rfl
  · exact bw_c7 (List.mem_of_getElem? (i := 36) (by decide +kernel)) rfl
  · exact bw_c7 (List.mem_of_getElem? (i := 38) (by decide +kernel)) rfl
  · exact bw_c7 (List.mem_of_getElem? (i := 40) (by decide +kernel)) rfl
  · exact bw_c7 (List.mem_of_getElem? (i := 42) (by decide +kernel)) rfl
  · exact bw_c7 (List.mem_of_getElem? (i := 44) (by decide +kernel)) rfl
  · exact bw_c7 (List.mem_of_getElem? (i := 46) (by decide +kernel)) rfl
  · exact bw_c7 (List.mem_of_getElem? (i := 48) (by decide +kernel)) rfl
  · exact bw_c7 (List.mem_of_getElem? (i := 50) (by decide +kernel)) rfl
  · exact bw_c7 (List.mem_of_getElem? (i := 52) (by decide +kernel)) rfl
  · exact bw_c7 (List.mem_of_getElem? (i := 54) (by decide +kernel)) rfl
  · exact bw_c7 (List.mem_of_getElem? (i := 56) (by decide +kernel)) rfl
  · exact bw_c7 (List.mem_of_getElem? (i := 58) (by decide +kernel)) rfl
  · exact bw_c7 (List.mem_of_getElem? (i := 60) (by decide +kernel)) rfl
  · exact bw_c7 (List.mem_of_getElem? (i := 62) (by decide +kernel)) rfl
  · exact bw_c7 (List.mem_of_getElem? (i := 64) (by decide +kernel)) rfl
  · exact bw_c7 (List.mem_of_getElem? (i := 66) (by decide +kernel)) rfl
  · exact bw_c7 (List.mem_of_getElem? (i := 68) (by decide +kernel)) rfl
  · exact bw_c7 (List.mem_of_getElem? (i := 70) (by decide +kernel)) rfl
  · exact bw_c7 (List.mem_of_getElem? (i := 72) (by decide +kernel)) rfl
  · exact bw_c7 (List.mem_of_getElem? (i := 74) (by decide +kernel)) rfl
  · exact bw_c7 (List.mem_of_getElem? (i := 76) (by decide +kernel)) rfl
  · exact bw_c7 (List.mem_of_getElem? (i := 78) (by decide +kernel)) rfl
  · exact bw_c7 (List.mem_of_getElem? (i := 80) (by decide +kernel)) rfl
  · exact bw_c7 (List.mem_of_getElem? (i := 82) (by decide +kernel)) rfl
  · exact bw_c7 (List.mem_of_getElem? (i := 84) (by decide +kernel)) rfl
  · exact bw_c7 (List.mem_of_getElem? (i := 86) (by decide +kernel)) rfl
  · exact bw_c7 (List.mem_of_getElem? (i := 88) (by decide +kernel)) rfl
  · exact bw_c7 (List.mem_of_getElem? (i := 90) (by decide +kernel)) rfl
  · exact bw_c7 (List.mem_of_getElem? (i := 92) (by decide +kernel)) rfl
  · exact bw_c7 (List.mem_of_getElem? (i := 94) (by decide +kernel)) rfl
  · exact bw_c7 (List.mem_of_getElem? (i := 96) (by decide +kernel)) rfl
  · exact bw_c7 (List.mem_of_getElem? (i := 98) (by decide +kernel)) rfl
  · exact bw_c7 (List.mem_of_getElem? (i := 100) (by decide +kernel)) rfl
  · exact bw_c7 (List.mem_of_getElem? (i := 102) (by decide +kernel)) rfl
  · exact bw_c7 (List.mem_of_getElem? (i := 104) (by decide +kernel)) rfl
  · exact bw_c7 (List.mem_of_getElem? (i := 106) (by decide +kernel)) rfl
  · exact bw_c7 (List.mem_of_getElem? (i := 108) (by decide +kernel)) rfl
  · exact bw_c7 (List.mem_of_getElem? (i := 110) (by decide +kernel)) rfl
  · exact bw_c7 (List.mem_of_getElem? (i := 112) (by decide +kernel)) rfl
  · exact bw_c7 (List.mem_of_getElem? (i := 114) (by decide +kernel)) rfl
  · exact bw_c7 (List.mem_of_getElem? (i := 116) (by decide +kernel)) rfl
  · exact bw_c7 (List.mem_of_getElem? (i := 118) (by decide +kernel)) rfl
  · exact bw_c7 (List.mem_of_getElem? (i := 120) (by decide +kernel)) rfl
  · exact bw_c7 (List.mem_of_getElem? (i := 122) (by decide +kernel)) rfl
  · exact bw_c7 (List.mem_of_getElem? (i := 124) (by decide +kernel)) rfl
  · exact bw_c7 (List.mem_of_getElem? (i := 126) (by decide +kernel)) rfl
  · exact bw_c7 (List.mem_of_getElem? (i := 128) (by decide +kernel)) rfl
  · exact bw_c7 (List.mem_of_getElem? (i := 130) (by decide +kernel)) rfl
  · exact bw_c7 (List.mem_of_getElem? (i := 132) (by decide +kernel)) rfl
  · exact bw_c7 (List.mem_of_getElem? (i := 134) (by decide +kernel)) rfl
  · exact bw_c7 (List.mem_of_getElem? (i := 136) (by decide +kernel)) rfl
  · exact bw_c7 (List.mem_of_getElem? (i := 138) (by decide +kernel)) rfl
  · exact bw_c7 (List.mem_of_getElem? (i := 140) (by decide +kernel)) rfl
  · exact bw_c7 (List.mem_of_getElem? (i := 142) (by decide +kernel)) rfl
  · exact bw_c7 (List.mem_of_getElem? (i := 144) (by decide +kernel)) rfl
  · exact bw_c7 (List.mem_of_getElem? (i := 146) (by decide +kernel)) rfl
  · exact bw_c7 (List.mem_of_getElem? (i := 148) (by decide +kernel)) rfl
  · exact bw_c7 (List.mem_of_getElem? (i := 150) (by decide +kernel)) rfl
  · exact bw_c7 (List.mem_of_getElem? (i := 152) (by decide +kernel)) rfl
  · exact bw_c7 (List.mem_of_getElem? (i := 154) (by decide +kernel)) rfl
  · exact bw_c7 (List.mem_of_getElem? (i := 156) (by decide +kernel)) rfl
  · exact bw_c7 (List.mem_of_getElem? (i := 158) (by decide +kernel)) rfl
  · exact bw_c7 (List.mem_of_getElem? (i := 160) (by decide +kernel)) rfl
  · exact bw_c7 (List.mem_of_getElem? (i := 162) (by decide +kernel)) rfl
  · exact bw_c7 (List.mem_of_getElem? (i := 164) (by decide +kernel)) rfl
  · exact bw_c7 (List.mem_of_getElem? (i := 166) (by decide +kernel)) rfl
  · exact bw_c7 (List.mem_of_getElem? (i := 168) (by decide +kernel)) rfl
  · exact bw_c7 (List.mem_of_getElem? (i := 170) (by decide +kernel)) rfl
  · exact bw_c7 (List.mem_of_getElem? (i := 172) (by decide +kernel)) rfl
  · exact bw_c7 (List.mem_of_getElem? (i := 174) (by decide +kernel)) rfl
  · exact bw_c7 (List.mem_of_getElem? (i := 176) (by decide +kernel)) rfl
set_option maxRecDepth 20000 in
theorem lf_X8_9 : LKF RX8 9 8 0 (.array .char) true := ⟨RX8, TX8, 2, tyX8, rfl, by decide, bw_c1 (List.mem_of_getElem? (i := 41) (by decide +kernel)) rfl, inBX8, tyX8_ok, nmX8, rfl, rfl, rfl⟩
set_option maxRecDepth 20000 in
theorem lf_X9_42 : LKF RX9 42 8 0 (.array .char) true := ⟨RX8, TX8, 2, tyX8, rfl, by decide, bw_c1 (List.mem_of_getElem? (i := 42) (by decide +kernel)) rfl, inBX8, tyX8_ok, nmX8, rfl, rfl, rfl⟩
set_option maxRecDepth 20000 in
theorem lf_X9_29 : LKF RX9 29 8 1 .int false := ⟨RX8, TX8, 2, tyX8, rfl, by decide, bw_c1 (List.mem_of_getElem? (i := 43) (by decide +kernel)) rfl, inBX8, tyX8_ok, nmX8, rfl, rfl, rfl⟩
set_option maxRecDepth 20000 in
theorem lf_X8_15 : LKF RX8 15 8 1 .int false := ⟨RX8, TX8, 2, tyX8, rfl, by decide, bw_c1 (List.mem_of_getElem? (i := 44) (by decide +kernel)) rfl, inBX8, tyX8_ok, nmX8, rfl, rfl, rfl⟩
set_option maxRecDepth 20000 in
theorem lf_X11_88 : LKF RX11 88 8 1 .int false := ⟨RX8, TX8, 2, tyX8, rfl, by decide, bw_c1 (List.mem_of_getElem? (i := 45) (by decide +kernel)) rfl, inBX8, tyX8_ok, nmX8, rfl, rfl, rfl⟩
set_option maxRecDepth 20000 in
theorem lf_X2_9 : LKF RX2 9 2 0 (.array .int) true := ⟨RX2, TX2, 7, tyX2, rfl, by decide, bw_c1 (List.mem_of_getElem? (i := 64) (by decide +kernel)) rfl, inBX2, tyX2_ok, nmX2, rfl, rfl, rfl⟩
set_option maxRecDepth 20000 in
theorem lf_X10_161 : LKF RX10 161 2 0 (.array .int) true := ⟨RX2, TX2, 7, tyX2, rfl, by decide, bw_c1 (List.mem_of_getElem? (i := 65) (by decide +kernel)) rfl, inBX2, tyX2_ok, nmX2, rfl, rfl, rfl⟩
set_option maxRecDepth 20000 in
theorem lf_X2_37 : LKF RX2 37 2 1 .int false := ⟨RX2, TX2, 7, tyX2, rfl, by decide, bw_c1 (List.mem_of_getElem? (i := 66) (by decide +kernel)) rfl, inBX2, tyX2_ok, nmX2, rfl, rfl, rfl⟩
set_option maxRecDepth 20000 in
theorem lf_X11_153 : LKF RX11 153 2 1 .int false := ⟨RX2, TX2, 7, tyX2, rfl, by decide, bw_c1 (List.mem_of_getElem? (i := 67) (by decide +kernel)) rfl, inBX2, tyX2_ok, nmX2, rfl, rfl, rfl⟩
set_option maxRecDepth 20000 in
theorem lf_X5_99 : LKF RX5 99 2 1 .int false := ⟨RX2, TX2, 7, tyX2, rfl, by decide, bw_c1 (List.mem_of_getElem? (i := 68) (by decide +kernel)) rfl, inBX2, tyX2_ok, nmX2, rfl, rfl, rfl⟩
set_option maxRecDepth 20000 in
theorem lf_X2_15 : LKF RX2 15 2 2 (.array .int) true := ⟨RX2, TX2, 7, tyX2, rfl, by decide, bw_c1 (List.mem_of_getElem? (i := 69) (by decide +kernel)) rfl, inBX2, tyX2_ok, nmX2, rfl, rfl, rfl⟩
set_option maxRecDepth 20000 in
theorem lf_X2_18 : LKF RX2 18 2 3 (.array .int) true := ⟨RX2, TX2, 7, tyX2, rfl, by decide, bw_c1 (List.mem_of_getElem? (i := 70) (by decide +kernel)) rfl, inBX2, tyX2_ok, nmX2, rfl, rfl, rfl⟩
set_option maxRecDepth 20000 in
theorem lf_X2_21 : LKF RX2 21 2 4 (.array .int) true := ⟨RX2, TX2, 7, tyX2, rfl, by decide, bw_c1 (List.mem_of_getElem? (i := 71) (by decide +kernel)) rfl, inBX2, tyX2_ok, nmX2, rfl, rfl, rfl⟩
set_option maxRecDepth 20000 in
theorem lf_X2_24 : LKF RX2 24 2 5 (.array .int) true := ⟨RX2, TX2, 7, tyX2, rfl, by decide, bw_c1 (List.mem_of_getElem? (i := 72) (by decide +kernel)) rfl, inBX2, tyX2_ok, nmX2, rfl, rfl, rfl⟩
set_option maxRecDepth 20000 in
theorem lf_X2_33 : LKF RX2 33 2 6 .int false := ⟨RX2, TX2, 7, tyX2, rfl, by decide, bw_c1 (List.mem_of_getElem? (i := 73) (by decide +kernel)) rfl, inBX2, tyX2_ok, nmX2, rfl, rfl, rfl⟩
set_option maxRecDepth 20000 in
theorem lf_X9_9 : LKF RX9 9 9 0 (.array .int) true := ⟨RX9, TX9, 5, tyX9, rfl, by decide, bw_c1 (List.mem_of_getElem? (i := 96) (by decide +kernel)) rfl, inBX9, tyX9_ok, nmX9, rfl, rfl, rfl⟩
set_option maxRecDepth 20000 in
theorem lf_X5_74 : LKF RX5 74 9 0 (.array .int) true := ⟨RX9, TX9, 5, tyX9, rfl, by decide, bw_c1 (List.mem_of_getElem? (i := 97) (by decide +kernel)) rfl, inBX9, tyX9_ok, nmX9, rfl, rfl, rfl⟩
set_option maxRecDepth 20000 in
theorem lf_X9_15 : LKF RX9 15 9 1 (.array .int) true := ⟨RX9, TX9, 5, tyX9, rfl, by decide, bw_c1 (List.mem_of_getElem? (i := 98) (by decide +kernel)) rfl, inBX9, tyX9_ok, nmX9, rfl, rfl, rfl⟩
set_option maxRecDepth 20000 in
theorem lf_X5_77 : LKF RX5 77 9 1 (.array .int) true := ⟨RX9, TX9, 5, tyX9, rfl, by decide, bw_c1 (List.mem_of_getElem? (i := 99) (by decide +kernel)) rfl, inBX9, tyX9_ok, nmX9, rfl, rfl, rfl⟩
set_option maxRecDepth 20000 in
theorem lf_X9_18 : LKF RX9 18 9 2 (.array .int) true := ⟨RX9, TX9, 5, tyX9, rfl, by decide, bw_c1 (List.mem_of_getElem? (i := 100) (by decide +kernel)) rfl, inBX9, tyX9_ok, nmX9, rfl, rfl, rfl⟩
set_option maxRecDepth 20000 in
theorem lf_X5_82 : LKF RX5 82 9 2 (.array .int) true := ⟨RX9, TX9, 5, tyX9, rfl, by decide, bw_c1 (List.mem_of_getElem? (i := 101) (by decide +kernel)) rfl, inBX9, tyX9_ok, nmX9, rfl, rfl, rfl⟩
set_option maxRecDepth 20000 in
theorem lf_X9_21 : LKF RX9 21 9 3 (.object "OldLift$Tape") true := ⟨RX9, TX9, 5, tyX9, rfl, by decide, bw_c1 (List.mem_of_getElem? (i := 102) (by decide +kernel)) rfl, inBX9, tyX9_ok, nmX9, rfl, rfl, rfl⟩
set_option maxRecDepth 20000 in
theorem lf_X9_25 : LKF RX9 25 9 4 .int false := ⟨RX9, TX9, 5, tyX9, rfl, by decide, bw_c1 (List.mem_of_getElem? (i := 103) (by decide +kernel)) rfl, inBX9, tyX9_ok, nmX9, rfl, rfl, rfl⟩
set_option maxRecDepth 20000 in
theorem lf_X5_12 : LKF RX5 12 5 0 (.object "OldLift$Code") true := ⟨RX5, TX5, 8, tyX5, rfl, by decide, bw_c1 (List.mem_of_getElem? (i := 115) (by decide +kernel)) rfl, inBX5, tyX5_ok, nmX5, rfl, rfl, rfl⟩
set_option maxRecDepth 20000 in
theorem lf_X11_103 : LKF RX11 103 5 0 (.object "OldLift$Code") true := ⟨RX5, TX5, 8, tyX5, rfl, by decide, bw_c1 (List.mem_of_getElem? (i := 116) (by decide +kernel)) rfl, inBX5, tyX5_ok, nmX5, rfl, rfl, rfl⟩
set_option maxRecDepth 20000 in
theorem lf_X5_23 : LKF RX5 23 5 1 (.object "OldLift$Tokens") true := ⟨RX5, TX5, 8, tyX5, rfl, by decide, bw_c1 (List.mem_of_getElem? (i := 117) (by decide +kernel)) rfl, inBX5, tyX5_ok, nmX5, rfl, rfl, rfl⟩
set_option maxRecDepth 20000 in
theorem lf_X5_68 : LKF RX5 68 5 2 .int false := ⟨RX5, TX5, 8, tyX5, rfl, by decide, bw_c1 (List.mem_of_getElem? (i := 118) (by decide +kernel)) rfl, inBX5, tyX5_ok, nmX5, rfl, rfl, rfl⟩
set_option maxRecDepth 20000 in
theorem lf_X5_35 : LKF RX5 35 5 3 .int false := ⟨RX5, TX5, 8, tyX5, rfl, by decide, bw_c1 (List.mem_of_getElem? (i := 119) (by decide +kernel)) rfl, inBX5, tyX5_ok, nmX5, rfl, rfl, rfl⟩
set_option maxRecDepth 20000 in
theorem lf_X5_80 : LKF RX5 80 5 4 .int false := ⟨RX5, TX5, 8, tyX5, rfl, by decide, bw_c1 (List.mem_of_getElem? (i := 120) (by decide +kernel)) rfl, inBX5, tyX5_ok, nmX5, rfl, rfl, rfl⟩
set_option maxRecDepth 20000 in
theorem lf_X5_31 : LKF RX5 31 5 5 .int false := ⟨RX5, TX5, 8, tyX5, rfl, by decide, bw_c1 (List.mem_of_getElem? (i := 121) (by decide +kernel)) rfl, inBX5, tyX5_ok, nmX5, rfl, rfl, rfl⟩
set_option maxRecDepth 20000 in
theorem lf_X5_65 : LKF RX5 65 5 6 .int false := ⟨RX5, TX5, 8, tyX5, rfl, by decide, bw_c1 (List.mem_of_getElem? (i := 122) (by decide +kernel)) rfl, inBX5, tyX5_ok, nmX5, rfl, rfl, rfl⟩
set_option maxRecDepth 20000 in
theorem lf_X5_61 : LKF RX5 61 5 7 .boolean false := ⟨RX5, TX5, 8, tyX5, rfl, by decide, bw_c1 (List.mem_of_getElem? (i := 123) (by decide +kernel)) rfl, inBX5, tyX5_ok, nmX5, rfl, rfl, rfl⟩
set_option maxRecDepth 20000 in
theorem lf_X4_12 : LKF RX4 12 4 0 (.object "OldLift$Code") true := ⟨RX4, TX4, 5, tyX4, rfl, by decide, bw_c1 (List.mem_of_getElem? (i := 149) (by decide +kernel)) rfl, inBX4, tyX4_ok, nmX4, rfl, rfl, rfl⟩
set_option maxRecDepth 20000 in
theorem lf_X11_99 : LKF RX11 99 4 0 (.object "OldLift$Code") true := ⟨RX4, TX4, 5, tyX4, rfl, by decide, bw_c1 (List.mem_of_getElem? (i := 150) (by decide +kernel)) rfl, inBX4, tyX4_ok, nmX4, rfl, rfl, rfl⟩
set_option maxRecDepth 20000 in
theorem lf_X4_28 : LKF RX4 28 4 1 .int false := ⟨RX4, TX4, 5, tyX4, rfl, by decide, bw_c1 (List.mem_of_getElem? (i := 151) (by decide +kernel)) rfl, inBX4, tyX4_ok, nmX4, rfl, rfl, rfl⟩
set_option maxRecDepth 20000 in
theorem lf_X11_92 : LKF RX11 92 4 1 .int false := ⟨RX4, TX4, 5, tyX4, rfl, by decide, bw_c1 (List.mem_of_getElem? (i := 152) (by decide +kernel)) rfl, inBX4, tyX4_ok, nmX4, rfl, rfl, rfl⟩
set_option maxRecDepth 20000 in
theorem lf_X0_62 : LKF RX0 62 4 1 .int false := ⟨RX4, TX4, 5, tyX4, rfl, by decide, bw_c1 (List.mem_of_getElem? (i := 153) (by decide +kernel)) rfl, inBX4, tyX4_ok, nmX4, rfl, rfl, rfl⟩
set_option maxRecDepth 20000 in
theorem lf_X4_18 : LKF RX4 18 4 2 .int false := ⟨RX4, TX4, 5, tyX4, rfl, by decide, bw_c1 (List.mem_of_getElem? (i := 154) (by decide +kernel)) rfl, inBX4, tyX4_ok, nmX4, rfl, rfl, rfl⟩
set_option maxRecDepth 20000 in
theorem lf_X11_132 : LKF RX11 132 4 2 .int false := ⟨RX4, TX4, 5, tyX4, rfl, by decide, bw_c1 (List.mem_of_getElem? (i := 155) (by decide +kernel)) rfl, inBX4, tyX4_ok, nmX4, rfl, rfl, rfl⟩
set_option maxRecDepth 20000 in
theorem lf_X4_22 : LKF RX4 22 4 3 .int false := ⟨RX4, TX4, 5, tyX4, rfl, by decide, bw_c1 (List.mem_of_getElem? (i := 156) (by decide +kernel)) rfl, inBX4, tyX4_ok, nmX4, rfl, rfl, rfl⟩
set_option maxRecDepth 20000 in
theorem lf_X11_144 : LKF RX11 144 4 3 .int false := ⟨RX4, TX4, 5, tyX4, rfl, by decide, bw_c1 (List.mem_of_getElem? (i := 157) (by decide +kernel)) rfl, inBX4, tyX4_ok, nmX4, rfl, rfl, rfl⟩
set_option maxRecDepth 20000 in
theorem lf_X4_25 : LKF RX4 25 4 4 .int false := ⟨RX4, TX4, 5, tyX4, rfl, by decide, bw_c1 (List.mem_of_getElem? (i := 158) (by decide +kernel)) rfl, inBX4, tyX4_ok, nmX4, rfl, rfl, rfl⟩
set_option maxRecDepth 20000 in
theorem lf_X11_147 : LKF RX11 147 4 4 .int false := ⟨RX4, TX4, 5, tyX4, rfl, by decide, bw_c1 (List.mem_of_getElem? (i := 159) (by decide +kernel)) rfl, inBX4, tyX4_ok, nmX4, rfl, rfl, rfl⟩
set_option maxRecDepth 20000 in
theorem lf_X0_47 : LKF RX0 47 0 0 (.object "OldLift$Machine") true := ⟨RX0, TX0, 14, tyX0, rfl, by decide, bw_c1 (List.mem_of_getElem? (i := 179) (by decide +kernel)) rfl, inBX0, tyX0_ok, nmX0, rfl, rfl, rfl⟩
set_option maxRecDepth 20000 in
theorem lf_X0_9 : LKF RX0 9 0 1 (.array .int) true := ⟨RX0, TX0, 14, tyX0, rfl, by decide, bw_c1 (List.mem_of_getElem? (i := 180) (by decide +kernel)) rfl, inBX0, tyX0_ok, nmX0, rfl, rfl, rfl⟩
set_option maxRecDepth 20000 in
theorem lf_X0_17 : LKF RX0 17 0 2 (.array (.array .int)) true := ⟨RX0, TX0, 14, tyX0, rfl, by decide, bw_c1 (List.mem_of_getElem? (i := 181) (by decide +kernel)) rfl, inBX0, tyX0_ok, nmX0, rfl, rfl, rfl⟩
set_option maxRecDepth 20000 in
theorem lf_X0_20 : LKF RX0 20 0 3 (.array .int) true := ⟨RX0, TX0, 14, tyX0, rfl, by decide, bw_c1 (List.mem_of_getElem? (i := 182) (by decide +kernel)) rfl, inBX0, tyX0_ok, nmX0, rfl, rfl, rfl⟩
set_option maxRecDepth 20000 in
theorem lf_X0_23 : LKF RX0 23 0 4 (.array .int) true := ⟨RX0, TX0, 14, tyX0, rfl, by decide, bw_c1 (List.mem_of_getElem? (i := 183) (by decide +kernel)) rfl, inBX0, tyX0_ok, nmX0, rfl, rfl, rfl⟩
set_option maxRecDepth 20000 in
theorem lf_X0_26 : LKF RX0 26 0 5 (.array .int) true := ⟨RX0, TX0, 14, tyX0, rfl, by decide, bw_c1 (List.mem_of_getElem? (i := 184) (by decide +kernel)) rfl, inBX0, tyX0_ok, nmX0, rfl, rfl, rfl⟩
set_option maxRecDepth 20000 in
theorem lf_X0_29 : LKF RX0 29 0 6 (.array .int) true := ⟨RX0, TX0, 14, tyX0, rfl, by decide, bw_c1 (List.mem_of_getElem? (i := 185) (by decide +kernel)) rfl, inBX0, tyX0_ok, nmX0, rfl, rfl, rfl⟩
set_option maxRecDepth 20000 in
theorem lf_X0_32 : LKF RX0 32 0 7 (.array .int) true := ⟨RX0, TX0, 14, tyX0, rfl, by decide, bw_c1 (List.mem_of_getElem? (i := 186) (by decide +kernel)) rfl, inBX0, tyX0_ok, nmX0, rfl, rfl, rfl⟩
set_option maxRecDepth 20000 in
theorem lf_X0_35 : LKF RX0 35 0 8 (.array .int) true := ⟨RX0, TX0, 14, tyX0, rfl, by decide, bw_c1 (List.mem_of_getElem? (i := 187) (by decide +kernel)) rfl, inBX0, tyX0_ok, nmX0, rfl, rfl, rfl⟩
set_option maxRecDepth 20000 in
theorem lf_X0_38 : LKF RX0 38 0 9 (.array .int) true := ⟨RX0, TX0, 14, tyX0, rfl, by decide, bw_c1 (List.mem_of_getElem? (i := 188) (by decide +kernel)) rfl, inBX0, tyX0_ok, nmX0, rfl, rfl, rfl⟩
set_option maxRecDepth 20000 in
theorem lf_X0_41 : LKF RX0 41 0 10 (.array .int) true := ⟨RX0, TX0, 14, tyX0, rfl, by decide, bw_c1 (List.mem_of_getElem? (i := 189) (by decide +kernel)) rfl, inBX0, tyX0_ok, nmX0, rfl, rfl, rfl⟩
set_option maxRecDepth 20000 in
theorem lf_X0_44 : LKF RX0 44 0 11 (.array .int) true := ⟨RX0, TX0, 14, tyX0, rfl, by decide, bw_c1 (List.mem_of_getElem? (i := 190) (by decide +kernel)) rfl, inBX0, tyX0_ok, nmX0, rfl, rfl, rfl⟩
set_option maxRecDepth 20000 in
theorem lf_X0_51 : LKF RX0 51 0 12 .boolean false := ⟨RX0, TX0, 14, tyX0, rfl, by decide, bw_c1 (List.mem_of_getElem? (i := 191) (by decide +kernel)) rfl, inBX0, tyX0_ok, nmX0, rfl, rfl, rfl⟩
set_option maxRecDepth 20000 in
theorem lf_X0_58 : LKF RX0 58 0 13 .int false := ⟨RX0, TX0, 14, tyX0, rfl, by decide, bw_c1 (List.mem_of_getElem? (i := 192) (by decide +kernel)) rfl, inBX0, tyX0_ok, nmX0, rfl, rfl, rfl⟩
set_option maxRecDepth 20000 in
theorem lf_X3_39 : LKF RX3 39 3 0 .boolean false := ⟨RX3, TX3, 14, tyX3, rfl, by decide, bw_c1 (List.mem_of_getElem? (i := 229) (by decide +kernel)) rfl, inBX3, tyX3_ok, nmX3, rfl, rfl, rfl⟩
set_option maxRecDepth 20000 in
theorem lf_X11_181 : LKF RX11 181 3 0 .boolean false := ⟨RX3, TX3, 14, tyX3, rfl, by decide, bw_c1 (List.mem_of_getElem? (i := 230) (by decide +kernel)) rfl, inBX3, tyX3_ok, nmX3, rfl, rfl, rfl⟩
set_option maxRecDepth 20000 in
theorem lf_X3_43 : LKF RX3 43 3 1 .int false := ⟨RX3, TX3, 14, tyX3, rfl, by decide, bw_c1 (List.mem_of_getElem? (i := 231) (by decide +kernel)) rfl, inBX3, tyX3_ok, nmX3, rfl, rfl, rfl⟩
set_option maxRecDepth 20000 in
theorem lf_X11_188 : LKF RX11 188 3 1 .int false := ⟨RX3, TX3, 14, tyX3, rfl, by decide, bw_c1 (List.mem_of_getElem? (i := 232) (by decide +kernel)) rfl, inBX3, tyX3_ok, nmX3, rfl, rfl, rfl⟩
set_option maxRecDepth 20000 in
theorem lf_X3_80 : LKF RX3 80 3 2 .int false := ⟨RX3, TX3, 14, tyX3, rfl, by decide, bw_c1 (List.mem_of_getElem? (i := 233) (by decide +kernel)) rfl, inBX3, tyX3_ok, nmX3, rfl, rfl, rfl⟩
set_option maxRecDepth 20000 in
theorem lf_X11_196 : LKF RX11 196 3 2 .int false := ⟨RX3, TX3, 14, tyX3, rfl, by decide, bw_c1 (List.mem_of_getElem? (i := 234) (by decide +kernel)) rfl, inBX3, tyX3_ok, nmX3, rfl, rfl, rfl⟩
set_option maxRecDepth 20000 in
theorem lf_X3_83 : LKF RX3 83 3 3 .int false := ⟨RX3, TX3, 14, tyX3, rfl, by decide, bw_c1 (List.mem_of_getElem? (i := 235) (by decide +kernel)) rfl, inBX3, tyX3_ok, nmX3, rfl, rfl, rfl⟩
set_option maxRecDepth 20000 in
theorem lf_X11_199 : LKF RX11 199 3 3 .int false := ⟨RX3, TX3, 14, tyX3, rfl, by decide, bw_c1 (List.mem_of_getElem? (i := 236) (by decide +kernel)) rfl, inBX3, tyX3_ok, nmX3, rfl, rfl, rfl⟩
set_option maxRecDepth 20000 in
theorem lf_X3_35 : LKF RX3 35 3 4 (.object "OldLift$Atlas") true := ⟨RX3, TX3, 14, tyX3, rfl, by decide, bw_c1 (List.mem_of_getElem? (i := 237) (by decide +kernel)) rfl, inBX3, tyX3_ok, nmX3, rfl, rfl, rfl⟩
set_option maxRecDepth 20000 in
theorem lf_X3_9 : LKF RX3 9 3 5 (.array .int) true := ⟨RX3, TX3, 14, tyX3, rfl, by decide, bw_c1 (List.mem_of_getElem? (i := 238) (by decide +kernel)) rfl, inBX3, tyX3_ok, nmX3, rfl, rfl, rfl⟩
set_option maxRecDepth 20000 in
theorem lf_X3_15 : LKF RX3 15 3 6 (.array .int) true := ⟨RX3, TX3, 14, tyX3, rfl, by decide, bw_c1 (List.mem_of_getElem? (i := 239) (by decide +kernel)) rfl, inBX3, tyX3_ok, nmX3, rfl, rfl, rfl⟩
set_option maxRecDepth 20000 in
theorem lf_X3_18 : LKF RX3 18 3 7 (.array .int) true := ⟨RX3, TX3, 14, tyX3, rfl, by decide, bw_c2 (List.mem_of_getElem? (i := 0) (by decide +kernel)) rfl, inBX3, tyX3_ok, nmX3, rfl, rfl, rfl⟩
set_option maxRecDepth 20000 in
theorem lf_X3_21 : LKF RX3 21 3 8 (.array .int) true := ⟨RX3, TX3, 14, tyX3, rfl, by decide, bw_c2 (List.mem_of_getElem? (i := 1) (by decide +kernel)) rfl, inBX3, tyX3_ok, nmX3, rfl, rfl, rfl⟩
set_option maxRecDepth 20000 in
theorem lf_X3_24 : LKF RX3 24 3 9 (.array .int) true := ⟨RX3, TX3, 14, tyX3, rfl, by decide, bw_c2 (List.mem_of_getElem? (i := 2) (by decide +kernel)) rfl, inBX3, tyX3_ok, nmX3, rfl, rfl, rfl⟩
set_option maxRecDepth 20000 in
theorem lf_X3_29 : LKF RX3 29 3 10 (.array (.array .int)) true := ⟨RX3, TX3, 14, tyX3, rfl, by decide, bw_c2 (List.mem_of_getElem? (i := 3) (by decide +kernel)) rfl, inBX3, tyX3_ok, nmX3, rfl, rfl, rfl⟩
set_option maxRecDepth 20000 in
theorem lf_X3_32 : LKF RX3 32 3 11 (.array (.array .int)) true := ⟨RX3, TX3, 14, tyX3, rfl, by decide, bw_c2 (List.mem_of_getElem? (i := 4) (by decide +kernel)) rfl, inBX3, tyX3_ok, nmX3, rfl, rfl, rfl⟩
set_option maxRecDepth 20000 in
theorem lf_X3_47 : LKF RX3 47 3 12 .boolean false := ⟨RX3, TX3, 14, tyX3, rfl, by decide, bw_c2 (List.mem_of_getElem? (i := 5) (by decide +kernel)) rfl, inBX3, tyX3_ok, nmX3, rfl, rfl, rfl⟩
set_option maxRecDepth 20000 in
theorem lf_X3_60 : LKF RX3 60 3 13 .int false := ⟨RX3, TX3, 14, tyX3, rfl, by decide, bw_c2 (List.mem_of_getElem? (i := 6) (by decide +kernel)) rfl, inBX3, tyX3_ok, nmX3, rfl, rfl, rfl⟩
set_option maxRecDepth 20000 in
theorem lf_X6_12 : LKF RX6 12 6 0 (.object "OldLift$Code") true := ⟨RX6, TX6, 17, tyX6, rfl, by decide, bw_c2 (List.mem_of_getElem? (i := 44) (by decide +kernel)) rfl, inBX6, tyX6_ok, nmX6, rfl, rfl, rfl⟩
set_option maxRecDepth 20000 in
theorem lf_X10_157 : LKF RX10 157 6 0 (.object "OldLift$Code") true := ⟨RX6, TX6, 17, tyX6, rfl, by decide, bw_c2 (List.mem_of_getElem? (i := 45) (by decide +kernel)) rfl, inBX6, tyX6_ok, nmX6, rfl, rfl, rfl⟩
set_option maxRecDepth 20000 in
theorem lf_X6_18 : LKF RX6 18 6 1 (.array .int) true := ⟨RX6, TX6, 17, tyX6, rfl, by decide, bw_c2 (List.mem_of_getElem? (i := 46) (by decide +kernel)) rfl, inBX6, tyX6_ok, nmX6, rfl, rfl, rfl⟩
set_option maxRecDepth 20000 in
theorem lf_X10_140 : LKF RX10 140 6 1 (.array .int) true := ⟨RX6, TX6, 17, tyX6, rfl, by decide, bw_c2 (List.mem_of_getElem? (i := 47) (by decide +kernel)) rfl, inBX6, tyX6_ok, nmX6, rfl, rfl, rfl⟩
set_option maxRecDepth 20000 in
theorem lf_X6_22 : LKF RX6 22 6 2 (.array .int) true := ⟨RX6, TX6, 17, tyX6, rfl, by decide, bw_c2 (List.mem_of_getElem? (i := 48) (by decide +kernel)) rfl, inBX6, tyX6_ok, nmX6, rfl, rfl, rfl⟩
set_option maxRecDepth 20000 in
theorem lf_X10_134 : LKF RX10 134 6 2 (.array .int) true := ⟨RX6, TX6, 17, tyX6, rfl, by decide, bw_c2 (List.mem_of_getElem? (i := 49) (by decide +kernel)) rfl, inBX6, tyX6_ok, nmX6, rfl, rfl, rfl⟩
set_option maxRecDepth 20000 in
theorem lf_X6_25 : LKF RX6 25 6 3 (.array .int) true := ⟨RX6, TX6, 17, tyX6, rfl, by decide, bw_c2 (List.mem_of_getElem? (i := 50) (by decide +kernel)) rfl, inBX6, tyX6_ok, nmX6, rfl, rfl, rfl⟩
set_option maxRecDepth 20000 in
theorem lf_X10_137 : LKF RX10 137 6 3 (.array .int) true := ⟨RX6, TX6, 17, tyX6, rfl, by decide, bw_c2 (List.mem_of_getElem? (i := 51) (by decide +kernel)) rfl, inBX6, tyX6_ok, nmX6, rfl, rfl, rfl⟩
set_option maxRecDepth 20000 in
theorem lf_X6_28 : LKF RX6 28 6 4 (.array .int) true := ⟨RX6, TX6, 17, tyX6, rfl, by decide, bw_c2 (List.mem_of_getElem? (i := 52) (by decide +kernel)) rfl, inBX6, tyX6_ok, nmX6, rfl, rfl, rfl⟩
set_option maxRecDepth 20000 in
theorem lf_X10_183 : LKF RX10 183 6 4 (.array .int) true := ⟨RX6, TX6, 17, tyX6, rfl, by decide, bw_c2 (List.mem_of_getElem? (i := 53) (by decide +kernel)) rfl, inBX6, tyX6_ok, nmX6, rfl, rfl, rfl⟩
set_option maxRecDepth 20000 in
theorem lf_X6_31 : LKF RX6 31 6 5 (.array .int) true := ⟨RX6, TX6, 17, tyX6, rfl, by decide, bw_c2 (List.mem_of_getElem? (i := 54) (by decide +kernel)) rfl, inBX6, tyX6_ok, nmX6, rfl, rfl, rfl⟩
set_option maxRecDepth 20000 in
theorem lf_X10_180 : LKF RX10 180 6 5 (.array .int) true := ⟨RX6, TX6, 17, tyX6, rfl, by decide, bw_c2 (List.mem_of_getElem? (i := 55) (by decide +kernel)) rfl, inBX6, tyX6_ok, nmX6, rfl, rfl, rfl⟩
set_option maxRecDepth 20000 in
theorem lf_X6_34 : LKF RX6 34 6 6 (.array .int) true := ⟨RX6, TX6, 17, tyX6, rfl, by decide, bw_c2 (List.mem_of_getElem? (i := 56) (by decide +kernel)) rfl, inBX6, tyX6_ok, nmX6, rfl, rfl, rfl⟩
set_option maxRecDepth 20000 in
theorem lf_X10_186 : LKF RX10 186 6 6 (.array .int) true := ⟨RX6, TX6, 17, tyX6, rfl, by decide, bw_c2 (List.mem_of_getElem? (i := 57) (by decide +kernel)) rfl, inBX6, tyX6_ok, nmX6, rfl, rfl, rfl⟩
set_option maxRecDepth 20000 in
theorem lf_X6_37 : LKF RX6 37 6 7 .int false := ⟨RX6, TX6, 17, tyX6, rfl, by decide, bw_c2 (List.mem_of_getElem? (i := 58) (by decide +kernel)) rfl, inBX6, tyX6_ok, nmX6, rfl, rfl, rfl⟩
set_option maxRecDepth 20000 in
theorem lf_X10_214 : LKF RX10 214 6 7 .int false := ⟨RX6, TX6, 17, tyX6, rfl, by decide, bw_c2 (List.mem_of_getElem? (i := 59) (by decide +kernel)) rfl, inBX6, tyX6_ok, nmX6, rfl, rfl, rfl⟩
set_option maxRecDepth 20000 in
theorem lf_X11_254 : LKF RX11 254 6 7 .int false := ⟨RX6, TX6, 17, tyX6, rfl, by decide, bw_c2 (List.mem_of_getElem? (i := 60) (by decide +kernel)) rfl, inBX6, tyX6_ok, nmX6, rfl, rfl, rfl⟩
set_option maxRecDepth 20000 in
theorem lf_X1_49 : LKF RX1 49 6 8 .int false := ⟨RX6, TX6, 17, tyX6, rfl, by decide, bw_c2 (List.mem_of_getElem? (i := 61) (by decide +kernel)) rfl, inBX6, tyX6_ok, nmX6, rfl, rfl, rfl⟩
set_option maxRecDepth 20000 in
theorem lf_X10_123 : LKF RX10 123 6 8 .int false := ⟨RX6, TX6, 17, tyX6, rfl, by decide, bw_c2 (List.mem_of_getElem? (i := 62) (by decide +kernel)) rfl, inBX6, tyX6_ok, nmX6, rfl, rfl, rfl⟩
set_option maxRecDepth 20000 in
theorem lf_X6_61 : LKF RX6 61 6 8 .int false := ⟨RX6, TX6, 17, tyX6, rfl, by decide, bw_c2 (List.mem_of_getElem? (i := 63) (by decide +kernel)) rfl, inBX6, tyX6_ok, nmX6, rfl, rfl, rfl⟩
set_option maxRecDepth 20000 in
theorem lf_X11_251 : LKF RX11 251 6 8 .int false := ⟨RX6, TX6, 17, tyX6, rfl, by decide, bw_c2 (List.mem_of_getElem? (i := 64) (by decide +kernel)) rfl, inBX6, tyX6_ok, nmX6, rfl, rfl, rfl⟩
set_option maxRecDepth 20000 in
theorem lf_X6_64 : LKF RX6 64 6 9 .int false := ⟨RX6, TX6, 17, tyX6, rfl, by decide, bw_c2 (List.mem_of_getElem? (i := 65) (by decide +kernel)) rfl, inBX6, tyX6_ok, nmX6, rfl, rfl, rfl⟩
set_option maxRecDepth 20000 in
theorem lf_X10_208 : LKF RX10 208 6 9 .int false := ⟨RX6, TX6, 17, tyX6, rfl, by decide, bw_c2 (List.mem_of_getElem? (i := 66) (by decide +kernel)) rfl, inBX6, tyX6_ok, nmX6, rfl, rfl, rfl⟩
set_option maxRecDepth 20000 in
theorem lf_X6_67 : LKF RX6 67 6 10 .int false := ⟨RX6, TX6, 17, tyX6, rfl, by decide, bw_c2 (List.mem_of_getElem? (i := 67) (by decide +kernel)) rfl, inBX6, tyX6_ok, nmX6, rfl, rfl, rfl⟩
set_option maxRecDepth 20000 in
theorem lf_X10_211 : LKF RX10 211 6 10 .int false := ⟨RX6, TX6, 17, tyX6, rfl, by decide, bw_c2 (List.mem_of_getElem? (i := 68) (by decide +kernel)) rfl, inBX6, tyX6_ok, nmX6, rfl, rfl, rfl⟩
set_option maxRecDepth 20000 in
theorem lf_X6_70 : LKF RX6 70 6 11 .int false := ⟨RX6, TX6, 17, tyX6, rfl, by decide, bw_c2 (List.mem_of_getElem? (i := 69) (by decide +kernel)) rfl, inBX6, tyX6_ok, nmX6, rfl, rfl, rfl⟩
set_option maxRecDepth 20000 in
theorem lf_X10_217 : LKF RX10 217 6 11 .int false := ⟨RX6, TX6, 17, tyX6, rfl, by decide, bw_c2 (List.mem_of_getElem? (i := 70) (by decide +kernel)) rfl, inBX6, tyX6_ok, nmX6, rfl, rfl, rfl⟩
set_option maxRecDepth 20000 in
theorem lf_X1_40 : LKF RX1 40 6 12 .int false := ⟨RX6, TX6, 17, tyX6, rfl, by decide, bw_c2 (List.mem_of_getElem? (i := 71) (by decide +kernel)) rfl, inBX6, tyX6_ok, nmX6, rfl, rfl, rfl⟩
set_option maxRecDepth 20000 in
theorem lf_X10_124 : LKF RX10 124 6 12 .int false := ⟨RX6, TX6, 17, tyX6, rfl, by decide, bw_c2 (List.mem_of_getElem? (i := 72) (by decide +kernel)) rfl, inBX6, tyX6_ok, nmX6, rfl, rfl, rfl⟩
set_option maxRecDepth 20000 in
theorem lf_X6_73 : LKF RX6 73 6 12 .int false := ⟨RX6, TX6, 17, tyX6, rfl, by decide, bw_c2 (List.mem_of_getElem? (i := 73) (by decide +kernel)) rfl, inBX6, tyX6_ok, nmX6, rfl, rfl, rfl⟩
set_option maxRecDepth 20000 in
theorem lf_X11_262 : LKF RX11 262 6 12 .int false := ⟨RX6, TX6, 17, tyX6, rfl, by decide, bw_c2 (List.mem_of_getElem? (i := 74) (by decide +kernel)) rfl, inBX6, tyX6_ok, nmX6, rfl, rfl, rfl⟩
set_option maxRecDepth 20000 in
theorem lf_X6_76 : LKF RX6 76 6 13 .int false := ⟨RX6, TX6, 17, tyX6, rfl, by decide, bw_c2 (List.mem_of_getElem? (i := 75) (by decide +kernel)) rfl, inBX6, tyX6_ok, nmX6, rfl, rfl, rfl⟩
set_option maxRecDepth 20000 in
theorem lf_X10_177 : LKF RX10 177 6 13 .int false := ⟨RX6, TX6, 17, tyX6, rfl, by decide, bw_c2 (List.mem_of_getElem? (i := 76) (by decide +kernel)) rfl, inBX6, tyX6_ok, nmX6, rfl, rfl, rfl⟩
set_option maxRecDepth 20000 in
theorem lf_X11_306 : LKF RX11 306 6 13 .int false := ⟨RX6, TX6, 17, tyX6, rfl, by decide, bw_c2 (List.mem_of_getElem? (i := 77) (by decide +kernel)) rfl, inBX6, tyX6_ok, nmX6, rfl, rfl, rfl⟩
set_option maxRecDepth 20000 in
theorem lf_X6_79 : LKF RX6 79 6 14 .int false := ⟨RX6, TX6, 17, tyX6, rfl, by decide, bw_c2 (List.mem_of_getElem? (i := 78) (by decide +kernel)) rfl, inBX6, tyX6_ok, nmX6, rfl, rfl, rfl⟩
set_option maxRecDepth 20000 in
theorem lf_X10_229 : LKF RX10 229 6 14 .int false := ⟨RX6, TX6, 17, tyX6, rfl, by decide, bw_c2 (List.mem_of_getElem? (i := 79) (by decide +kernel)) rfl, inBX6, tyX6_ok, nmX6, rfl, rfl, rfl⟩
set_option maxRecDepth 20000 in
theorem lf_X1_35 : LKF RX1 35 6 15 .int false := ⟨RX6, TX6, 17, tyX6, rfl, by decide, bw_c2 (List.mem_of_getElem? (i := 80) (by decide +kernel)) rfl, inBX6, tyX6_ok, nmX6, rfl, rfl, rfl⟩
set_option maxRecDepth 20000 in
theorem lf_X6_58 : LKF RX6 58 6 15 .int false := ⟨RX6, TX6, 17, tyX6, rfl, by decide, bw_c2 (List.mem_of_getElem? (i := 81) (by decide +kernel)) rfl, inBX6, tyX6_ok, nmX6, rfl, rfl, rfl⟩
set_option maxRecDepth 20000 in
theorem lf_X6_55 : LKF RX6 55 6 16 .int false := ⟨RX6, TX6, 17, tyX6, rfl, by decide, bw_c2 (List.mem_of_getElem? (i := 82) (by decide +kernel)) rfl, inBX6, tyX6_ok, nmX6, rfl, rfl, rfl⟩
set_option maxRecDepth 20000 in
theorem lf_X10_9 : LKF RX10 9 10 0 (.array .int) true := ⟨RX10, TX10, 20, tyX10, rfl, by decide, bw_c2 (List.mem_of_getElem? (i := 125) (by decide +kernel)) rfl, inBX10, tyX10_ok, nmX10, rfl, rfl, rfl⟩
set_option maxRecDepth 20000 in
theorem lf_X11_229 : LKF RX11 229 10 0 (.array .int) true := ⟨RX10, TX10, 20, tyX10, rfl, by decide, bw_c2 (List.mem_of_getElem? (i := 126) (by decide +kernel)) rfl, inBX10, tyX10_ok, nmX10, rfl, rfl, rfl⟩
set_option maxRecDepth 20000 in
theorem lf_X10_15 : LKF RX10 15 10 1 (.array .int) true := ⟨RX10, TX10, 20, tyX10, rfl, by decide, bw_c2 (List.mem_of_getElem? (i := 127) (by decide +kernel)) rfl, inBX10, tyX10_ok, nmX10, rfl, rfl, rfl⟩
set_option maxRecDepth 20000 in
theorem lf_X11_233 : LKF RX11 233 10 1 (.array .int) true := ⟨RX10, TX10, 20, tyX10, rfl, by decide, bw_c2 (List.mem_of_getElem? (i := 128) (by decide +kernel)) rfl, inBX10, tyX10_ok, nmX10, rfl, rfl, rfl⟩
set_option maxRecDepth 20000 in
theorem lf_X10_18 : LKF RX10 18 10 2 (.array .int) true := ⟨RX10, TX10, 20, tyX10, rfl, by decide, bw_c2 (List.mem_of_getElem? (i := 129) (by decide +kernel)) rfl, inBX10, tyX10_ok, nmX10, rfl, rfl, rfl⟩
set_option maxRecDepth 20000 in
theorem lf_X11_236 : LKF RX11 236 10 2 (.array .int) true := ⟨RX10, TX10, 20, tyX10, rfl, by decide, bw_c2 (List.mem_of_getElem? (i := 130) (by decide +kernel)) rfl, inBX10, tyX10_ok, nmX10, rfl, rfl, rfl⟩
set_option maxRecDepth 20000 in
theorem lf_X10_21 : LKF RX10 21 10 3 (.array .int) true := ⟨RX10, TX10, 20, tyX10, rfl, by decide, bw_c2 (List.mem_of_getElem? (i := 131) (by decide +kernel)) rfl, inBX10, tyX10_ok, nmX10, rfl, rfl, rfl⟩
set_option maxRecDepth 20000 in
theorem lf_X1_64 : LKF RX1 64 10 3 (.array .int) true := ⟨RX10, TX10, 20, tyX10, rfl, by decide, bw_c2 (List.mem_of_getElem? (i := 132) (by decide +kernel)) rfl, inBX10, tyX10_ok, nmX10, rfl, rfl, rfl⟩
set_option maxRecDepth 20000 in
theorem lf_X11_239 : LKF RX11 239 10 3 (.array .int) true := ⟨RX10, TX10, 20, tyX10, rfl, by decide, bw_c2 (List.mem_of_getElem? (i := 133) (by decide +kernel)) rfl, inBX10, tyX10_ok, nmX10, rfl, rfl, rfl⟩
set_option maxRecDepth 20000 in
theorem lf_X10_24 : LKF RX10 24 10 4 (.array .int) true := ⟨RX10, TX10, 20, tyX10, rfl, by decide, bw_c2 (List.mem_of_getElem? (i := 134) (by decide +kernel)) rfl, inBX10, tyX10_ok, nmX10, rfl, rfl, rfl⟩
set_option maxRecDepth 20000 in
theorem lf_X11_259 : LKF RX11 259 10 4 (.array .int) true := ⟨RX10, TX10, 20, tyX10, rfl, by decide, bw_c2 (List.mem_of_getElem? (i := 135) (by decide +kernel)) rfl, inBX10, tyX10_ok, nmX10, rfl, rfl, rfl⟩
set_option maxRecDepth 20000 in
theorem lf_X10_29 : LKF RX10 29 10 5 (.array (.array .int)) true := ⟨RX10, TX10, 20, tyX10, rfl, by decide, bw_c2 (List.mem_of_getElem? (i := 136) (by decide +kernel)) rfl, inBX10, tyX10_ok, nmX10, rfl, rfl, rfl⟩
set_option maxRecDepth 20000 in
theorem lf_X11_255 : LKF RX11 255 10 5 (.array (.array .int)) true := ⟨RX10, TX10, 20, tyX10, rfl, by decide, bw_c2 (List.mem_of_getElem? (i := 137) (by decide +kernel)) rfl, inBX10, tyX10_ok, nmX10, rfl, rfl, rfl⟩
set_option maxRecDepth 20000 in
theorem lf_X10_95 : LKF RX10 95 10 6 .int false := ⟨RX10, TX10, 20, tyX10, rfl, by decide, bw_c2 (List.mem_of_getElem? (i := 138) (by decide +kernel)) rfl, inBX10, tyX10_ok, nmX10, rfl, rfl, rfl⟩
set_option maxRecDepth 20000 in
theorem lf_X10_127 : LKF RX10 127 10 7 .int false := ⟨RX10, TX10, 20, tyX10, rfl, by decide, bw_c2 (List.mem_of_getElem? (i := 139) (by decide +kernel)) rfl, inBX10, tyX10_ok, nmX10, rfl, rfl, rfl⟩
set_option maxRecDepth 20000 in
theorem lf_X11_226 : LKF RX11 226 10 7 .int false := ⟨RX10, TX10, 20, tyX10, rfl, by decide, bw_c2 (List.mem_of_getElem? (i := 140) (by decide +kernel)) rfl, inBX10, tyX10_ok, nmX10, rfl, rfl, rfl⟩
set_option maxRecDepth 20000 in
theorem lf_X1_70 : LKF RX1 70 10 8 .int false := ⟨RX10, TX10, 20, tyX10, rfl, by decide, bw_c2 (List.mem_of_getElem? (i := 141) (by decide +kernel)) rfl, inBX10, tyX10_ok, nmX10, rfl, rfl, rfl⟩
set_option maxRecDepth 20000 in
theorem lf_X10_74 : LKF RX10 74 10 8 .int false := ⟨RX10, TX10, 20, tyX10, rfl, by decide, bw_c2 (List.mem_of_getElem? (i := 142) (by decide +kernel)) rfl, inBX10, tyX10_ok, nmX10, rfl, rfl, rfl⟩
set_option maxRecDepth 20000 in
theorem lf_X11_223 : LKF RX11 223 10 8 .int false := ⟨RX10, TX10, 20, tyX10, rfl, by decide, bw_c2 (List.mem_of_getElem? (i := 143) (by decide +kernel)) rfl, inBX10, tyX10_ok, nmX10, rfl, rfl, rfl⟩
set_option maxRecDepth 20000 in
theorem lf_X10_57 : LKF RX10 57 10 9 (.object "OldLift$Plan") true := ⟨RX10, TX10, 20, tyX10, rfl, by decide, bw_c2 (List.mem_of_getElem? (i := 144) (by decide +kernel)) rfl, inBX10, tyX10_ok, nmX10, rfl, rfl, rfl⟩
set_option maxRecDepth 20000 in
theorem lf_X10_32 : LKF RX10 32 10 10 (.array .int) true := ⟨RX10, TX10, 20, tyX10, rfl, by decide, bw_c2 (List.mem_of_getElem? (i := 145) (by decide +kernel)) rfl, inBX10, tyX10_ok, nmX10, rfl, rfl, rfl⟩
set_option maxRecDepth 20000 in
theorem lf_X10_35 : LKF RX10 35 10 11 (.array .int) true := ⟨RX10, TX10, 20, tyX10, rfl, by decide, bw_c2 (List.mem_of_getElem? (i := 146) (by decide +kernel)) rfl, inBX10, tyX10_ok, nmX10, rfl, rfl, rfl⟩
set_option maxRecDepth 20000 in
theorem lf_X10_38 : LKF RX10 38 10 12 (.array .int) true := ⟨RX10, TX10, 20, tyX10, rfl, by decide, bw_c2 (List.mem_of_getElem? (i := 147) (by decide +kernel)) rfl, inBX10, tyX10_ok, nmX10, rfl, rfl, rfl⟩
set_option maxRecDepth 20000 in
theorem lf_X10_41 : LKF RX10 41 10 13 (.array .int) true := ⟨RX10, TX10, 20, tyX10, rfl, by decide, bw_c2 (List.mem_of_getElem? (i := 148) (by decide +kernel)) rfl, inBX10, tyX10_ok, nmX10, rfl, rfl, rfl⟩
set_option maxRecDepth 20000 in
theorem lf_X10_44 : LKF RX10 44 10 14 (.array .int) true := ⟨RX10, TX10, 20, tyX10, rfl, by decide, bw_c2 (List.mem_of_getElem? (i := 149) (by decide +kernel)) rfl, inBX10, tyX10_ok, nmX10, rfl, rfl, rfl⟩
set_option maxRecDepth 20000 in
theorem lf_X10_47 : LKF RX10 47 10 15 (.array .int) true := ⟨RX10, TX10, 20, tyX10, rfl, by decide, bw_c2 (List.mem_of_getElem? (i := 150) (by decide +kernel)) rfl, inBX10, tyX10_ok, nmX10, rfl, rfl, rfl⟩
set_option maxRecDepth 20000 in
theorem lf_X10_50 : LKF RX10 50 10 16 (.array .int) true := ⟨RX10, TX10, 20, tyX10, rfl, by decide, bw_c2 (List.mem_of_getElem? (i := 151) (by decide +kernel)) rfl, inBX10, tyX10_ok, nmX10, rfl, rfl, rfl⟩
set_option maxRecDepth 20000 in
theorem lf_X10_81 : LKF RX10 81 10 17 .int false := ⟨RX10, TX10, 20, tyX10, rfl, by decide, bw_c2 (List.mem_of_getElem? (i := 152) (by decide +kernel)) rfl, inBX10, tyX10_ok, nmX10, rfl, rfl, rfl⟩
set_option maxRecDepth 20000 in
theorem lf_X10_101 : LKF RX10 101 10 18 .int false := ⟨RX10, TX10, 20, tyX10, rfl, by decide, bw_c2 (List.mem_of_getElem? (i := 153) (by decide +kernel)) rfl, inBX10, tyX10_ok, nmX10, rfl, rfl, rfl⟩
set_option maxRecDepth 20000 in
theorem lf_X10_53 : LKF RX10 53 10 19 .int false := ⟨RX10, TX10, 20, tyX10, rfl, by decide, bw_c2 (List.mem_of_getElem? (i := 154) (by decide +kernel)) rfl, inBX10, tyX10_ok, nmX10, rfl, rfl, rfl⟩
set_option maxRecDepth 20000 in
theorem lf_X1_9 : LKF RX1 9 1 0 (.array .int) true := ⟨RX1, TX1, 5, tyX1, rfl, by decide, bw_c2 (List.mem_of_getElem? (i := 204) (by decide +kernel)) rfl, inBX1, tyX1_ok, nmX1, rfl, rfl, rfl⟩
set_option maxRecDepth 20000 in
theorem lf_X11_266 : LKF RX11 266 1 0 (.array .int) true := ⟨RX1, TX1, 5, tyX1, rfl, by decide, bw_c2 (List.mem_of_getElem? (i := 205) (by decide +kernel)) rfl, inBX1, tyX1_ok, nmX1, rfl, rfl, rfl⟩
set_option maxRecDepth 20000 in
theorem lf_X1_15 : LKF RX1 15 1 1 (.array .int) true := ⟨RX1, TX1, 5, tyX1, rfl, by decide, bw_c2 (List.mem_of_getElem? (i := 206) (by decide +kernel)) rfl, inBX1, tyX1_ok, nmX1, rfl, rfl, rfl⟩
set_option maxRecDepth 20000 in
theorem lf_X11_269 : LKF RX11 269 1 1 (.array .int) true := ⟨RX1, TX1, 5, tyX1, rfl, by decide, bw_c2 (List.mem_of_getElem? (i := 207) (by decide +kernel)) rfl, inBX1, tyX1_ok, nmX1, rfl, rfl, rfl⟩
set_option maxRecDepth 20000 in
theorem lf_X1_22 : LKF RX1 22 1 2 (.object "OldLift$Plan") true := ⟨RX1, TX1, 5, tyX1, rfl, by decide, bw_c2 (List.mem_of_getElem? (i := 208) (by decide +kernel)) rfl, inBX1, tyX1_ok, nmX1, rfl, rfl, rfl⟩
set_option maxRecDepth 20000 in
theorem lf_X1_31 : LKF RX1 31 1 3 (.object "OldLift$Trial") true := ⟨RX1, TX1, 5, tyX1, rfl, by decide, bw_c2 (List.mem_of_getElem? (i := 209) (by decide +kernel)) rfl, inBX1, tyX1_ok, nmX1, rfl, rfl, rfl⟩
set_option maxRecDepth 20000 in
theorem lf_X1_18 : LKF RX1 18 1 4 .int false := ⟨RX1, TX1, 5, tyX1, rfl, by decide, bw_c2 (List.mem_of_getElem? (i := 210) (by decide +kernel)) rfl, inBX1, tyX1_ok, nmX1, rfl, rfl, rfl⟩
set_option maxRecDepth 20000 in
theorem lf_X7_21 : LKF RX7 21 7 0 .int false := ⟨RX7, TX7, 7, tyX7, rfl, by decide, bw_c2 (List.mem_of_getElem? (i := 228) (by decide +kernel)) rfl, inBX7, tyX7_ok, nmX7, rfl, rfl, rfl⟩
set_option maxRecDepth 20000 in
theorem lf_X11_309 : LKF RX11 309 7 0 .int false := ⟨RX7, TX7, 7, tyX7, rfl, by decide, bw_c2 (List.mem_of_getElem? (i := 229) (by decide +kernel)) rfl, inBX7, tyX7_ok, nmX7, rfl, rfl, rfl⟩
set_option maxRecDepth 20000 in
theorem lf_X7_9 : LKF RX7 9 7 1 (.array .int) true := ⟨RX7, TX7, 7, tyX7, rfl, by decide, bw_c2 (List.mem_of_getElem? (i := 230) (by decide +kernel)) rfl, inBX7, tyX7_ok, nmX7, rfl, rfl, rfl⟩
set_option maxRecDepth 20000 in
theorem lf_X7_15 : LKF RX7 15 7 2 (.array .int) true := ⟨RX7, TX7, 7, tyX7, rfl, by decide, bw_c2 (List.mem_of_getElem? (i := 231) (by decide +kernel)) rfl, inBX7, tyX7_ok, nmX7, rfl, rfl, rfl⟩
set_option maxRecDepth 20000 in
theorem lf_X7_18 : LKF RX7 18 7 3 (.array .int) true := ⟨RX7, TX7, 7, tyX7, rfl, by decide, bw_c2 (List.mem_of_getElem? (i := 232) (by decide +kernel)) rfl, inBX7, tyX7_ok, nmX7, rfl, rfl, rfl⟩
set_option maxRecDepth 20000 in
theorem lf_X7_25 : LKF RX7 25 7 4 .int false := ⟨RX7, TX7, 7, tyX7, rfl, by decide, bw_c2 (List.mem_of_getElem? (i := 233) (by decide +kernel)) rfl, inBX7, tyX7_ok, nmX7, rfl, rfl, rfl⟩
set_option maxRecDepth 20000 in
theorem lf_X7_28 : LKF RX7 28 7 5 .int false := ⟨RX7, TX7, 7, tyX7, rfl, by decide, bw_c2 (List.mem_of_getElem? (i := 234) (by decide +kernel)) rfl, inBX7, tyX7_ok, nmX7, rfl, rfl, rfl⟩
set_option maxRecDepth 20000 in
theorem lf_X7_31 : LKF RX7 31 7 6 .int false := ⟨RX7, TX7, 7, tyX7, rfl, by decide, bw_c2 (List.mem_of_getElem? (i := 235) (by decide +kernel)) rfl, inBX7, tyX7_ok, nmX7, rfl, rfl, rfl⟩
set_option maxRecDepth 20000 in
theorem lf_X11_10 : LKF RX11 10 11 0 (.object "OldLift$Tape") true := ⟨RX11, TX11, 9, tyX11, rfl, by decide, bw_c3 (List.mem_of_getElem? (i := 55) (by decide +kernel)) rfl, inBX11, tyX11_ok, nmX11, rfl, rfl, rfl⟩
set_option maxRecDepth 20000 in
theorem lf_X11_21 : LKF RX11 21 11 1 (.object "OldLift$Parser") true := ⟨RX11, TX11, 9, tyX11, rfl, by decide, bw_c3 (List.mem_of_getElem? (i := 56) (by decide +kernel)) rfl, inBX11, tyX11_ok, nmX11, rfl, rfl, rfl⟩
set_option maxRecDepth 20000 in
theorem lf_X11_28 : LKF RX11 28 11 2 (.object "OldLift$Machine") true := ⟨RX11, TX11, 9, tyX11, rfl, by decide, bw_c3 (List.mem_of_getElem? (i := 57) (by decide +kernel)) rfl, inBX11, tyX11_ok, nmX11, rfl, rfl, rfl⟩
set_option maxRecDepth 20000 in
theorem lf_X11_37 : LKF RX11 37 11 3 (.object "OldLift$Atlas") true := ⟨RX11, TX11, 9, tyX11, rfl, by decide, bw_c3 (List.mem_of_getElem? (i := 58) (by decide +kernel)) rfl, inBX11, tyX11_ok, nmX11, rfl, rfl, rfl⟩
set_option maxRecDepth 20000 in
theorem lf_X11_46 : LKF RX11 46 11 4 (.object "OldLift$Guess") true := ⟨RX11, TX11, 9, tyX11, rfl, by decide, bw_c3 (List.mem_of_getElem? (i := 59) (by decide +kernel)) rfl, inBX11, tyX11_ok, nmX11, rfl, rfl, rfl⟩
set_option maxRecDepth 20000 in
theorem lf_X11_53 : LKF RX11 53 11 5 (.object "OldLift$Plan") true := ⟨RX11, TX11, 9, tyX11, rfl, by decide, bw_c3 (List.mem_of_getElem? (i := 60) (by decide +kernel)) rfl, inBX11, tyX11_ok, nmX11, rfl, rfl, rfl⟩
set_option maxRecDepth 20000 in
theorem lf_X11_62 : LKF RX11 62 11 6 (.object "OldLift$Trial") true := ⟨RX11, TX11, 9, tyX11, rfl, by decide, bw_c3 (List.mem_of_getElem? (i := 61) (by decide +kernel)) rfl, inBX11, tyX11_ok, nmX11, rfl, rfl, rfl⟩
set_option maxRecDepth 20000 in
theorem lf_X11_69 : LKF RX11 69 11 7 (.object "OldLift$Choice") true := ⟨RX11, TX11, 9, tyX11, rfl, by decide, bw_c3 (List.mem_of_getElem? (i := 62) (by decide +kernel)) rfl, inBX11, tyX11_ok, nmX11, rfl, rfl, rfl⟩
set_option maxRecDepth 20000 in
theorem lf_X11_76 : LKF RX11 76 11 8 (.object "OldLift$Rope") true := ⟨RX11, TX11, 9, tyX11, rfl, by decide, bw_c3 (List.mem_of_getElem? (i := 63) (by decide +kernel)) rfl, inBX11, tyX11_ok, nmX11, rfl, rfl, rfl⟩
set_option maxRecDepth 20000 in
theorem lf_X12_180 : LKF RX12 180 12 0 .int false := ⟨RX12, TX12, 82, tyX12, rfl, by decide, bw_c6 (List.mem_of_getElem? (i := 172) (by decide +kernel)) rfl, inBX12, tyX12_ok, nmX12, rfl, rfl, rfl⟩
set_option maxRecDepth 20000 in
theorem lf_X12_7 : LKF RX12 7 12 1 .int false := ⟨RX12, TX12, 82, tyX12, rfl, by decide, bw_c6 (List.mem_of_getElem? (i := 173) (by decide +kernel)) rfl, inBX12, tyX12_ok, nmX12, rfl, rfl, rfl⟩
set_option maxRecDepth 20000 in
theorem lf_X12_214 : LKF RX12 214 12 2 .int false := ⟨RX12, TX12, 82, tyX12, rfl, by decide, bw_c6 (List.mem_of_getElem? (i := 174) (by decide +kernel)) rfl, inBX12, tyX12_ok, nmX12, rfl, rfl, rfl⟩
set_option maxRecDepth 20000 in
theorem lf_X12_13 : LKF RX12 13 12 3 (.array .int) true := ⟨RX12, TX12, 82, tyX12, rfl, by decide, bw_c6 (List.mem_of_getElem? (i := 175) (by decide +kernel)) rfl, inBX12, tyX12_ok, nmX12, rfl, rfl, rfl⟩
set_option maxRecDepth 20000 in
theorem lf_X12_217 : LKF RX12 217 12 4 .int false := ⟨RX12, TX12, 82, tyX12, rfl, by decide, bw_c6 (List.mem_of_getElem? (i := 176) (by decide +kernel)) rfl, inBX12, tyX12_ok, nmX12, rfl, rfl, rfl⟩
set_option maxRecDepth 20000 in
theorem lf_X12_220 : LKF RX12 220 12 5 .int false := ⟨RX12, TX12, 82, tyX12, rfl, by decide, bw_c6 (List.mem_of_getElem? (i := 177) (by decide +kernel)) rfl, inBX12, tyX12_ok, nmX12, rfl, rfl, rfl⟩
set_option maxRecDepth 20000 in
theorem lf_X12_223 : LKF RX12 223 12 6 .int false := ⟨RX12, TX12, 82, tyX12, rfl, by decide, bw_c6 (List.mem_of_getElem? (i := 178) (by decide +kernel)) rfl, inBX12, tyX12_ok, nmX12, rfl, rfl, rfl⟩
set_option maxRecDepth 20000 in
theorem lf_X12_233 : LKF RX12 233 12 7 .int false := ⟨RX12, TX12, 82, tyX12, rfl, by decide, bw_c6 (List.mem_of_getElem? (i := 179) (by decide +kernel)) rfl, inBX12, tyX12_ok, nmX12, rfl, rfl, rfl⟩
set_option maxRecDepth 20000 in
theorem lf_X12_226 : LKF RX12 226 12 8 .long false := ⟨RX12, TX12, 82, tyX12, rfl, by decide, bw_c6 (List.mem_of_getElem? (i := 180) (by decide +kernel)) rfl, inBX12, tyX12_ok, nmX12, rfl, rfl, rfl⟩
set_option maxRecDepth 20000 in
theorem lf_X12_230 : LKF RX12 230 12 9 .int false := ⟨RX12, TX12, 82, tyX12, rfl, by decide, bw_c6 (List.mem_of_getElem? (i := 181) (by decide +kernel)) rfl, inBX12, tyX12_ok, nmX12, rfl, rfl, rfl⟩
set_option maxRecDepth 20000 in
theorem lf_X12_244 : LKF RX12 244 12 10 .int false := ⟨RX12, TX12, 82, tyX12, rfl, by decide, bw_c6 (List.mem_of_getElem? (i := 182) (by decide +kernel)) rfl, inBX12, tyX12_ok, nmX12, rfl, rfl, rfl⟩
set_option maxRecDepth 20000 in
theorem lf_X12_17 : LKF RX12 17 12 11 (.array .boolean) true := ⟨RX12, TX12, 82, tyX12, rfl, by decide, bw_c6 (List.mem_of_getElem? (i := 183) (by decide +kernel)) rfl, inBX12, tyX12_ok, nmX12, rfl, rfl, rfl⟩
set_option maxRecDepth 20000 in
theorem lf_X12_21 : LKF RX12 21 12 12 (.array .int) true := ⟨RX12, TX12, 82, tyX12, rfl, by decide, bw_c6 (List.mem_of_getElem? (i := 184) (by decide +kernel)) rfl, inBX12, tyX12_ok, nmX12, rfl, rfl, rfl⟩
set_option maxRecDepth 20000 in
theorem lf_X12_24 : LKF RX12 24 12 13 (.array .int) true := ⟨RX12, TX12, 82, tyX12, rfl, by decide, bw_c6 (List.mem_of_getElem? (i := 185) (by decide +kernel)) rfl, inBX12, tyX12_ok, nmX12, rfl, rfl, rfl⟩
set_option maxRecDepth 20000 in
theorem lf_X12_27 : LKF RX12 27 12 14 (.array .boolean) true := ⟨RX12, TX12, 82, tyX12, rfl, by decide, bw_c6 (List.mem_of_getElem? (i := 186) (by decide +kernel)) rfl, inBX12, tyX12_ok, nmX12, rfl, rfl, rfl⟩
set_option maxRecDepth 20000 in
theorem lf_X12_30 : LKF RX12 30 12 15 (.array .int) true := ⟨RX12, TX12, 82, tyX12, rfl, by decide, bw_c6 (List.mem_of_getElem? (i := 187) (by decide +kernel)) rfl, inBX12, tyX12_ok, nmX12, rfl, rfl, rfl⟩
set_option maxRecDepth 20000 in
theorem lf_X12_33 : LKF RX12 33 12 16 (.array .int) true := ⟨RX12, TX12, 82, tyX12, rfl, by decide, bw_c6 (List.mem_of_getElem? (i := 188) (by decide +kernel)) rfl, inBX12, tyX12_ok, nmX12, rfl, rfl, rfl⟩
set_option maxRecDepth 20000 in
theorem lf_X12_36 : LKF RX12 36 12 17 (.array .int) true := ⟨RX12, TX12, 82, tyX12, rfl, by decide, bw_c6 (List.mem_of_getElem? (i := 189) (by decide +kernel)) rfl, inBX12, tyX12_ok, nmX12, rfl, rfl, rfl⟩
set_option maxRecDepth 20000 in
theorem lf_X12_247 : LKF RX12 247 12 18 .int false := ⟨RX12, TX12, 82, tyX12, rfl, by decide, bw_c6 (List.mem_of_getElem? (i := 190) (by decide +kernel)) rfl, inBX12, tyX12_ok, nmX12, rfl, rfl, rfl⟩
set_option maxRecDepth 20000 in
theorem lf_X12_250 : LKF RX12 250 12 19 .boolean false := ⟨RX12, TX12, 82, tyX12, rfl, by decide, bw_c6 (List.mem_of_getElem? (i := 191) (by decide +kernel)) rfl, inBX12, tyX12_ok, nmX12, rfl, rfl, rfl⟩
set_option maxRecDepth 20000 in
theorem lf_X12_187 : LKF RX12 187 12 20 .boolean false := ⟨RX12, TX12, 82, tyX12, rfl, by decide, bw_c6 (List.mem_of_getElem? (i := 192) (by decide +kernel)) rfl, inBX12, tyX12_ok, nmX12, rfl, rfl, rfl⟩
set_option maxRecDepth 20000 in
theorem lf_X12_39 : LKF RX12 39 12 21 (.array .int) true := ⟨RX12, TX12, 82, tyX12, rfl, by decide, bw_c6 (List.mem_of_getElem? (i := 193) (by decide +kernel)) rfl, inBX12, tyX12_ok, nmX12, rfl, rfl, rfl⟩
set_option maxRecDepth 20000 in
theorem lf_X12_42 : LKF RX12 42 12 22 (.array .boolean) true := ⟨RX12, TX12, 82, tyX12, rfl, by decide, bw_c6 (List.mem_of_getElem? (i := 194) (by decide +kernel)) rfl, inBX12, tyX12_ok, nmX12, rfl, rfl, rfl⟩
set_option maxRecDepth 20000 in
theorem lf_X12_45 : LKF RX12 45 12 23 (.array .int) true := ⟨RX12, TX12, 82, tyX12, rfl, by decide, bw_c6 (List.mem_of_getElem? (i := 195) (by decide +kernel)) rfl, inBX12, tyX12_ok, nmX12, rfl, rfl, rfl⟩
set_option maxRecDepth 20000 in
theorem lf_X12_48 : LKF RX12 48 12 24 (.array .int) true := ⟨RX12, TX12, 82, tyX12, rfl, by decide, bw_c6 (List.mem_of_getElem? (i := 196) (by decide +kernel)) rfl, inBX12, tyX12_ok, nmX12, rfl, rfl, rfl⟩
set_option maxRecDepth 20000 in
theorem lf_X12_51 : LKF RX12 51 12 25 (.array .int) true := ⟨RX12, TX12, 82, tyX12, rfl, by decide, bw_c6 (List.mem_of_getElem? (i := 197) (by decide +kernel)) rfl, inBX12, tyX12_ok, nmX12, rfl, rfl, rfl⟩
set_option maxRecDepth 20000 in
theorem lf_X12_54 : LKF RX12 54 12 26 (.array .int) true := ⟨RX12, TX12, 82, tyX12, rfl, by decide, bw_c6 (List.mem_of_getElem? (i := 198) (by decide +kernel)) rfl, inBX12, tyX12_ok, nmX12, rfl, rfl, rfl⟩
set_option maxRecDepth 20000 in
theorem lf_X12_57 : LKF RX12 57 12 27 (.array .int) true := ⟨RX12, TX12, 82, tyX12, rfl, by decide, bw_c6 (List.mem_of_getElem? (i := 199) (by decide +kernel)) rfl, inBX12, tyX12_ok, nmX12, rfl, rfl, rfl⟩
set_option maxRecDepth 20000 in
theorem lf_X12_60 : LKF RX12 60 12 28 (.array .int) true := ⟨RX12, TX12, 82, tyX12, rfl, by decide, bw_c6 (List.mem_of_getElem? (i := 200) (by decide +kernel)) rfl, inBX12, tyX12_ok, nmX12, rfl, rfl, rfl⟩
set_option maxRecDepth 20000 in
theorem lf_X12_63 : LKF RX12 63 12 29 (.array .int) true := ⟨RX12, TX12, 82, tyX12, rfl, by decide, bw_c6 (List.mem_of_getElem? (i := 201) (by decide +kernel)) rfl, inBX12, tyX12_ok, nmX12, rfl, rfl, rfl⟩
set_option maxRecDepth 20000 in
theorem lf_X12_66 : LKF RX12 66 12 30 (.array .int) true := ⟨RX12, TX12, 82, tyX12, rfl, by decide, bw_c6 (List.mem_of_getElem? (i := 202) (by decide +kernel)) rfl, inBX12, tyX12_ok, nmX12, rfl, rfl, rfl⟩
set_option maxRecDepth 20000 in
theorem lf_X12_69 : LKF RX12 69 12 31 (.array .int) true := ⟨RX12, TX12, 82, tyX12, rfl, by decide, bw_c6 (List.mem_of_getElem? (i := 203) (by decide +kernel)) rfl, inBX12, tyX12_ok, nmX12, rfl, rfl, rfl⟩
set_option maxRecDepth 20000 in
theorem lf_X12_72 : LKF RX12 72 12 32 (.array .int) true := ⟨RX12, TX12, 82, tyX12, rfl, by decide, bw_c6 (List.mem_of_getElem? (i := 204) (by decide +kernel)) rfl, inBX12, tyX12_ok, nmX12, rfl, rfl, rfl⟩
set_option maxRecDepth 20000 in
theorem lf_X12_348 : LKF RX12 348 12 33 .int false := ⟨RX12, TX12, 82, tyX12, rfl, by decide, bw_c6 (List.mem_of_getElem? (i := 205) (by decide +kernel)) rfl, inBX12, tyX12_ok, nmX12, rfl, rfl, rfl⟩
set_option maxRecDepth 20000 in
theorem lf_X12_351 : LKF RX12 351 12 34 .int false := ⟨RX12, TX12, 82, tyX12, rfl, by decide, bw_c6 (List.mem_of_getElem? (i := 206) (by decide +kernel)) rfl, inBX12, tyX12_ok, nmX12, rfl, rfl, rfl⟩
set_option maxRecDepth 20000 in
theorem lf_X12_354 : LKF RX12 354 12 35 .int false := ⟨RX12, TX12, 82, tyX12, rfl, by decide, bw_c6 (List.mem_of_getElem? (i := 207) (by decide +kernel)) rfl, inBX12, tyX12_ok, nmX12, rfl, rfl, rfl⟩
set_option maxRecDepth 20000 in
theorem lf_X12_366 : LKF RX12 366 12 36 .int false := ⟨RX12, TX12, 82, tyX12, rfl, by decide, bw_c6 (List.mem_of_getElem? (i := 208) (by decide +kernel)) rfl, inBX12, tyX12_ok, nmX12, rfl, rfl, rfl⟩
set_option maxRecDepth 20000 in
theorem lf_X12_194 : LKF RX12 194 12 37 .boolean false := ⟨RX12, TX12, 82, tyX12, rfl, by decide, bw_c6 (List.mem_of_getElem? (i := 209) (by decide +kernel)) rfl, inBX12, tyX12_ok, nmX12, rfl, rfl, rfl⟩
set_option maxRecDepth 20000 in
theorem lf_X12_386 : LKF RX12 386 12 38 .int false := ⟨RX12, TX12, 82, tyX12, rfl, by decide, bw_c6 (List.mem_of_getElem? (i := 210) (by decide +kernel)) rfl, inBX12, tyX12_ok, nmX12, rfl, rfl, rfl⟩
set_option maxRecDepth 20000 in
theorem lf_X12_75 : LKF RX12 75 12 39 (.array .int) true := ⟨RX12, TX12, 82, tyX12, rfl, by decide, bw_c6 (List.mem_of_getElem? (i := 211) (by decide +kernel)) rfl, inBX12, tyX12_ok, nmX12, rfl, rfl, rfl⟩
set_option maxRecDepth 20000 in
theorem lf_X12_78 : LKF RX12 78 12 40 (.array .int) true := ⟨RX12, TX12, 82, tyX12, rfl, by decide, bw_c6 (List.mem_of_getElem? (i := 212) (by decide +kernel)) rfl, inBX12, tyX12_ok, nmX12, rfl, rfl, rfl⟩
set_option maxRecDepth 20000 in
theorem lf_X12_81 : LKF RX12 81 12 41 (.array .int) true := ⟨RX12, TX12, 82, tyX12, rfl, by decide, bw_c6 (List.mem_of_getElem? (i := 213) (by decide +kernel)) rfl, inBX12, tyX12_ok, nmX12, rfl, rfl, rfl⟩
set_option maxRecDepth 20000 in
theorem lf_X12_84 : LKF RX12 84 12 42 (.array .int) true := ⟨RX12, TX12, 82, tyX12, rfl, by decide, bw_c6 (List.mem_of_getElem? (i := 214) (by decide +kernel)) rfl, inBX12, tyX12_ok, nmX12, rfl, rfl, rfl⟩
set_option maxRecDepth 20000 in
theorem lf_X12_87 : LKF RX12 87 12 43 (.array .boolean) true := ⟨RX12, TX12, 82, tyX12, rfl, by decide, bw_c6 (List.mem_of_getElem? (i := 215) (by decide +kernel)) rfl, inBX12, tyX12_ok, nmX12, rfl, rfl, rfl⟩
set_option maxRecDepth 20000 in
theorem lf_X12_90 : LKF RX12 90 12 44 (.array .int) true := ⟨RX12, TX12, 82, tyX12, rfl, by decide, bw_c6 (List.mem_of_getElem? (i := 216) (by decide +kernel)) rfl, inBX12, tyX12_ok, nmX12, rfl, rfl, rfl⟩
set_option maxRecDepth 20000 in
theorem lf_X12_93 : LKF RX12 93 12 45 (.array .int) true := ⟨RX12, TX12, 82, tyX12, rfl, by decide, bw_c6 (List.mem_of_getElem? (i := 217) (by decide +kernel)) rfl, inBX12, tyX12_ok, nmX12, rfl, rfl, rfl⟩
set_option maxRecDepth 20000 in
theorem lf_X12_197 : LKF RX12 197 12 46 .boolean false := ⟨RX12, TX12, 82, tyX12, rfl, by decide, bw_c6 (List.mem_of_getElem? (i := 218) (by decide +kernel)) rfl, inBX12, tyX12_ok, nmX12, rfl, rfl, rfl⟩
set_option maxRecDepth 20000 in
theorem lf_X12_96 : LKF RX12 96 12 47 (.array .int) true := ⟨RX12, TX12, 82, tyX12, rfl, by decide, bw_c6 (List.mem_of_getElem? (i := 219) (by decide +kernel)) rfl, inBX12, tyX12_ok, nmX12, rfl, rfl, rfl⟩
set_option maxRecDepth 20000 in
theorem lf_X12_99 : LKF RX12 99 12 48 (.array .int) true := ⟨RX12, TX12, 82, tyX12, rfl, by decide, bw_c6 (List.mem_of_getElem? (i := 220) (by decide +kernel)) rfl, inBX12, tyX12_ok, nmX12, rfl, rfl, rfl⟩
set_option maxRecDepth 20000 in
theorem lf_X12_102 : LKF RX12 102 12 49 (.array .int) true := ⟨RX12, TX12, 82, tyX12, rfl, by decide, bw_c6 (List.mem_of_getElem? (i := 221) (by decide +kernel)) rfl, inBX12, tyX12_ok, nmX12, rfl, rfl, rfl⟩
set_option maxRecDepth 20000 in
theorem lf_X12_408 : LKF RX12 408 12 50 .int false := ⟨RX12, TX12, 82, tyX12, rfl, by decide, bw_c6 (List.mem_of_getElem? (i := 222) (by decide +kernel)) rfl, inBX12, tyX12_ok, nmX12, rfl, rfl, rfl⟩
set_option maxRecDepth 20000 in
theorem lf_X12_105 : LKF RX12 105 12 51 (.array .int) true := ⟨RX12, TX12, 82, tyX12, rfl, by decide, bw_c6 (List.mem_of_getElem? (i := 223) (by decide +kernel)) rfl, inBX12, tyX12_ok, nmX12, rfl, rfl, rfl⟩
set_option maxRecDepth 20000 in
theorem lf_X12_108 : LKF RX12 108 12 52 (.array .int) true := ⟨RX12, TX12, 82, tyX12, rfl, by decide, bw_c6 (List.mem_of_getElem? (i := 224) (by decide +kernel)) rfl, inBX12, tyX12_ok, nmX12, rfl, rfl, rfl⟩
set_option maxRecDepth 20000 in
theorem lf_X12_111 : LKF RX12 111 12 53 .int false := ⟨RX12, TX12, 82, tyX12, rfl, by decide, bw_c6 (List.mem_of_getElem? (i := 225) (by decide +kernel)) rfl, inBX12, tyX12_ok, nmX12, rfl, rfl, rfl⟩
set_option maxRecDepth 20000 in
theorem lf_X12_114 : LKF RX12 114 12 54 .int false := ⟨RX12, TX12, 82, tyX12, rfl, by decide, bw_c6 (List.mem_of_getElem? (i := 226) (by decide +kernel)) rfl, inBX12, tyX12_ok, nmX12, rfl, rfl, rfl⟩
set_option maxRecDepth 20000 in
theorem lf_X12_117 : LKF RX12 117 12 55 .int false := ⟨RX12, TX12, 82, tyX12, rfl, by decide, bw_c6 (List.mem_of_getElem? (i := 227) (by decide +kernel)) rfl, inBX12, tyX12_ok, nmX12, rfl, rfl, rfl⟩
set_option maxRecDepth 20000 in
theorem lf_X12_200 : LKF RX12 200 12 56 .int false := ⟨RX12, TX12, 82, tyX12, rfl, by decide, bw_c6 (List.mem_of_getElem? (i := 228) (by decide +kernel)) rfl, inBX12, tyX12_ok, nmX12, rfl, rfl, rfl⟩
set_option maxRecDepth 20000 in
theorem lf_X12_424 : LKF RX12 424 12 57 .int false := ⟨RX12, TX12, 82, tyX12, rfl, by decide, bw_c6 (List.mem_of_getElem? (i := 229) (by decide +kernel)) rfl, inBX12, tyX12_ok, nmX12, rfl, rfl, rfl⟩
set_option maxRecDepth 20000 in
theorem lf_X12_120 : LKF RX12 120 12 58 (.array .int) true := ⟨RX12, TX12, 82, tyX12, rfl, by decide, bw_c6 (List.mem_of_getElem? (i := 230) (by decide +kernel)) rfl, inBX12, tyX12_ok, nmX12, rfl, rfl, rfl⟩
set_option maxRecDepth 20000 in
theorem lf_X12_123 : LKF RX12 123 12 59 (.array .int) true := ⟨RX12, TX12, 82, tyX12, rfl, by decide, bw_c6 (List.mem_of_getElem? (i := 231) (by decide +kernel)) rfl, inBX12, tyX12_ok, nmX12, rfl, rfl, rfl⟩
set_option maxRecDepth 20000 in
theorem lf_X12_126 : LKF RX12 126 12 60 (.array .int) true := ⟨RX12, TX12, 82, tyX12, rfl, by decide, bw_c6 (List.mem_of_getElem? (i := 232) (by decide +kernel)) rfl, inBX12, tyX12_ok, nmX12, rfl, rfl, rfl⟩
set_option maxRecDepth 20000 in
theorem lf_X12_427 : LKF RX12 427 12 61 .int false := ⟨RX12, TX12, 82, tyX12, rfl, by decide, bw_c6 (List.mem_of_getElem? (i := 233) (by decide +kernel)) rfl, inBX12, tyX12_ok, nmX12, rfl, rfl, rfl⟩
set_option maxRecDepth 20000 in
theorem lf_X12_129 : LKF RX12 129 12 62 (.array .int) true := ⟨RX12, TX12, 82, tyX12, rfl, by decide, bw_c6 (List.mem_of_getElem? (i := 234) (by decide +kernel)) rfl, inBX12, tyX12_ok, nmX12, rfl, rfl, rfl⟩
set_option maxRecDepth 20000 in
theorem lf_X12_132 : LKF RX12 132 12 63 (.array .int) true := ⟨RX12, TX12, 82, tyX12, rfl, by decide, bw_c6 (List.mem_of_getElem? (i := 235) (by decide +kernel)) rfl, inBX12, tyX12_ok, nmX12, rfl, rfl, rfl⟩
set_option maxRecDepth 20000 in
theorem lf_X12_135 : LKF RX12 135 12 64 (.array .int) true := ⟨RX12, TX12, 82, tyX12, rfl, by decide, bw_c6 (List.mem_of_getElem? (i := 236) (by decide +kernel)) rfl, inBX12, tyX12_ok, nmX12, rfl, rfl, rfl⟩
set_option maxRecDepth 20000 in
theorem lf_X12_138 : LKF RX12 138 12 65 .int false := ⟨RX12, TX12, 82, tyX12, rfl, by decide, bw_c6 (List.mem_of_getElem? (i := 237) (by decide +kernel)) rfl, inBX12, tyX12_ok, nmX12, rfl, rfl, rfl⟩
set_option maxRecDepth 20000 in
theorem lf_X12_141 : LKF RX12 141 12 66 (.array .int) true := ⟨RX12, TX12, 82, tyX12, rfl, by decide, bw_c6 (List.mem_of_getElem? (i := 238) (by decide +kernel)) rfl, inBX12, tyX12_ok, nmX12, rfl, rfl, rfl⟩
set_option maxRecDepth 20000 in
theorem lf_X12_144 : LKF RX12 144 12 67 (.array .int) true := ⟨RX12, TX12, 82, tyX12, rfl, by decide, bw_c6 (List.mem_of_getElem? (i := 239) (by decide +kernel)) rfl, inBX12, tyX12_ok, nmX12, rfl, rfl, rfl⟩
set_option maxRecDepth 20000 in
theorem lf_X12_147 : LKF RX12 147 12 68 (.array .int) true := ⟨RX12, TX12, 82, tyX12, rfl, by decide, bw_c7 (List.mem_of_getElem? (i := 0) (by decide +kernel)) rfl, inBX12, tyX12_ok, nmX12, rfl, rfl, rfl⟩
set_option maxRecDepth 20000 in
theorem lf_X12_150 : LKF RX12 150 12 69 (.array .int) true := ⟨RX12, TX12, 82, tyX12, rfl, by decide, bw_c7 (List.mem_of_getElem? (i := 1) (by decide +kernel)) rfl, inBX12, tyX12_ok, nmX12, rfl, rfl, rfl⟩
set_option maxRecDepth 20000 in
theorem lf_X12_153 : LKF RX12 153 12 70 (.array .int) true := ⟨RX12, TX12, 82, tyX12, rfl, by decide, bw_c7 (List.mem_of_getElem? (i := 2) (by decide +kernel)) rfl, inBX12, tyX12_ok, nmX12, rfl, rfl, rfl⟩
set_option maxRecDepth 20000 in
theorem lf_X12_156 : LKF RX12 156 12 71 (.array .int) true := ⟨RX12, TX12, 82, tyX12, rfl, by decide, bw_c7 (List.mem_of_getElem? (i := 3) (by decide +kernel)) rfl, inBX12, tyX12_ok, nmX12, rfl, rfl, rfl⟩
set_option maxRecDepth 20000 in
theorem lf_X12_159 : LKF RX12 159 12 72 (.array .int) true := ⟨RX12, TX12, 82, tyX12, rfl, by decide, bw_c7 (List.mem_of_getElem? (i := 4) (by decide +kernel)) rfl, inBX12, tyX12_ok, nmX12, rfl, rfl, rfl⟩
set_option maxRecDepth 20000 in
theorem lf_X12_162 : LKF RX12 162 12 73 (.array .int) true := ⟨RX12, TX12, 82, tyX12, rfl, by decide, bw_c7 (List.mem_of_getElem? (i := 5) (by decide +kernel)) rfl, inBX12, tyX12_ok, nmX12, rfl, rfl, rfl⟩
set_option maxRecDepth 20000 in
theorem lf_X12_467 : LKF RX12 467 12 74 .int false := ⟨RX12, TX12, 82, tyX12, rfl, by decide, bw_c7 (List.mem_of_getElem? (i := 6) (by decide +kernel)) rfl, inBX12, tyX12_ok, nmX12, rfl, rfl, rfl⟩
set_option maxRecDepth 20000 in
theorem lf_X12_206 : LKF RX12 206 12 75 .int false := ⟨RX12, TX12, 82, tyX12, rfl, by decide, bw_c7 (List.mem_of_getElem? (i := 7) (by decide +kernel)) rfl, inBX12, tyX12_ok, nmX12, rfl, rfl, rfl⟩
set_option maxRecDepth 20000 in
theorem lf_X12_165 : LKF RX12 165 12 76 (.array .int) true := ⟨RX12, TX12, 82, tyX12, rfl, by decide, bw_c7 (List.mem_of_getElem? (i := 8) (by decide +kernel)) rfl, inBX12, tyX12_ok, nmX12, rfl, rfl, rfl⟩
set_option maxRecDepth 20000 in
theorem lf_X12_168 : LKF RX12 168 12 77 (.array .int) true := ⟨RX12, TX12, 82, tyX12, rfl, by decide, bw_c7 (List.mem_of_getElem? (i := 9) (by decide +kernel)) rfl, inBX12, tyX12_ok, nmX12, rfl, rfl, rfl⟩
set_option maxRecDepth 20000 in
theorem lf_X12_171 : LKF RX12 171 12 78 (.array .int) true := ⟨RX12, TX12, 82, tyX12, rfl, by decide, bw_c7 (List.mem_of_getElem? (i := 10) (by decide +kernel)) rfl, inBX12, tyX12_ok, nmX12, rfl, rfl, rfl⟩
set_option maxRecDepth 20000 in
theorem lf_X12_209 : LKF RX12 209 12 79 .int false := ⟨RX12, TX12, 82, tyX12, rfl, by decide, bw_c7 (List.mem_of_getElem? (i := 11) (by decide +kernel)) rfl, inBX12, tyX12_ok, nmX12, rfl, rfl, rfl⟩
set_option maxRecDepth 20000 in
theorem lf_X12_174 : LKF RX12 174 12 80 .int false := ⟨RX12, TX12, 82, tyX12, rfl, by decide, bw_c7 (List.mem_of_getElem? (i := 12) (by decide +kernel)) rfl, inBX12, tyX12_ok, nmX12, rfl, rfl, rfl⟩
set_option maxRecDepth 20000 in
theorem lf_X12_177 : LKF RX12 177 12 81 .int false := ⟨RX12, TX12, 82, tyX12, rfl, by decide, bw_c7 (List.mem_of_getElem? (i := 13) (by decide +kernel)) rfl, inBX12, tyX12_ok, nmX12, rfl, rfl, rfl⟩
set_option maxRecDepth 20000 in
theorem lx_J0_38 : Cond.fieldLink RJ0 38 "java/lang/String" "COMPACT_STRINGS" "Z" ∈ BW := bw_c3 (List.mem_of_getElem? (i := 140) (by decide +kernel)) rfl
set_option maxRecDepth 20000 in
theorem lx_J0_1053 : Cond.fieldLink RJ0 1053 "jdk/internal/util/Preconditions" "SIOOBE_FORMATTER" "Ljava/util/function/BiFunction;" ∈ BW := bw_c3 (List.mem_of_getElem? (i := 156) (by decide +kernel)) rfl
set_option maxRecDepth 20000 in
theorem lx_J0_9 : Cond.fieldLink RJ0 9 "java/lang/String" "value" "[B" ∈ BW := bw_c9 (List.mem_of_getElem? (i := 108) (by decide +kernel)) rfl
set_option maxRecDepth 20000 in
theorem lx_J0_15 : Cond.fieldLink RJ0 15 "java/lang/String" "coder" "B" ∈ BW := bw_c9 (List.mem_of_getElem? (i := 109) (by decide +kernel)) rfl
set_option maxRecDepth 20000 in
theorem lm_L_15 : Cond.methodLink RL 15 yX11_init ∈ BW := bw_c1 (List.mem_of_getElem? (i := 29) (by decide +kernel)) rfl
set_option maxRecDepth 20000 in
theorem lm_X11_18 : Cond.methodLink RX11 18 yX5_init ∈ BW := bw_c1 (List.mem_of_getElem? (i := 54) (by decide +kernel)) rfl
set_option maxRecDepth 20000 in
theorem lm_X5_20 : Cond.methodLink RX5 20 yX9_init ∈ BW := bw_c1 (List.mem_of_getElem? (i := 92) (by decide +kernel)) rfl
set_option maxRecDepth 20000 in
theorem lm_X11_34 : Cond.methodLink RX11 34 yX0_init ∈ BW := bw_c1 (List.mem_of_getElem? (i := 173) (by decide +kernel)) rfl
set_option maxRecDepth 20000 in
theorem lm_X11_43 : Cond.methodLink RX11 43 yX3_init ∈ BW := bw_c1 (List.mem_of_getElem? (i := 224) (by decide +kernel)) rfl
set_option maxRecDepth 20000 in
theorem lm_X11_59 : Cond.methodLink RX11 59 yX10_init ∈ BW := bw_c2 (List.mem_of_getElem? (i := 120) (by decide +kernel)) rfl
set_option maxRecDepth 20000 in
theorem lm_X11_68 : Cond.methodLink RX11 68 yX1_init ∈ BW := bw_c2 (List.mem_of_getElem? (i := 198) (by decide +kernel)) rfl
set_option maxRecDepth 20000 in
theorem lm_X1_28 : Cond.methodLink RX1 28 yX10_init ∈ BW := bw_c2 (List.mem_of_getElem? (i := 203) (by decide +kernel)) rfl
set_option maxRecDepth 20000 in
theorem lm_X11_80 : Cond.methodLink RX11 80 yX11_startHouse ∈ BW := bw_c3 (List.mem_of_getElem? (i := 11) (by decide +kernel)) rfl
set_option maxRecDepth 20000 in
theorem lm_X11_311 : Cond.methodLink RX11 311 yX2_clear ∈ BW := bw_c3 (List.mem_of_getElem? (i := 15) (by decide +kernel)) rfl
set_option maxRecDepth 20000 in
theorem lm_X2_27 : Cond.methodLink RX2 27 yJ7_fill_53178 ∈ BW := bw_c3 (List.mem_of_getElem? (i := 19) (by decide +kernel)) rfl
set_option maxRecDepth 20000 in
theorem lm_X11_112 : Cond.methodLink RX11 112 yX11_startCircuit ∈ BW := bw_c3 (List.mem_of_getElem? (i := 22) (by decide +kernel)) rfl
set_option maxRecDepth 20000 in
theorem lm_X11_129 : Cond.methodLink RX11 129 yX4_restart ∈ BW := bw_c3 (List.mem_of_getElem? (i := 26) (by decide +kernel)) rfl
set_option maxRecDepth 20000 in
theorem lm_X11_316 : Cond.methodLink RX11 316 yX0_forget ∈ BW := bw_c3 (List.mem_of_getElem? (i := 30) (by decide +kernel)) rfl
set_option maxRecDepth 20000 in
theorem lm_X11_319 : Cond.methodLink RX11 319 yX3_forget ∈ BW := bw_c3 (List.mem_of_getElem? (i := 34) (by decide +kernel)) rfl
set_option maxRecDepth 20000 in
theorem lm_X11_314 : Cond.methodLink RX11 314 yX6_startHouse ∈ BW := bw_c3 (List.mem_of_getElem? (i := 38) (by decide +kernel)) rfl
set_option maxRecDepth 20000 in
theorem lm_X6_41 : Cond.methodLink RX6 41 yX2_clear ∈ BW := bw_c3 (List.mem_of_getElem? (i := 42) (by decide +kernel)) rfl
set_option maxRecDepth 20000 in
theorem lm_X6_44 : Cond.methodLink RX6 44 yX6_setCars ∈ BW := bw_c3 (List.mem_of_getElem? (i := 43) (by decide +kernel)) rfl
set_option maxRecDepth 20000 in
theorem lm_X6_48 : Cond.methodLink RX6 48 yX6_dismiss ∈ BW := bw_c3 (List.mem_of_getElem? (i := 47) (by decide +kernel)) rfl
set_option maxRecDepth 20000 in
theorem lm_X11_315 : Cond.methodLink RX11 315 yX7_clear ∈ BW := bw_c3 (List.mem_of_getElem? (i := 51) (by decide +kernel)) rfl
set_option maxRecDepth 20000 in
theorem lm_L_19 : Cond.methodLink RL 19 yX11_floors ∈ BW := bw_c3 (List.mem_of_getElem? (i := 83) (by decide +kernel)) rfl
set_option maxRecDepth 20000 in
theorem lm_L_26 : Cond.methodLink RL 26 yX11_feed ∈ BW := bw_c3 (List.mem_of_getElem? (i := 87) (by decide +kernel)) rfl
set_option maxRecDepth 20000 in
theorem lm_X11_84 : Cond.methodLink RX11 84 yX8_put ∈ BW := bw_c3 (List.mem_of_getElem? (i := 91) (by decide +kernel)) rfl
set_option maxRecDepth 20000 in
theorem lm_L_31 : Cond.methodLink RL 31 yX11_circuit ∈ BW := bw_c3 (List.mem_of_getElem? (i := 95) (by decide +kernel)) rfl
set_option maxRecDepth 20000 in
theorem lm_X11_95 : Cond.methodLink RX11 95 yX5_readCircuit ∈ BW := bw_c3 (List.mem_of_getElem? (i := 99) (by decide +kernel)) rfl
set_option maxRecDepth 20000 in
theorem lm_X5_27 : Cond.methodLink RX5 27 yX5_start ∈ BW := bw_c3 (List.mem_of_getElem? (i := 103) (by decide +kernel)) rfl
set_option maxRecDepth 20000 in
theorem lm_X5_55 : Cond.methodLink RX5 55 yX9_take ∈ BW := bw_c3 (List.mem_of_getElem? (i := 107) (by decide +kernel)) rfl
set_option maxRecDepth 20000 in
theorem lm_X9_34 : Cond.methodLink RX9 34 yX9_takeOne ∈ BW := bw_c3 (List.mem_of_getElem? (i := 111) (by decide +kernel)) rfl
set_option maxRecDepth 20000 in
theorem lm_X9_46 : Cond.methodLink RX9 46 yX9_endOfRun ∈ BW := bw_c3 (List.mem_of_getElem? (i := 115) (by decide +kernel)) rfl
set_option maxRecDepth 20000 in
theorem lm_X9_50 : Cond.methodLink RX9 50 yX9_takeWord ∈ BW := bw_c3 (List.mem_of_getElem? (i := 119) (by decide +kernel)) rfl
set_option maxRecDepth 20000 in
theorem lm_X9_38 : Cond.methodLink RX9 38 yX9_add ∈ BW := bw_c3 (List.mem_of_getElem? (i := 123) (by decide +kernel)) rfl
set_option maxRecDepth 20000 in
theorem lm_X9_64 : Cond.methodLink RX9 64 yX9_wordKind ∈ BW := bw_c3 (List.mem_of_getElem? (i := 127) (by decide +kernel)) rfl
set_option maxRecDepth 20000 in
theorem lm_X9_69 : Cond.methodLink RX9 69 yJ0_length_8abf5 ∈ BW := bw_c3 (List.mem_of_getElem? (i := 132) (by decide +kernel)) rfl
set_option maxRecDepth 20000 in
theorem lm_J0_335 : Cond.methodLink RJ0 335 yJ0_coder_7d493 ∈ BW := bw_c3 (List.mem_of_getElem? (i := 136) (by decide +kernel)) rfl
set_option maxRecDepth 20000 in
theorem lm_X9_72 : Cond.methodLink RX9 72 yJ0_charAt_5068e ∈ BW := bw_c3 (List.mem_of_getElem? (i := 142) (by decide +kernel)) rfl
set_option maxRecDepth 20000 in
theorem lm_J0_492 : Cond.methodLink RJ0 492 yJ0_isLatin1_aae02 ∈ BW := bw_c3 (List.mem_of_getElem? (i := 146) (by decide +kernel)) rfl
set_option maxRecDepth 20000 in
theorem lm_J0_495 : Cond.methodLink RJ0 495 yJ1_charAt_3b067 ∈ BW := bw_c3 (List.mem_of_getElem? (i := 150) (by decide +kernel)) rfl
set_option maxRecDepth 20000 in
theorem lm_J1_9 : Cond.methodLink RJ1 9 yJ0_checkIndex_df160 ∈ BW := bw_c3 (List.mem_of_getElem? (i := 153) (by decide +kernel)) rfl
set_option maxRecDepth 20000 in
theorem lm_J0_1059 : Cond.methodLink RJ0 1059 yJ3_checkIndex_8e157 ∈ BW := bw_c3 (List.mem_of_getElem? (i := 158) (by decide +kernel)) rfl
set_option maxRecDepth 20000 in
theorem lm_J0_498 : Cond.methodLink RJ0 498 yJ2_charAt_3b067 ∈ BW := bw_c3 (List.mem_of_getElem? (i := 161) (by decide +kernel)) rfl
set_option maxRecDepth 20000 in
theorem lm_J2_67 : Cond.methodLink RJ2 67 yJ2_checkIndex_2214a ∈ BW := bw_c3 (List.mem_of_getElem? (i := 164) (by decide +kernel)) rfl
set_option maxRecDepth 20000 in
theorem lm_J2_48 : Cond.methodLink RJ2 48 yJ2_length_9d52b ∈ BW := bw_c3 (List.mem_of_getElem? (i := 167) (by decide +kernel)) rfl
set_option maxRecDepth 20000 in
theorem lm_J2_414 : Cond.methodLink RJ2 414 yJ0_checkIndex_df160 ∈ BW := bw_c3 (List.mem_of_getElem? (i := 170) (by decide +kernel)) rfl
set_option maxRecDepth 20000 in
theorem lm_J2_71 : Cond.methodLink RJ2 71 yJ2_getChar_3b067 ∈ BW := bw_c3 (List.mem_of_getElem? (i := 171) (by decide +kernel)) rfl
set_option maxRecDepth 20000 in
theorem lm_X9_54 : Cond.methodLink RX9 54 yX9_takeNumber ∈ BW := bw_c3 (List.mem_of_getElem? (i := 180) (by decide +kernel)) rfl
set_option maxRecDepth 20000 in
theorem lm_X9_59 : Cond.methodLink RX9 59 yJ0_indexOf_0f7a4 ∈ BW := bw_c3 (List.mem_of_getElem? (i := 185) (by decide +kernel)) rfl
set_option maxRecDepth 20000 in
theorem lm_J0_633 : Cond.methodLink RJ0 633 yJ0_indexOf_7cf53 ∈ BW := bw_c3 (List.mem_of_getElem? (i := 189) (by decide +kernel)) rfl
set_option maxRecDepth 20000 in
theorem lm_J0_505 : Cond.methodLink RJ0 505 yJ0_length_8abf5 ∈ BW := bw_c3 (List.mem_of_getElem? (i := 193) (by decide +kernel)) rfl
set_option maxRecDepth 20000 in
theorem lm_J0_637 : Cond.methodLink RJ0 637 yJ1_indexOf_4cfef ∈ BW := bw_c3 (List.mem_of_getElem? (i := 194) (by decide +kernel)) rfl
set_option maxRecDepth 20000 in
theorem lm_J1_88 : Cond.methodLink RJ1 88 yJ1_canEncode_9a6ad ∈ BW := bw_c3 (List.mem_of_getElem? (i := 197) (by decide +kernel)) rfl
set_option maxRecDepth 20000 in
theorem lm_J1_92 : Cond.methodLink RJ1 92 yJ9_max_7cf53 ∈ BW := bw_c3 (List.mem_of_getElem? (i := 200) (by decide +kernel)) rfl
set_option maxRecDepth 20000 in
theorem lm_J1_38 : Cond.methodLink RJ1 38 yJ9_min_7cf53 ∈ BW := bw_c3 (List.mem_of_getElem? (i := 203) (by decide +kernel)) rfl
set_option maxRecDepth 20000 in
theorem lm_J1_95 : Cond.methodLink RJ1 95 yJ1_indexOfChar_4cfef ∈ BW := bw_c3 (List.mem_of_getElem? (i := 206) (by decide +kernel)) rfl
set_option maxRecDepth 20000 in
theorem lm_J0_640 : Cond.methodLink RJ0 640 yJ2_indexOf_4cfef ∈ BW := bw_c3 (List.mem_of_getElem? (i := 209) (by decide +kernel)) rfl
set_option maxRecDepth 20000 in
theorem lm_J2_224 : Cond.methodLink RJ2 224 yJ9_max_7cf53 ∈ BW := bw_c3 (List.mem_of_getElem? (i := 212) (by decide +kernel)) rfl
set_option maxRecDepth 20000 in
theorem lm_J2_183 : Cond.methodLink RJ2 183 yJ9_min_7cf53 ∈ BW := bw_c3 (List.mem_of_getElem? (i := 213) (by decide +kernel)) rfl
set_option maxRecDepth 20000 in
theorem lm_J2_228 : Cond.methodLink RJ2 228 yJ2_indexOfChar_4cfef ∈ BW := bw_c3 (List.mem_of_getElem? (i := 215) (by decide +kernel)) rfl
set_option maxRecDepth 20000 in
theorem lm_J2_96 : Cond.methodLink RJ2 96 yJ2_checkBoundsBeginEnd_d044e ∈ BW := bw_c3 (List.mem_of_getElem? (i := 218) (by decide +kernel)) rfl
set_option maxRecDepth 20000 in
theorem lm_J2_241 : Cond.methodLink RJ2 241 yJ0_checkBoundsBeginEnd_23922 ∈ BW := bw_c3 (List.mem_of_getElem? (i := 221) (by decide +kernel)) rfl
set_option maxRecDepth 20000 in
theorem lm_J0_1062 : Cond.methodLink RJ0 1062 yJ3_checkFromToIndex_8c36e ∈ BW := bw_c3 (List.mem_of_getElem? (i := 224) (by decide +kernel)) rfl
set_option maxRecDepth 20000 in
theorem lm_J2_244 : Cond.methodLink RJ2 244 yJ2_indexOfCharUnsafe_4cfef ∈ BW := bw_c3 (List.mem_of_getElem? (i := 227) (by decide +kernel)) rfl
set_option maxRecDepth 20000 in
theorem lm_J2_232 : Cond.methodLink RJ2 232 yJ2_indexOfSupplementary_4cfef ∈ BW := bw_c3 (List.mem_of_getElem? (i := 230) (by decide +kernel)) rfl
set_option maxRecDepth 20000 in
theorem lm_J2_164 : Cond.methodLink RJ2 164 yJ11_isValidCodePoint_9a6ad ∈ BW := bw_c3 (List.mem_of_getElem? (i := 233) (by decide +kernel)) rfl
set_option maxRecDepth 20000 in
theorem lm_J2_157 : Cond.methodLink RJ2 157 yJ11_highSurrogate_5068e ∈ BW := bw_c3 (List.mem_of_getElem? (i := 236) (by decide +kernel)) rfl
set_option maxRecDepth 20000 in
theorem lm_J2_161 : Cond.methodLink RJ2 161 yJ11_lowSurrogate_5068e ∈ BW := bw_c4 (List.mem_of_getElem? (i := 0) (by decide +kernel)) rfl
set_option maxRecDepth 20000 in
theorem lm_X5_58 : Cond.methodLink RX5 58 yX2_clear ∈ BW := bw_c4 (List.mem_of_getElem? (i := 4) (by decide +kernel)) rfl
set_option maxRecDepth 20000 in
theorem lm_X5_71 : Cond.methodLink RX5 71 yX5_advance ∈ BW := bw_c4 (List.mem_of_getElem? (i := 5) (by decide +kernel)) rfl
set_option maxRecDepth 20000 in
theorem lm_X5_38 : Cond.methodLink RX5 38 yX5_circuitLine ∈ BW := bw_c4 (List.mem_of_getElem? (i := 9) (by decide +kernel)) rfl
set_option maxRecDepth 20000 in
theorem lm_X5_88 : Cond.methodLink RX5 88 yX5_lineTold ∈ BW := bw_c4 (List.mem_of_getElem? (i := 13) (by decide +kernel)) rfl
set_option maxRecDepth 20000 in
theorem lm_X5_92 : Cond.methodLink RX5 92 yX5_once ∈ BW := bw_c4 (List.mem_of_getElem? (i := 17) (by decide +kernel)) rfl
set_option maxRecDepth 20000 in
theorem lm_X5_102 : Cond.methodLink RX5 102 yX2_isTold ∈ BW := bw_c4 (List.mem_of_getElem? (i := 21) (by decide +kernel)) rfl
set_option maxRecDepth 20000 in
theorem lm_X5_96 : Cond.methodLink RX5 96 yX5_refused ∈ BW := bw_c4 (List.mem_of_getElem? (i := 25) (by decide +kernel)) rfl
set_option maxRecDepth 20000 in
theorem lm_X5_85 : Cond.methodLink RX5 85 yX5_blame ∈ BW := bw_c4 (List.mem_of_getElem? (i := 29) (by decide +kernel)) rfl
set_option maxRecDepth 20000 in
theorem lm_X5_52 : Cond.methodLink RX5 52 yX5_expect ∈ BW := bw_c4 (List.mem_of_getElem? (i := 33) (by decide +kernel)) rfl
set_option maxRecDepth 20000 in
theorem lm_X5_41 : Cond.methodLink RX5 41 yX2_beginLine ∈ BW := bw_c4 (List.mem_of_getElem? (i := 37) (by decide +kernel)) rfl
set_option maxRecDepth 20000 in
theorem lm_X5_45 : Cond.methodLink RX5 45 yX5_expression ∈ BW := bw_c4 (List.mem_of_getElem? (i := 41) (by decide +kernel)) rfl
set_option maxRecDepth 20000 in
theorem lm_X5_106 : Cond.methodLink RX5 106 yX5_part ∈ BW := bw_c4 (List.mem_of_getElem? (i := 45) (by decide +kernel)) rfl
set_option maxRecDepth 20000 in
theorem lm_X5_115 : Cond.methodLink RX5 115 yX5_beginsPart ∈ BW := bw_c4 (List.mem_of_getElem? (i := 49) (by decide +kernel)) rfl
set_option maxRecDepth 20000 in
theorem lm_X5_112 : Cond.methodLink RX5 112 yX2_add ∈ BW := bw_c4 (List.mem_of_getElem? (i := 53) (by decide +kernel)) rfl
set_option maxRecDepth 20000 in
theorem lm_X5_118 : Cond.methodLink RX5 118 yX5_fact ∈ BW := bw_c4 (List.mem_of_getElem? (i := 57) (by decide +kernel)) rfl
set_option maxRecDepth 20000 in
theorem lm_X5_121 : Cond.methodLink RX5 121 yX5_floorFact ∈ BW := bw_c4 (List.mem_of_getElem? (i := 61) (by decide +kernel)) rfl
set_option maxRecDepth 20000 in
theorem lm_X5_109 : Cond.methodLink RX5 109 yX5_levelOf ∈ BW := bw_c4 (List.mem_of_getElem? (i := 65) (by decide +kernel)) rfl
set_option maxRecDepth 20000 in
theorem lm_X5_49 : Cond.methodLink RX5 49 yX2_endLine ∈ BW := bw_c4 (List.mem_of_getElem? (i := 68) (by decide +kernel)) rfl
set_option maxRecDepth 20000 in
theorem lm_X11_106 : Cond.methodLink RX11 106 yX2_copy ∈ BW := bw_c4 (List.mem_of_getElem? (i := 72) (by decide +kernel)) rfl
set_option maxRecDepth 20000 in
theorem lm_L_36 : Cond.methodLink RL 36 yX11_rule ∈ BW := bw_c4 (List.mem_of_getElem? (i := 80) (by decide +kernel)) rfl
set_option maxRecDepth 20000 in
theorem lm_X11_115 : Cond.methodLink RX11 115 yX5_readRule ∈ BW := bw_c4 (List.mem_of_getElem? (i := 84) (by decide +kernel)) rfl
set_option maxRecDepth 20000 in
theorem lm_X11_119 : Cond.methodLink RX11 119 yX6_setRule ∈ BW := bw_c4 (List.mem_of_getElem? (i := 88) (by decide +kernel)) rfl
set_option maxRecDepth 20000 in
theorem lm_X6_51 : Cond.methodLink RX6 51 yX2_copy ∈ BW := bw_c4 (List.mem_of_getElem? (i := 92) (by decide +kernel)) rfl
set_option maxRecDepth 20000 in
theorem lm_L_40 : Cond.methodLink RL 40 yX11_press ∈ BW := bw_c4 (List.mem_of_getElem? (i := 93) (by decide +kernel)) rfl
set_option maxRecDepth 20000 in
theorem lm_X11_122 : Cond.methodLink RX11 122 yX4_isButton ∈ BW := bw_c4 (List.mem_of_getElem? (i := 97) (by decide +kernel)) rfl
set_option maxRecDepth 20000 in
theorem lm_X11_126 : Cond.methodLink RX11 126 yX4_tick ∈ BW := bw_c4 (List.mem_of_getElem? (i := 101) (by decide +kernel)) rfl
set_option maxRecDepth 20000 in
theorem lm_X4_31 : Cond.methodLink RX4 31 yX4_step ∈ BW := bw_c4 (List.mem_of_getElem? (i := 105) (by decide +kernel)) rfl
set_option maxRecDepth 20000 in
theorem lm_X4_39 : Cond.methodLink RX4 39 yX4_factsOf ∈ BW := bw_c4 (List.mem_of_getElem? (i := 109) (by decide +kernel)) rfl
set_option maxRecDepth 20000 in
theorem lm_X4_42 : Cond.methodLink RX4 42 yX2_value ∈ BW := bw_c4 (List.mem_of_getElem? (i := 119) (by decide +kernel)) rfl
set_option maxRecDepth 20000 in
theorem lm_X2_46 : Cond.methodLink RX2 46 yX2_leaf ∈ BW := bw_c4 (List.mem_of_getElem? (i := 123) (by decide +kernel)) rfl
set_option maxRecDepth 20000 in
theorem lm_X2_50 : Cond.methodLink RX2 50 yX2_joined ∈ BW := bw_c4 (List.mem_of_getElem? (i := 127) (by decide +kernel)) rfl
set_option maxRecDepth 20000 in
theorem lm_X4_48 : Cond.methodLink RX4 48 yX4_shifted ∈ BW := bw_c4 (List.mem_of_getElem? (i := 130) (by decide +kernel)) rfl
set_option maxRecDepth 20000 in
theorem lm_X4_35 : Cond.methodLink RX4 35 yX4_lampsIn ∈ BW := bw_c4 (List.mem_of_getElem? (i := 134) (by decide +kernel)) rfl
set_option maxRecDepth 20000 in
theorem lm_L_44 : Cond.methodLink RL 44 yX11_again ∈ BW := bw_c4 (List.mem_of_getElem? (i := 138) (by decide +kernel)) rfl
set_option maxRecDepth 20000 in
theorem lm_L_58 : Cond.methodLink RL 58 yX11_never ∈ BW := bw_c4 (List.mem_of_getElem? (i := 142) (by decide +kernel)) rfl
set_option maxRecDepth 20000 in
theorem lm_X11_156 : Cond.methodLink RX11 156 yX0_breakerOf ∈ BW := bw_c4 (List.mem_of_getElem? (i := 146) (by decide +kernel)) rfl
set_option maxRecDepth 20000 in
theorem lm_X0_55 : Cond.methodLink RX0 55 yX0_explore ∈ BW := bw_c4 (List.mem_of_getElem? (i := 150) (by decide +kernel)) rfl
set_option maxRecDepth 20000 in
theorem lm_X0_67 : Cond.methodLink RX0 67 yJ7_fill_53178 ∈ BW := bw_c4 (List.mem_of_getElem? (i := 154) (by decide +kernel)) rfl
set_option maxRecDepth 20000 in
theorem lm_X0_73 : Cond.methodLink RX0 73 yX0_find ∈ BW := bw_c4 (List.mem_of_getElem? (i := 155) (by decide +kernel)) rfl
set_option maxRecDepth 20000 in
theorem lm_X0_81 : Cond.methodLink RX0 81 yX4_lampsIn ∈ BW := bw_c4 (List.mem_of_getElem? (i := 159) (by decide +kernel)) rfl
set_option maxRecDepth 20000 in
theorem lm_X0_85 : Cond.methodLink RX0 85 yJ9_max_7cf53 ∈ BW := bw_c4 (List.mem_of_getElem? (i := 160) (by decide +kernel)) rfl
set_option maxRecDepth 20000 in
theorem lm_X0_77 : Cond.methodLink RX0 77 yX4_step ∈ BW := bw_c4 (List.mem_of_getElem? (i := 161) (by decide +kernel)) rfl
set_option maxRecDepth 20000 in
theorem lm_X0_93 : Cond.methodLink RX0 93 yX4_breaksNever ∈ BW := bw_c4 (List.mem_of_getElem? (i := 162) (by decide +kernel)) rfl
set_option maxRecDepth 20000 in
theorem lm_X11_159 : Cond.methodLink RX11 159 yX0_rowLength ∈ BW := bw_c4 (List.mem_of_getElem? (i := 166) (by decide +kernel)) rfl
set_option maxRecDepth 20000 in
theorem lm_L_63 : Cond.methodLink RL 63 yX11_neverRow ∈ BW := bw_c4 (List.mem_of_getElem? (i := 170) (by decide +kernel)) rfl
set_option maxRecDepth 20000 in
theorem lm_X11_162 : Cond.methodLink RX11 162 yX0_rowButton ∈ BW := bw_c4 (List.mem_of_getElem? (i := 174) (by decide +kernel)) rfl
set_option maxRecDepth 20000 in
theorem lm_X0_90 : Cond.methodLink RX0 90 yX0_rowLength ∈ BW := bw_c4 (List.mem_of_getElem? (i := 178) (by decide +kernel)) rfl
set_option maxRecDepth 20000 in
theorem lm_L_67 : Cond.methodLink RL 67 yX11_forgets ∈ BW := bw_c4 (List.mem_of_getElem? (i := 179) (by decide +kernel)) rfl
set_option maxRecDepth 20000 in
theorem lm_X11_166 : Cond.methodLink RX11 166 yX11_isFloor ∈ BW := bw_c4 (List.mem_of_getElem? (i := 183) (by decide +kernel)) rfl
set_option maxRecDepth 20000 in
theorem lm_X11_169 : Cond.methodLink RX11 169 yX11_isPatience ∈ BW := bw_c4 (List.mem_of_getElem? (i := 187) (by decide +kernel)) rfl
set_option maxRecDepth 20000 in
theorem lm_X11_172 : Cond.methodLink RX11 172 yX0_forgetterOf ∈ BW := bw_c4 (List.mem_of_getElem? (i := 190) (by decide +kernel)) rfl
set_option maxRecDepth 20000 in
theorem lm_X0_97 : Cond.methodLink RX0 97 yX0_findForgetters ∈ BW := bw_c4 (List.mem_of_getElem? (i := 194) (by decide +kernel)) rfl
set_option maxRecDepth 20000 in
theorem lm_X0_101 : Cond.methodLink RX0 101 yX0_behind ∈ BW := bw_c4 (List.mem_of_getElem? (i := 198) (by decide +kernel)) rfl
set_option maxRecDepth 20000 in
theorem lm_X0_104 : Cond.methodLink RX0 104 yX0_ticksUntilOpen ∈ BW := bw_c4 (List.mem_of_getElem? (i := 202) (by decide +kernel)) rfl
set_option maxRecDepth 20000 in
theorem lm_X0_107 : Cond.methodLink RX0 107 yX0_isOpenAt ∈ BW := bw_c4 (List.mem_of_getElem? (i := 206) (by decide +kernel)) rfl
set_option maxRecDepth 20000 in
theorem lm_X0_110 : Cond.methodLink RX0 110 yJ9_min_7cf53 ∈ BW := bw_c4 (List.mem_of_getElem? (i := 212) (by decide +kernel)) rfl
set_option maxRecDepth 20000 in
theorem lm_L_72 : Cond.methodLink RL 72 yX11_forgetsRow ∈ BW := bw_c4 (List.mem_of_getElem? (i := 213) (by decide +kernel)) rfl
set_option maxRecDepth 20000 in
theorem lm_L_76 : Cond.methodLink RL 76 yX11_stuck ∈ BW := bw_c4 (List.mem_of_getElem? (i := 217) (by decide +kernel)) rfl
set_option maxRecDepth 20000 in
theorem lm_X11_175 : Cond.methodLink RX11 175 yX11_areLamps ∈ BW := bw_c4 (List.mem_of_getElem? (i := 221) (by decide +kernel)) rfl
set_option maxRecDepth 20000 in
theorem lm_X11_178 : Cond.methodLink RX11 178 yX3_start ∈ BW := bw_c4 (List.mem_of_getElem? (i := 224) (by decide +kernel)) rfl
set_option maxRecDepth 20000 in
theorem lm_X3_50 : Cond.methodLink RX3 50 yX0_howMany ∈ BW := bw_c4 (List.mem_of_getElem? (i := 228) (by decide +kernel)) rfl
set_option maxRecDepth 20000 in
theorem lm_X3_56 : Cond.methodLink RX3 56 yX0_lampsAt ∈ BW := bw_c4 (List.mem_of_getElem? (i := 232) (by decide +kernel)) rfl
set_option maxRecDepth 20000 in
theorem lm_L_80 : Cond.methodLink RL 80 yX11_tried ∈ BW := bw_c4 (List.mem_of_getElem? (i := 236) (by decide +kernel)) rfl
set_option maxRecDepth 20000 in
theorem lm_X11_185 : Cond.methodLink RX11 185 yX3_follow ∈ BW := bw_c5 (List.mem_of_getElem? (i := 0) (by decide +kernel)) rfl
set_option maxRecDepth 20000 in
theorem lm_X3_63 : Cond.methodLink RX3 63 yX0_behind ∈ BW := bw_c5 (List.mem_of_getElem? (i := 4) (by decide +kernel)) rfl
set_option maxRecDepth 20000 in
theorem lm_L_84 : Cond.methodLink RL 84 yX11_thought ∈ BW := bw_c5 (List.mem_of_getElem? (i := 5) (by decide +kernel)) rfl
set_option maxRecDepth 20000 in
theorem lm_X11_191 : Cond.methodLink RX11 191 yX3_summary ∈ BW := bw_c5 (List.mem_of_getElem? (i := 9) (by decide +kernel)) rfl
set_option maxRecDepth 20000 in
theorem lm_X3_67 : Cond.methodLink RX3 67 yX0_stateAt ∈ BW := bw_c5 (List.mem_of_getElem? (i := 13) (by decide +kernel)) rfl
set_option maxRecDepth 20000 in
theorem lm_L_88 : Cond.methodLink RL 88 yX11_tests ∈ BW := bw_c5 (List.mem_of_getElem? (i := 19) (by decide +kernel)) rfl
set_option maxRecDepth 20000 in
theorem lm_X11_194 : Cond.methodLink RX11 194 yX3_plan ∈ BW := bw_c5 (List.mem_of_getElem? (i := 23) (by decide +kernel)) rfl
set_option maxRecDepth 20000 in
theorem lm_X3_76 : Cond.methodLink RX3 76 yX3_oneFloor ∈ BW := bw_c5 (List.mem_of_getElem? (i := 27) (by decide +kernel)) rfl
set_option maxRecDepth 20000 in
theorem lm_X3_93 : Cond.methodLink RX3 93 yX3_floorAt ∈ BW := bw_c5 (List.mem_of_getElem? (i := 31) (by decide +kernel)) rfl
set_option maxRecDepth 20000 in
theorem lm_X3_86 : Cond.methodLink RX3 86 yX0_choices ∈ BW := bw_c5 (List.mem_of_getElem? (i := 35) (by decide +kernel)) rfl
set_option maxRecDepth 20000 in
theorem lm_X3_89 : Cond.methodLink RX3 89 yX3_tells ∈ BW := bw_c5 (List.mem_of_getElem? (i := 39) (by decide +kernel)) rfl
set_option maxRecDepth 20000 in
theorem lm_X3_96 : Cond.methodLink RX3 96 yX3_tellsAtOnce ∈ BW := bw_c5 (List.mem_of_getElem? (i := 43) (by decide +kernel)) rfl
set_option maxRecDepth 20000 in
theorem lm_X3_100 : Cond.methodLink RX3 100 yX3_split ∈ BW := bw_c5 (List.mem_of_getElem? (i := 47) (by decide +kernel)) rfl
set_option maxRecDepth 20000 in
theorem lm_X3_107 : Cond.methodLink RX3 107 yX3_sizesToBegins ∈ BW := bw_c5 (List.mem_of_getElem? (i := 51) (by decide +kernel)) rfl
set_option maxRecDepth 20000 in
theorem lm_X3_104 : Cond.methodLink RX3 104 yX3_canTell ∈ BW := bw_c5 (List.mem_of_getElem? (i := 54) (by decide +kernel)) rfl
set_option maxRecDepth 20000 in
theorem lm_L_92 : Cond.methodLink RL 92 yX11_cars ∈ BW := bw_c5 (List.mem_of_getElem? (i := 58) (by decide +kernel)) rfl
set_option maxRecDepth 20000 in
theorem lm_X11_202 : Cond.methodLink RX11 202 yX6_setCars ∈ BW := bw_c5 (List.mem_of_getElem? (i := 62) (by decide +kernel)) rfl
set_option maxRecDepth 20000 in
theorem lm_L_97 : Cond.methodLink RL 97 yX11_person ∈ BW := bw_c5 (List.mem_of_getElem? (i := 63) (by decide +kernel)) rfl
set_option maxRecDepth 20000 in
theorem lm_X11_206 : Cond.methodLink RX11 206 yX6_addPerson ∈ BW := bw_c5 (List.mem_of_getElem? (i := 67) (by decide +kernel)) rfl
set_option maxRecDepth 20000 in
theorem lm_L_101 : Cond.methodLink RL 101 yX11_hold ∈ BW := bw_c5 (List.mem_of_getElem? (i := 71) (by decide +kernel)) rfl
set_option maxRecDepth 20000 in
theorem lm_X11_210 : Cond.methodLink RX11 210 yX6_addHold ∈ BW := bw_c5 (List.mem_of_getElem? (i := 75) (by decide +kernel)) rfl
set_option maxRecDepth 20000 in
theorem lm_L_106 : Cond.methodLink RL 106 yX11_fire ∈ BW := bw_c5 (List.mem_of_getElem? (i := 79) (by decide +kernel)) rfl
set_option maxRecDepth 20000 in
theorem lm_X11_214 : Cond.methodLink RX11 214 yX6_setFire ∈ BW := bw_c5 (List.mem_of_getElem? (i := 83) (by decide +kernel)) rfl
set_option maxRecDepth 20000 in
theorem lm_L_110 : Cond.methodLink RL 110 yX11_nobody ∈ BW := bw_c5 (List.mem_of_getElem? (i := 87) (by decide +kernel)) rfl
set_option maxRecDepth 20000 in
theorem lm_X11_217 : Cond.methodLink RX11 217 yX6_dismiss ∈ BW := bw_c5 (List.mem_of_getElem? (i := 91) (by decide +kernel)) rfl
set_option maxRecDepth 20000 in
theorem lm_L_114 : Cond.methodLink RL 114 yX11_run ∈ BW := bw_c5 (List.mem_of_getElem? (i := 92) (by decide +kernel)) rfl
set_option maxRecDepth 20000 in
theorem lm_X11_220 : Cond.methodLink RX11 220 yX10_catchUp ∈ BW := bw_c5 (List.mem_of_getElem? (i := 96) (by decide +kernel)) rfl
set_option maxRecDepth 20000 in
theorem lm_X10_61 : Cond.methodLink RX10 61 yX6_tellings ∈ BW := bw_c5 (List.mem_of_getElem? (i := 100) (by decide +kernel)) rfl
set_option maxRecDepth 20000 in
theorem lm_X10_67 : Cond.methodLink RX10 67 yX10_simulate ∈ BW := bw_c5 (List.mem_of_getElem? (i := 104) (by decide +kernel)) rfl
set_option maxRecDepth 20000 in
theorem lm_X10_71 : Cond.methodLink RX10 71 yX10_begin ∈ BW := bw_c5 (List.mem_of_getElem? (i := 108) (by decide +kernel)) rfl
set_option maxRecDepth 20000 in
theorem lm_X10_88 : Cond.methodLink RX10 88 yX6_nextComing ∈ BW := bw_c5 (List.mem_of_getElem? (i := 112) (by decide +kernel)) rfl
set_option maxRecDepth 20000 in
theorem lm_X10_128 : Cond.methodLink RX10 128 yJ7_fill_53178 ∈ BW := bw_c5 (List.mem_of_getElem? (i := 116) (by decide +kernel)) rfl
set_option maxRecDepth 20000 in
theorem lm_X10_77 : Cond.methodLink RX10 77 yX6_burns ∈ BW := bw_c5 (List.mem_of_getElem? (i := 117) (by decide +kernel)) rfl
set_option maxRecDepth 20000 in
theorem lm_X10_84 : Cond.methodLink RX10 84 yX10_give ∈ BW := bw_c5 (List.mem_of_getElem? (i := 121) (by decide +kernel)) rfl
set_option maxRecDepth 20000 in
theorem lm_X10_143 : Cond.methodLink RX10 143 yX10_carByRule ∈ BW := bw_c5 (List.mem_of_getElem? (i := 125) (by decide +kernel)) rfl
set_option maxRecDepth 20000 in
theorem lm_X10_146 : Cond.methodLink RX10 146 yX10_ruleOf ∈ BW := bw_c5 (List.mem_of_getElem? (i := 129) (by decide +kernel)) rfl
set_option maxRecDepth 20000 in
theorem lm_X10_150 : Cond.methodLink RX10 150 yX10_hasRoom ∈ BW := bw_c5 (List.mem_of_getElem? (i := 133) (by decide +kernel)) rfl
set_option maxRecDepth 20000 in
theorem lm_X10_169 : Cond.methodLink RX10 169 yJ6_bitCount_0f7a4 ∈ BW := bw_c5 (List.mem_of_getElem? (i := 137) (by decide +kernel)) rfl
set_option maxRecDepth 20000 in
theorem lm_X10_153 : Cond.methodLink RX10 153 yX10_goalsOf ∈ BW := bw_c5 (List.mem_of_getElem? (i := 143) (by decide +kernel)) rfl
set_option maxRecDepth 20000 in
theorem lm_X10_166 : Cond.methodLink RX10 166 yJ9_abs_0f7a4 ∈ BW := bw_c5 (List.mem_of_getElem? (i := 147) (by decide +kernel)) rfl
set_option maxRecDepth 20000 in
theorem lm_X10_174 : Cond.methodLink RX10 174 yX2_value ∈ BW := bw_c5 (List.mem_of_getElem? (i := 150) (by decide +kernel)) rfl
set_option maxRecDepth 20000 in
theorem lm_X10_92 : Cond.methodLink RX10 92 yX10_holdDoors ∈ BW := bw_c5 (List.mem_of_getElem? (i := 151) (by decide +kernel)) rfl
set_option maxRecDepth 20000 in
theorem lm_X10_98 : Cond.methodLink RX10 98 yX10_act ∈ BW := bw_c5 (List.mem_of_getElem? (i := 155) (by decide +kernel)) rfl
set_option maxRecDepth 20000 in
theorem lm_X10_189 : Cond.methodLink RX10 189 yX10_flee ∈ BW := bw_c5 (List.mem_of_getElem? (i := 159) (by decide +kernel)) rfl
set_option maxRecDepth 20000 in
theorem lm_X10_201 : Cond.methodLink RX10 201 yX10_move ∈ BW := bw_c5 (List.mem_of_getElem? (i := 163) (by decide +kernel)) rfl
set_option maxRecDepth 20000 in
theorem lm_X10_226 : Cond.methodLink RX10 226 yJ9_min_7cf53 ∈ BW := bw_c5 (List.mem_of_getElem? (i := 167) (by decide +kernel)) rfl
set_option maxRecDepth 20000 in
theorem lm_X10_204 : Cond.methodLink RX10 204 yX10_letOut ∈ BW := bw_c5 (List.mem_of_getElem? (i := 168) (by decide +kernel)) rfl
set_option maxRecDepth 20000 in
theorem lm_X10_192 : Cond.methodLink RX10 192 yX10_stopsHere ∈ BW := bw_c5 (List.mem_of_getElem? (i := 172) (by decide +kernel)) rfl
set_option maxRecDepth 20000 in
theorem lm_X10_195 : Cond.methodLink RX10 195 yX10_stop ∈ BW := bw_c5 (List.mem_of_getElem? (i := 176) (by decide +kernel)) rfl
set_option maxRecDepth 20000 in
theorem lm_X10_198 : Cond.methodLink RX10 198 yX10_go ∈ BW := bw_c5 (List.mem_of_getElem? (i := 180) (by decide +kernel)) rfl
set_option maxRecDepth 20000 in
theorem lm_X10_220 : Cond.methodLink RX10 220 yJ6_compare_7cf53 ∈ BW := bw_c5 (List.mem_of_getElem? (i := 184) (by decide +kernel)) rfl
set_option maxRecDepth 20000 in
theorem lm_X10_223 : Cond.methodLink RX10 223 yX10_wayTo ∈ BW := bw_c5 (List.mem_of_getElem? (i := 187) (by decide +kernel)) rfl
set_option maxRecDepth 20000 in
theorem lm_X10_104 : Cond.methodLink RX10 104 yX10_allHome ∈ BW := bw_c5 (List.mem_of_getElem? (i := 190) (by decide +kernel)) rfl
set_option maxRecDepth 20000 in
theorem lm_X10_108 : Cond.methodLink RX10 108 yX10_allRest ∈ BW := bw_c5 (List.mem_of_getElem? (i := 194) (by decide +kernel)) rfl
set_option maxRecDepth 20000 in
theorem lm_X10_111 : Cond.methodLink RX10 111 yX10_nextChange ∈ BW := bw_c5 (List.mem_of_getElem? (i := 198) (by decide +kernel)) rfl
set_option maxRecDepth 20000 in
theorem lm_X10_114 : Cond.methodLink RX10 114 yJ9_max_7cf53 ∈ BW := bw_c5 (List.mem_of_getElem? (i := 202) (by decide +kernel)) rfl
set_option maxRecDepth 20000 in
theorem lm_X10_120 : Cond.methodLink RX10 120 yX10_noteWaits ∈ BW := bw_c5 (List.mem_of_getElem? (i := 203) (by decide +kernel)) rfl
set_option maxRecDepth 20000 in
theorem lm_L_118 : Cond.methodLink RL 118 yX11_rode ∈ BW := bw_c5 (List.mem_of_getElem? (i := 207) (by decide +kernel)) rfl
set_option maxRecDepth 20000 in
theorem lm_L_122 : Cond.methodLink RL 122 yX11_waits ∈ BW := bw_c5 (List.mem_of_getElem? (i := 211) (by decide +kernel)) rfl
set_option maxRecDepth 20000 in
theorem lm_X11_242 : Cond.methodLink RX11 242 yX10_sumOfWaits ∈ BW := bw_c5 (List.mem_of_getElem? (i := 215) (by decide +kernel)) rfl
set_option maxRecDepth 20000 in
theorem lm_X11_245 : Cond.methodLink RX11 245 yX10_longestWaiter ∈ BW := bw_c5 (List.mem_of_getElem? (i := 219) (by decide +kernel)) rfl
set_option maxRecDepth 20000 in
theorem lm_X11_248 : Cond.methodLink RX11 248 yX10_howManyOut ∈ BW := bw_c5 (List.mem_of_getElem? (i := 223) (by decide +kernel)) rfl
set_option maxRecDepth 20000 in
theorem lm_L_126 : Cond.methodLink RL 126 yX11_moved ∈ BW := bw_c5 (List.mem_of_getElem? (i := 227) (by decide +kernel)) rfl
set_option maxRecDepth 20000 in
theorem lm_L_130 : Cond.methodLink RL 130 yX11_stopped ∈ BW := bw_c5 (List.mem_of_getElem? (i := 231) (by decide +kernel)) rfl
set_option maxRecDepth 20000 in
theorem lm_L_134 : Cond.methodLink RL 134 yX11_best ∈ BW := bw_c5 (List.mem_of_getElem? (i := 235) (by decide +kernel)) rfl
set_option maxRecDepth 20000 in
theorem lm_X11_263 : Cond.methodLink RX11 263 yX1_weighAll ∈ BW := bw_c5 (List.mem_of_getElem? (i := 239) (by decide +kernel)) rfl
set_option maxRecDepth 20000 in
theorem lm_X1_43 : Cond.methodLink RX1 43 yJ7_fill_53178 ∈ BW := bw_c6 (List.mem_of_getElem? (i := 3) (by decide +kernel)) rfl
set_option maxRecDepth 20000 in
theorem lm_X1_52 : Cond.methodLink RX1 52 yX10_simulate ∈ BW := bw_c6 (List.mem_of_getElem? (i := 4) (by decide +kernel)) rfl
set_option maxRecDepth 20000 in
theorem lm_X1_56 : Cond.methodLink RX1 56 yX10_sumOfWaits ∈ BW := bw_c6 (List.mem_of_getElem? (i := 5) (by decide +kernel)) rfl
set_option maxRecDepth 20000 in
theorem lm_X1_60 : Cond.methodLink RX1 60 yX1_weigh ∈ BW := bw_c6 (List.mem_of_getElem? (i := 6) (by decide +kernel)) rfl
set_option maxRecDepth 20000 in
theorem lm_X1_67 : Cond.methodLink RX1 67 yX10_longestWaiter ∈ BW := bw_c6 (List.mem_of_getElem? (i := 10) (by decide +kernel)) rfl
set_option maxRecDepth 20000 in
theorem lm_L_138 : Cond.methodLink RL 138 yX11_trip ∈ BW := bw_c6 (List.mem_of_getElem? (i := 11) (by decide +kernel)) rfl
set_option maxRecDepth 20000 in
theorem lm_X11_272 : Cond.methodLink RX11 272 yX7_addTrip ∈ BW := bw_c6 (List.mem_of_getElem? (i := 15) (by decide +kernel)) rfl
set_option maxRecDepth 20000 in
theorem lm_X7_34 : Cond.methodLink RX7 34 yJ9_min_7cf53 ∈ BW := bw_c6 (List.mem_of_getElem? (i := 19) (by decide +kernel)) rfl
set_option maxRecDepth 20000 in
theorem lm_X7_40 : Cond.methodLink RX7 40 yJ9_max_7cf53 ∈ BW := bw_c6 (List.mem_of_getElem? (i := 20) (by decide +kernel)) rfl
set_option maxRecDepth 20000 in
theorem lm_L_142 : Cond.methodLink RL 142 yX11_gauge ∈ BW := bw_c6 (List.mem_of_getElem? (i := 21) (by decide +kernel)) rfl
set_option maxRecDepth 20000 in
theorem lm_X11_275 : Cond.methodLink RX11 275 yX7_setSlip ∈ BW := bw_c6 (List.mem_of_getElem? (i := 25) (by decide +kernel)) rfl
set_option maxRecDepth 20000 in
theorem lm_X11_278 : Cond.methodLink RX11 278 yX7_setLife ∈ BW := bw_c6 (List.mem_of_getElem? (i := 29) (by decide +kernel)) rfl
set_option maxRecDepth 20000 in
theorem lm_X11_281 : Cond.methodLink RX11 281 yX7_setDays ∈ BW := bw_c6 (List.mem_of_getElem? (i := 34) (by decide +kernel)) rfl
set_option maxRecDepth 20000 in
theorem lm_L_147 : Cond.methodLink RL 147 yX11_rope ∈ BW := bw_c6 (List.mem_of_getElem? (i := 38) (by decide +kernel)) rfl
set_option maxRecDepth 20000 in
theorem lm_X11_284 : Cond.methodLink RX11 284 yX7_leastBends ∈ BW := bw_c6 (List.mem_of_getElem? (i := 42) (by decide +kernel)) rfl
set_option maxRecDepth 20000 in
theorem lm_X7_44 : Cond.methodLink RX7 44 yX7_bends ∈ BW := bw_c6 (List.mem_of_getElem? (i := 46) (by decide +kernel)) rfl
set_option maxRecDepth 20000 in
theorem lm_X7_48 : Cond.methodLink RX7 48 yX7_passes ∈ BW := bw_c6 (List.mem_of_getElem? (i := 50) (by decide +kernel)) rfl
set_option maxRecDepth 20000 in
theorem lm_X7_52 : Cond.methodLink RX7 52 yX7_trueNumber ∈ BW := bw_c6 (List.mem_of_getElem? (i := 54) (by decide +kernel)) rfl
set_option maxRecDepth 20000 in
theorem lm_X11_287 : Cond.methodLink RX11 287 yX7_mostBends ∈ BW := bw_c6 (List.mem_of_getElem? (i := 58) (by decide +kernel)) rfl
set_option maxRecDepth 20000 in
theorem lm_X11_290 : Cond.methodLink RX11 290 yX7_worn ∈ BW := bw_c6 (List.mem_of_getElem? (i := 62) (by decide +kernel)) rfl
set_option maxRecDepth 20000 in
theorem lm_X7_56 : Cond.methodLink RX7 56 yX7_leastBends ∈ BW := bw_c6 (List.mem_of_getElem? (i := 66) (by decide +kernel)) rfl
set_option maxRecDepth 20000 in
theorem lm_X7_60 : Cond.methodLink RX7 60 yX7_mostBends ∈ BW := bw_c6 (List.mem_of_getElem? (i := 67) (by decide +kernel)) rfl
set_option maxRecDepth 20000 in
theorem lm_L_151 : Cond.methodLink RL 151 yX11_first ∈ BW := bw_c6 (List.mem_of_getElem? (i := 68) (by decide +kernel)) rfl
set_option maxRecDepth 20000 in
theorem lm_X11_293 : Cond.methodLink RX11 293 yX7_leads ∈ BW := bw_c6 (List.mem_of_getElem? (i := 72) (by decide +kernel)) rfl
set_option maxRecDepth 20000 in
theorem lm_L_155 : Cond.methodLink RL 155 yX11_lasts ∈ BW := bw_c6 (List.mem_of_getElem? (i := 76) (by decide +kernel)) rfl
set_option maxRecDepth 20000 in
theorem lm_X11_299 : Cond.methodLink RX11 299 yX7_daysLeft ∈ BW := bw_c6 (List.mem_of_getElem? (i := 81) (by decide +kernel)) rfl
set_option maxRecDepth 20000 in
theorem lm_X7_65 : Cond.methodLink RX7 65 yJ9_max_f86c9 ∈ BW := bw_c6 (List.mem_of_getElem? (i := 86) (by decide +kernel)) rfl
set_option maxRecDepth 20000 in
theorem lm_L_160 : Cond.methodLink RL 160 yX11_count ∈ BW := bw_c6 (List.mem_of_getElem? (i := 89) (by decide +kernel)) rfl
set_option maxRecDepth 20000 in
theorem lm_X11_303 : Cond.methodLink RX11 303 yX0_howMany ∈ BW := bw_c6 (List.mem_of_getElem? (i := 93) (by decide +kernel)) rfl
set_option maxRecDepth 20000 in
theorem lm_L_49 : Cond.methodLink RL 49 yL_look ∈ BW := bw_c6 (List.mem_of_getElem? (i := 94) (by decide +kernel)) rfl
set_option maxRecDepth 20000 in
theorem lm_L_7 : Cond.methodLink RL 7 yX11_look ∈ BW := bw_c6 (List.mem_of_getElem? (i := 98) (by decide +kernel)) rfl
set_option maxRecDepth 20000 in
theorem lm_X11_135 : Cond.methodLink RX11 135 yX11_floorOf ∈ BW := bw_c6 (List.mem_of_getElem? (i := 102) (by decide +kernel)) rfl
set_option maxRecDepth 20000 in
theorem lm_X11_138 : Cond.methodLink RX11 138 yX11_doorOf ∈ BW := bw_c6 (List.mem_of_getElem? (i := 103) (by decide +kernel)) rfl
set_option maxRecDepth 20000 in
theorem lm_X11_141 : Cond.methodLink RX11 141 yX4_lampsIn ∈ BW := bw_c6 (List.mem_of_getElem? (i := 104) (by decide +kernel)) rfl
set_option maxRecDepth 20000 in
theorem lm_L_18 : Cond.methodLink RL 18 yX12_init ∈ BW := bw_c6 (List.mem_of_getElem? (i := 168) (by decide +kernel)) rfl
set_option maxRecDepth 20000 in
theorem lm_L_55 : Cond.methodLink RL 55 yX12_thrown ∈ BW := bw_c7 (List.mem_of_getElem? (i := 180) (by decide +kernel)) rfl
set_option maxRecDepth 20000 in
theorem lm_L_23 : Cond.methodLink RL 23 yX12_floors ∈ BW := bw_c7 (List.mem_of_getElem? (i := 184) (by decide +kernel)) rfl
set_option maxRecDepth 20000 in
theorem lm_X12_183 : Cond.methodLink RX12 183 yX12_within ∈ BW := bw_c7 (List.mem_of_getElem? (i := 188) (by decide +kernel)) rfl
set_option maxRecDepth 20000 in
theorem lm_X12_191 : Cond.methodLink RX12 191 yX12_begins ∈ BW := bw_c7 (List.mem_of_getElem? (i := 191) (by decide +kernel)) rfl
set_option maxRecDepth 20000 in
theorem lm_X12_203 : Cond.methodLink RX12 203 yX12_clears ∈ BW := bw_c7 (List.mem_of_getElem? (i := 195) (by decide +kernel)) rfl
set_option maxRecDepth 20000 in
theorem lm_L_30 : Cond.methodLink RL 30 yX12_feed ∈ BW := bw_c7 (List.mem_of_getElem? (i := 199) (by decide +kernel)) rfl
set_option maxRecDepth 20000 in
theorem lm_L_35 : Cond.methodLink RL 35 yX12_circuit ∈ BW := bw_c7 (List.mem_of_getElem? (i := 204) (by decide +kernel)) rfl
set_option maxRecDepth 20000 in
theorem lm_X12_333 : Cond.methodLink RX12 333 yX12_takesTape ∈ BW := bw_c7 (List.mem_of_getElem? (i := 208) (by decide +kernel)) rfl
set_option maxRecDepth 20000 in
theorem lm_X12_287 : Cond.methodLink RX12 287 yX12_nextToken ∈ BW := bw_c7 (List.mem_of_getElem? (i := 212) (by decide +kernel)) rfl
set_option maxRecDepth 20000 in
theorem lm_X12_236 : Cond.methodLink RX12 236 yX12_signAt ∈ BW := bw_c7 (List.mem_of_getElem? (i := 216) (by decide +kernel)) rfl
set_option maxRecDepth 20000 in
theorem lm_X12_336 : Cond.methodLink RX12 336 yX12_readsCircuit ∈ BW := bw_c7 (List.mem_of_getElem? (i := 222) (by decide +kernel)) rfl
set_option maxRecDepth 20000 in
theorem lm_X12_326 : Cond.methodLink RX12 326 yX12_readsLine ∈ BW := bw_c7 (List.mem_of_getElem? (i := 226) (by decide +kernel)) rfl
set_option maxRecDepth 20000 in
theorem lm_X12_300 : Cond.methodLink RX12 300 yX12_isWord ∈ BW := bw_c7 (List.mem_of_getElem? (i := 231) (by decide +kernel)) rfl
set_option maxRecDepth 20000 in
theorem lm_X12_290 : Cond.methodLink RX12 290 yX12_fails ∈ BW := bw_c8 (List.mem_of_getElem? (i := 0) (by decide +kernel)) rfl
set_option maxRecDepth 20000 in
theorem lm_X12_304 : Cond.methodLink RX12 304 yX12_isSign ∈ BW := bw_c8 (List.mem_of_getElem? (i := 5) (by decide +kernel)) rfl
set_option maxRecDepth 20000 in
theorem lm_X12_329 : Cond.methodLink RX12 329 yX12_reads ∈ BW := bw_c8 (List.mem_of_getElem? (i := 9) (by decide +kernel)) rfl
set_option maxRecDepth 20000 in
theorem lm_X12_294 : Cond.methodLink RX12 294 yX12_fact ∈ BW := bw_c8 (List.mem_of_getElem? (i := 13) (by decide +kernel)) rfl
set_option maxRecDepth 20000 in
theorem lm_X12_283 : Cond.methodLink RX12 283 yX12_puts ∈ BW := bw_c8 (List.mem_of_getElem? (i := 32) (by decide +kernel)) rfl
set_option maxRecDepth 20000 in
theorem lm_X12_307 : Cond.methodLink RX12 307 yX12_readsFact ∈ BW := bw_c8 (List.mem_of_getElem? (i := 36) (by decide +kernel)) rfl
set_option maxRecDepth 20000 in
theorem lm_L_39 : Cond.methodLink RL 39 yX12_rule ∈ BW := bw_c8 (List.mem_of_getElem? (i := 42) (by decide +kernel)) rfl
set_option maxRecDepth 20000 in
theorem lm_L_43 : Cond.methodLink RL 43 yX12_press ∈ BW := bw_c8 (List.mem_of_getElem? (i := 46) (by decide +kernel)) rfl
set_option maxRecDepth 20000 in
theorem lm_X12_376 : Cond.methodLink RX12 376 yX12_isFloor ∈ BW := bw_c8 (List.mem_of_getElem? (i := 50) (by decide +kernel)) rfl
set_option maxRecDepth 20000 in
theorem lm_X12_379 : Cond.methodLink RX12 379 yX12_behind ∈ BW := bw_c8 (List.mem_of_getElem? (i := 54) (by decide +kernel)) rfl
set_option maxRecDepth 20000 in
theorem lm_X12_369 : Cond.methodLink RX12 369 yX12_sets ∈ BW := bw_c8 (List.mem_of_getElem? (i := 58) (by decide +kernel)) rfl
set_option maxRecDepth 20000 in
theorem lm_X12_360 : Cond.methodLink RX12 360 yX12_isOpen ∈ BW := bw_c8 (List.mem_of_getElem? (i := 62) (by decide +kernel)) rfl
set_option maxRecDepth 20000 in
theorem lm_X12_363 : Cond.methodLink RX12 363 yX12_floorOf ∈ BW := bw_c8 (List.mem_of_getElem? (i := 65) (by decide +kernel)) rfl
set_option maxRecDepth 20000 in
theorem lm_X12_373 : Cond.methodLink RX12 373 yX12_isSo ∈ BW := bw_c8 (List.mem_of_getElem? (i := 68) (by decide +kernel)) rfl
set_option maxRecDepth 20000 in
theorem lm_X12_357 : Cond.methodLink RX12 357 yX12_worth ∈ BW := bw_c8 (List.mem_of_getElem? (i := 72) (by decide +kernel)) rfl
set_option maxRecDepth 20000 in
theorem lm_X12_342 : Cond.methodLink RX12 342 yX12_opens ∈ BW := bw_c8 (List.mem_of_getElem? (i := 76) (by decide +kernel)) rfl
set_option maxRecDepth 20000 in
theorem lm_X12_339 : Cond.methodLink RX12 339 yX12_sums ∈ BW := bw_c8 (List.mem_of_getElem? (i := 80) (by decide +kernel)) rfl
set_option maxRecDepth 20000 in
theorem lm_X12_345 : Cond.methodLink RX12 345 yX12_holds ∈ BW := bw_c8 (List.mem_of_getElem? (i := 84) (by decide +kernel)) rfl
set_option maxRecDepth 20000 in
theorem lm_X12_383 : Cond.methodLink RX12 383 yX12_lampsOf ∈ BW := bw_c8 (List.mem_of_getElem? (i := 88) (by decide +kernel)) rfl
set_option maxRecDepth 20000 in
theorem lm_L_48 : Cond.methodLink RL 48 yX12_again ∈ BW := bw_c8 (List.mem_of_getElem? (i := 92) (by decide +kernel)) rfl
set_option maxRecDepth 20000 in
theorem lm_L_54 : Cond.methodLink RL 54 yX12_look ∈ BW := bw_c8 (List.mem_of_getElem? (i := 96) (by decide +kernel)) rfl
set_option maxRecDepth 20000 in
theorem lm_L_62 : Cond.methodLink RL 62 yX12_never ∈ BW := bw_c8 (List.mem_of_getElem? (i := 100) (by decide +kernel)) rfl
set_option maxRecDepth 20000 in
theorem lm_X12_396 : Cond.methodLink RX12 396 yX12_isNever ∈ BW := bw_c8 (List.mem_of_getElem? (i := 104) (by decide +kernel)) rfl
set_option maxRecDepth 20000 in
theorem lm_X12_399 : Cond.methodLink RX12 399 yX12_breaks ∈ BW := bw_c8 (List.mem_of_getElem? (i := 108) (by decide +kernel)) rfl
set_option maxRecDepth 20000 in
theorem lm_X12_393 : Cond.methodLink RX12 393 yX12_goesThrough ∈ BW := bw_c8 (List.mem_of_getElem? (i := 112) (by decide +kernel)) rfl
set_option maxRecDepth 20000 in
theorem lm_X12_389 : Cond.methodLink RX12 389 yX12_meets ∈ BW := bw_c8 (List.mem_of_getElem? (i := 116) (by decide +kernel)) rfl
set_option maxRecDepth 20000 in
theorem lm_L_66 : Cond.methodLink RL 66 yX12_neverRow ∈ BW := bw_c8 (List.mem_of_getElem? (i := 120) (by decide +kernel)) rfl
set_option maxRecDepth 20000 in
theorem lm_X12_402 : Cond.methodLink RX12 402 yX12_rowTo ∈ BW := bw_c8 (List.mem_of_getElem? (i := 124) (by decide +kernel)) rfl
set_option maxRecDepth 20000 in
theorem lm_L_71 : Cond.methodLink RL 71 yX12_forgets ∈ BW := bw_c8 (List.mem_of_getElem? (i := 128) (by decide +kernel)) rfl
set_option maxRecDepth 20000 in
theorem lm_X12_405 : Cond.methodLink RX12 405 yX12_forgotten ∈ BW := bw_c8 (List.mem_of_getElem? (i := 132) (by decide +kernel)) rfl
set_option maxRecDepth 20000 in
theorem lm_L_75 : Cond.methodLink RL 75 yX12_forgetsRow ∈ BW := bw_c8 (List.mem_of_getElem? (i := 136) (by decide +kernel)) rfl
set_option maxRecDepth 20000 in
theorem lm_L_79 : Cond.methodLink RL 79 yX12_stuck ∈ BW := bw_c8 (List.mem_of_getElem? (i := 140) (by decide +kernel)) rfl
set_option maxRecDepth 20000 in
theorem lm_L_83 : Cond.methodLink RL 83 yX12_tried ∈ BW := bw_c8 (List.mem_of_getElem? (i := 144) (by decide +kernel)) rfl
set_option maxRecDepth 20000 in
theorem lm_X12_411 : Cond.methodLink RX12 411 yX12_narrows ∈ BW := bw_c8 (List.mem_of_getElem? (i := 148) (by decide +kernel)) rfl
set_option maxRecDepth 20000 in
theorem lm_L_87 : Cond.methodLink RL 87 yX12_thought ∈ BW := bw_c8 (List.mem_of_getElem? (i := 152) (by decide +kernel)) rfl
set_option maxRecDepth 20000 in
theorem lm_L_91 : Cond.methodLink RL 91 yX12_tests ∈ BW := bw_c8 (List.mem_of_getElem? (i := 156) (by decide +kernel)) rfl
set_option maxRecDepth 20000 in
theorem lm_X12_418 : Cond.methodLink RX12 418 yX12_isOne ∈ BW := bw_c8 (List.mem_of_getElem? (i := 160) (by decide +kernel)) rfl
set_option maxRecDepth 20000 in
theorem lm_X12_421 : Cond.methodLink RX12 421 yX12_tells ∈ BW := bw_c8 (List.mem_of_getElem? (i := 164) (by decide +kernel)) rfl
set_option maxRecDepth 20000 in
theorem lm_X12_414 : Cond.methodLink RX12 414 yX12_isTold ∈ BW := bw_c8 (List.mem_of_getElem? (i := 168) (by decide +kernel)) rfl
set_option maxRecDepth 20000 in
theorem lm_L_96 : Cond.methodLink RL 96 yX12_cars ∈ BW := bw_c8 (List.mem_of_getElem? (i := 172) (by decide +kernel)) rfl
set_option maxRecDepth 20000 in
theorem lm_L_100 : Cond.methodLink RL 100 yX12_person ∈ BW := bw_c8 (List.mem_of_getElem? (i := 176) (by decide +kernel)) rfl
set_option maxRecDepth 20000 in
theorem lm_L_105 : Cond.methodLink RL 105 yX12_hold ∈ BW := bw_c8 (List.mem_of_getElem? (i := 180) (by decide +kernel)) rfl
set_option maxRecDepth 20000 in
theorem lm_L_109 : Cond.methodLink RL 109 yX12_fire ∈ BW := bw_c8 (List.mem_of_getElem? (i := 184) (by decide +kernel)) rfl
set_option maxRecDepth 20000 in
theorem lm_L_113 : Cond.methodLink RL 113 yX12_nobody ∈ BW := bw_c8 (List.mem_of_getElem? (i := 188) (by decide +kernel)) rfl
set_option maxRecDepth 20000 in
theorem lm_L_117 : Cond.methodLink RL 117 yX12_run ∈ BW := bw_c8 (List.mem_of_getElem? (i := 192) (by decide +kernel)) rfl
set_option maxRecDepth 20000 in
theorem lm_X12_479 : Cond.methodLink RX12 479 yX12_runs ∈ BW := bw_c8 (List.mem_of_getElem? (i := 196) (by decide +kernel)) rfl
set_option maxRecDepth 20000 in
theorem lm_X12_470 : Cond.methodLink RX12 470 yX12_gives ∈ BW := bw_c8 (List.mem_of_getElem? (i := 200) (by decide +kernel)) rfl
set_option maxRecDepth 20000 in
theorem lm_X12_445 : Cond.methodLink RX12 445 yX12_ruleOf ∈ BW := bw_c8 (List.mem_of_getElem? (i := 204) (by decide +kernel)) rfl
set_option maxRecDepth 20000 in
theorem lm_X12_439 : Cond.methodLink RX12 439 yX12_goalsOf ∈ BW := bw_c8 (List.mem_of_getElem? (i := 208) (by decide +kernel)) rfl
set_option maxRecDepth 20000 in
theorem lm_X12_433 : Cond.methodLink RX12 433 yX12_loadOf ∈ BW := bw_c8 (List.mem_of_getElem? (i := 212) (by decide +kernel)) rfl
set_option maxRecDepth 20000 in
theorem lm_X12_430 : Cond.methodLink RX12 430 yX12_isInside ∈ BW := bw_c8 (List.mem_of_getElem? (i := 216) (by decide +kernel)) rfl
set_option maxRecDepth 20000 in
theorem lm_X12_436 : Cond.methodLink RX12 436 yX12_isWaiting ∈ BW := bw_c8 (List.mem_of_getElem? (i := 220) (by decide +kernel)) rfl
set_option maxRecDepth 20000 in
theorem lm_X12_442 : Cond.methodLink RX12 442 yX12_bits ∈ BW := bw_c8 (List.mem_of_getElem? (i := 224) (by decide +kernel)) rfl
set_option maxRecDepth 20000 in
theorem lm_X12_473 : Cond.methodLink RX12 473 yX12_acts ∈ BW := bw_c8 (List.mem_of_getElem? (i := 227) (by decide +kernel)) rfl
set_option maxRecDepth 20000 in
theorem lm_X12_455 : Cond.methodLink RX12 455 yX12_flees ∈ BW := bw_c8 (List.mem_of_getElem? (i := 231) (by decide +kernel)) rfl
set_option maxRecDepth 20000 in
theorem lm_X12_449 : Cond.methodLink RX12 449 yX12_passes ∈ BW := bw_c8 (List.mem_of_getElem? (i := 235) (by decide +kernel)) rfl
set_option maxRecDepth 20000 in
theorem lm_X12_458 : Cond.methodLink RX12 458 yX12_mayStop ∈ BW := bw_c8 (List.mem_of_getElem? (i := 239) (by decide +kernel)) rfl
set_option maxRecDepth 20000 in
theorem lm_X12_461 : Cond.methodLink RX12 461 yX12_stopsAt ∈ BW := bw_c9 (List.mem_of_getElem? (i := 3) (by decide +kernel)) rfl
set_option maxRecDepth 20000 in
theorem lm_X12_464 : Cond.methodLink RX12 464 yX12_goes ∈ BW := bw_c9 (List.mem_of_getElem? (i := 7) (by decide +kernel)) rfl
set_option maxRecDepth 20000 in
theorem lm_X12_452 : Cond.methodLink RX12 452 yX12_nearest ∈ BW := bw_c9 (List.mem_of_getElem? (i := 11) (by decide +kernel)) rfl
set_option maxRecDepth 20000 in
theorem lm_X12_476 : Cond.methodLink RX12 476 yX12_isOver ∈ BW := bw_c9 (List.mem_of_getElem? (i := 15) (by decide +kernel)) rfl
set_option maxRecDepth 20000 in
theorem lm_L_121 : Cond.methodLink RL 121 yX12_rode ∈ BW := bw_c9 (List.mem_of_getElem? (i := 19) (by decide +kernel)) rfl
set_option maxRecDepth 20000 in
theorem lm_X12_482 : Cond.methodLink RX12 482 yX12_waitOf ∈ BW := bw_c9 (List.mem_of_getElem? (i := 23) (by decide +kernel)) rfl
set_option maxRecDepth 20000 in
theorem lm_L_125 : Cond.methodLink RL 125 yX12_waits ∈ BW := bw_c9 (List.mem_of_getElem? (i := 27) (by decide +kernel)) rfl
set_option maxRecDepth 20000 in
theorem lm_X12_485 : Cond.methodLink RX12 485 yX12_waitsBy ∈ BW := bw_c9 (List.mem_of_getElem? (i := 31) (by decide +kernel)) rfl
set_option maxRecDepth 20000 in
theorem lm_L_129 : Cond.methodLink RL 129 yX12_moved ∈ BW := bw_c9 (List.mem_of_getElem? (i := 35) (by decide +kernel)) rfl
set_option maxRecDepth 20000 in
theorem lm_L_133 : Cond.methodLink RL 133 yX12_stopped ∈ BW := bw_c9 (List.mem_of_getElem? (i := 39) (by decide +kernel)) rfl
set_option maxRecDepth 20000 in
theorem lm_L_137 : Cond.methodLink RL 137 yX12_best ∈ BW := bw_c9 (List.mem_of_getElem? (i := 43) (by decide +kernel)) rfl
set_option maxRecDepth 20000 in
theorem lm_L_141 : Cond.methodLink RL 141 yX12_trip ∈ BW := bw_c9 (List.mem_of_getElem? (i := 47) (by decide +kernel)) rfl
set_option maxRecDepth 20000 in
theorem lm_L_146 : Cond.methodLink RL 146 yX12_gauge ∈ BW := bw_c9 (List.mem_of_getElem? (i := 51) (by decide +kernel)) rfl
set_option maxRecDepth 20000 in
theorem lm_L_150 : Cond.methodLink RL 150 yX12_rope ∈ BW := bw_c9 (List.mem_of_getElem? (i := 56) (by decide +kernel)) rfl
set_option maxRecDepth 20000 in
theorem lm_X12_495 : Cond.methodLink RX12 495 yX12_isPart ∈ BW := bw_c9 (List.mem_of_getElem? (i := 60) (by decide +kernel)) rfl
set_option maxRecDepth 20000 in
theorem lm_X12_498 : Cond.methodLink RX12 498 yX12_bendsOf ∈ BW := bw_c9 (List.mem_of_getElem? (i := 64) (by decide +kernel)) rfl
set_option maxRecDepth 20000 in
theorem lm_X12_489 : Cond.methodLink RX12 489 yX12_bends ∈ BW := bw_c9 (List.mem_of_getElem? (i := 68) (by decide +kernel)) rfl
set_option maxRecDepth 20000 in
theorem lm_X12_492 : Cond.methodLink RX12 492 yX12_trueOf ∈ BW := bw_c9 (List.mem_of_getElem? (i := 72) (by decide +kernel)) rfl
set_option maxRecDepth 20000 in
theorem lm_L_154 : Cond.methodLink RL 154 yX12_first ∈ BW := bw_c9 (List.mem_of_getElem? (i := 76) (by decide +kernel)) rfl
set_option maxRecDepth 20000 in
theorem lm_L_159 : Cond.methodLink RL 159 yX12_lasts ∈ BW := bw_c9 (List.mem_of_getElem? (i := 80) (by decide +kernel)) rfl
set_option maxRecDepth 20000 in
theorem lm_L_163 : Cond.methodLink RL 163 yX12_count ∈ BW := bw_c9 (List.mem_of_getElem? (i := 85) (by decide +kernel)) rfl
set_option maxRecDepth 20000 in
theorem ln_X11_9 : (RX11, 9, yX8_init, "OldLift") ∈ nwL := List.mem_of_getElem? (i := 0) rfl
set_option maxRecDepth 20000 in
theorem ln_X5_11 : (RX5, 11, yX2_init, "OldLift") ∈ nwL := List.mem_of_getElem? (i := 1) rfl
set_option maxRecDepth 20000 in
theorem ln_X11_27 : (RX11, 27, yX4_init, "OldLift") ∈ nwL := List.mem_of_getElem? (i := 2) rfl
set_option maxRecDepth 20000 in
theorem ln_X4_11 : (RX4, 11, yX2_init, "OldLift") ∈ nwL := List.mem_of_getElem? (i := 3) rfl
set_option maxRecDepth 20000 in
theorem ln_X11_52 : (RX11, 52, yX6_init, "OldLift") ∈ nwL := List.mem_of_getElem? (i := 4) rfl
set_option maxRecDepth 20000 in
theorem ln_X6_11 : (RX6, 11, yX2_init, "OldLift") ∈ nwL := List.mem_of_getElem? (i := 5) rfl
set_option maxRecDepth 20000 in
theorem ln_X11_75 : (RX11, 75, yX7_init, "OldLift") ∈ nwL := List.mem_of_getElem? (i := 6) rfl
set_option maxRecDepth 20000 in
theorem ln_X4_45 : (RX4, 45, yX11_floorOf, "OldLift") ∈ nwL := List.mem_of_getElem? (i := 7) rfl
set_option maxRecDepth 20000 in
theorem ln_X4_51 : (RX4, 51, yX11_doorOf, "OldLift") ∈ nwL := List.mem_of_getElem? (i := 8) rfl
set_option maxRecDepth 20000 in
theorem ln_X0_113 : (RX0, 113, yX11_doorOf, "OldLift") ∈ nwL := List.mem_of_getElem? (i := 9) rfl
set_option maxRecDepth 20000 in
theorem ln_X0_116 : (RX0, 116, yX11_floorOf, "OldLift") ∈ nwL := List.mem_of_getElem? (i := 10) rfl
set_option maxRecDepth 20000 in
theorem ln_X3_70 : (RX3, 70, yX11_floorOf, "OldLift") ∈ nwL := List.mem_of_getElem? (i := 11) rfl
set_option maxRecDepth 20000 in
theorem ln_X3_73 : (RX3, 73, yX11_doorOf, "OldLift") ∈ nwL := List.mem_of_getElem? (i := 12) rfl
set_option maxRecDepth 20000 in
theorem lc_J2_227 : Cond.constant RJ2 227 (65536) ∈ BW := bw_c3 (List.mem_of_getElem? (i := 214) (by decide +kernel)) rfl
set_option maxRecDepth 20000 in
theorem lc_J11_110 : Cond.constant RJ11 110 (55232) ∈ BW := bw_c3 (List.mem_of_getElem? (i := 239) (by decide +kernel)) rfl
set_option maxRecDepth 20000 in
theorem lc_J11_76 : Cond.constant RJ11 76 (56320) ∈ BW := bw_c4 (List.mem_of_getElem? (i := 3) (by decide +kernel)) rfl
set_option maxRecDepth 20000 in
theorem lc_X4_54 : Cond.constant RX4 54 (2097152) ∈ BW := bw_c4 (List.mem_of_getElem? (i := 118) (by decide +kernel)) rfl
set_option maxRecDepth 20000 in
theorem lc_J6_265 : Cond.constant RJ6 265 (1431655765) ∈ BW := bw_c5 (List.mem_of_getElem? (i := 140) (by decide +kernel)) rfl
set_option maxRecDepth 20000 in
theorem lc_J6_266 : Cond.constant RJ6 266 (858993459) ∈ BW := bw_c5 (List.mem_of_getElem? (i := 141) (by decide +kernel)) rfl
set_option maxRecDepth 20000 in
theorem lc_J6_267 : Cond.constant RJ6 267 (252645135) ∈ BW := bw_c5 (List.mem_of_getElem? (i := 142) (by decide +kernel)) rfl
set_option maxRecDepth 20000 in
theorem lc_X7_43 : Cond.constant RX7 43 (999999) ∈ BW := bw_c6 (List.mem_of_getElem? (i := 33) (by decide +kernel)) rfl
set_option maxRecDepth 20000 in
theorem lc_X12_488 : Cond.constant RX12 488 (999999) ∈ BW := bw_c9 (List.mem_of_getElem? (i := 55) (by decide +kernel)) rfl
set_option maxRecDepth 20000 in
theorem ll_X11_297 : Cond.constantLong RX11 297 (-1) ∈ BW := bw_c6 (List.mem_of_getElem? (i := 80) (by decide +kernel)) rfl
set_option maxRecDepth 20000 in
theorem ll_X7_63 : Cond.constantLong RX7 63 (-1) ∈ BW := bw_c6 (List.mem_of_getElem? (i := 85) (by decide +kernel)) rfl
set_option maxRecDepth 20000 in
theorem ll_X12_212 : Cond.constantLong RX12 212 (255) ∈ BW := bw_c7 (List.mem_of_getElem? (i := 203) (by decide +kernel)) rfl
set_option maxRecDepth 20000 in
theorem ll_X12_240 : Cond.constantLong RX12 240 (27) ∈ BW := bw_c7 (List.mem_of_getElem? (i := 220) (by decide +kernel)) rfl
set_option maxRecDepth 20000 in
theorem ll_X12_242 : Cond.constantLong RX12 242 (96) ∈ BW := bw_c7 (List.mem_of_getElem? (i := 221) (by decide +kernel)) rfl
set_option maxRecDepth 20000 in
theorem ll_X12_314 : Cond.constantLong RX12 314 (583) ∈ BW := bw_c7 (List.mem_of_getElem? (i := 230) (by decide +kernel)) rfl
set_option maxRecDepth 20000 in
theorem ll_X12_316 : Cond.constantLong RX12 316 (90302) ∈ BW := bw_c7 (List.mem_of_getElem? (i := 235) (by decide +kernel)) rfl
set_option maxRecDepth 20000 in
theorem ll_X12_318 : Cond.constantLong RX12 318 (90090) ∈ BW := bw_c7 (List.mem_of_getElem? (i := 236) (by decide +kernel)) rfl
set_option maxRecDepth 20000 in
theorem ll_X12_320 : Cond.constantLong RX12 320 (9673153) ∈ BW := bw_c7 (List.mem_of_getElem? (i := 237) (by decide +kernel)) rfl
set_option maxRecDepth 20000 in
theorem ll_X12_322 : Cond.constantLong RX12 322 (237292) ∈ BW := bw_c7 (List.mem_of_getElem? (i := 238) (by decide +kernel)) rfl
set_option maxRecDepth 20000 in
theorem ll_X12_324 : Cond.constantLong RX12 324 (7554780) ∈ BW := bw_c7 (List.mem_of_getElem? (i := 239) (by decide +kernel)) rfl
set_option maxRecDepth 20000 in
theorem ll_X12_273 : Cond.constantLong RX12 273 (8) ∈ BW := bw_c8 (List.mem_of_getElem? (i := 4) (by decide +kernel)) rfl
set_option maxRecDepth 20000 in
theorem ll_X12_253 : Cond.constantLong RX12 253 (4419) ∈ BW := bw_c8 (List.mem_of_getElem? (i := 17) (by decide +kernel)) rfl
set_option maxRecDepth 20000 in
theorem ll_X12_255 : Cond.constantLong RX12 255 (247162) ∈ BW := bw_c8 (List.mem_of_getElem? (i := 18) (by decide +kernel)) rfl
set_option maxRecDepth 20000 in
theorem ll_X12_257 : Cond.constantLong RX12 257 (10502425) ∈ BW := bw_c8 (List.mem_of_getElem? (i := 19) (by decide +kernel)) rfl
set_option maxRecDepth 20000 in
theorem ll_X12_259 : Cond.constantLong RX12 259 (295403683) ∈ BW := bw_c8 (List.mem_of_getElem? (i := 20) (by decide +kernel)) rfl
set_option maxRecDepth 20000 in
theorem ll_X12_261 : Cond.constantLong RX12 261 (180392) ∈ BW := bw_c8 (List.mem_of_getElem? (i := 21) (by decide +kernel)) rfl
set_option maxRecDepth 20000 in
theorem ll_X12_263 : Cond.constantLong RX12 263 (3436200) ∈ BW := bw_c8 (List.mem_of_getElem? (i := 22) (by decide +kernel)) rfl
set_option maxRecDepth 20000 in
theorem ll_X12_265 : Cond.constantLong RX12 265 (131638) ∈ BW := bw_c8 (List.mem_of_getElem? (i := 23) (by decide +kernel)) rfl
set_option maxRecDepth 20000 in
theorem ll_X12_267 : Cond.constantLong RX12 267 (555) ∈ BW := bw_c8 (List.mem_of_getElem? (i := 24) (by decide +kernel)) rfl
set_option maxRecDepth 20000 in
theorem ll_X12_269 : Cond.constantLong RX12 269 (2232) ∈ BW := bw_c8 (List.mem_of_getElem? (i := 25) (by decide +kernel)) rfl
set_option maxRecDepth 20000 in
theorem ll_X12_271 : Cond.constantLong RX12 271 (400577) ∈ BW := bw_c8 (List.mem_of_getElem? (i := 26) (by decide +kernel)) rfl
set_option maxRecDepth 20000 in
theorem ll_X12_275 : Cond.constantLong RX12 275 (307058) ∈ BW := bw_c8 (List.mem_of_getElem? (i := 27) (by decide +kernel)) rfl
set_option maxRecDepth 20000 in
theorem ll_X12_277 : Cond.constantLong RX12 277 (1132) ∈ BW := bw_c8 (List.mem_of_getElem? (i := 28) (by decide +kernel)) rfl
set_option maxRecDepth 20000 in
theorem ll_X12_279 : Cond.constantLong RX12 279 (60114) ∈ BW := bw_c8 (List.mem_of_getElem? (i := 29) (by decide +kernel)) rfl
set_option maxRecDepth 20000 in
theorem ll_X12_281 : Cond.constantLong RX12 281 (47) ∈ BW := bw_c8 (List.mem_of_getElem? (i := 30) (by decide +kernel)) rfl
set_option maxRecDepth 20000 in
theorem ll_X12_298 : Cond.constantLong RX12 298 (10631) ∈ BW := bw_c8 (List.mem_of_getElem? (i := 31) (by decide +kernel)) rfl
set_option maxRecDepth 20000 in
theorem ll_X12_310 : Cond.constantLong RX12 310 (1111) ∈ BW := bw_c8 (List.mem_of_getElem? (i := 40) (by decide +kernel)) rfl
set_option maxRecDepth 20000 in
theorem ll_X12_312 : Cond.constantLong RX12 312 (423) ∈ BW := bw_c8 (List.mem_of_getElem? (i := 41) (by decide +kernel)) rfl
set_option maxRecDepth 20000 in
theorem ll_X12_501 : Cond.constantLong RX12 501 (-1) ∈ BW := bw_c9 (List.mem_of_getElem? (i := 84) (by decide +kernel)) rfl
set_option maxRecDepth 20000 in
theorem ll_L_24 : Cond.constantLong RL 24 (4294967295) ∈ BW := bw_c9 (List.mem_of_getElem? (i := 89) (by decide +kernel)) rfl
theorem pd_X0_init : (parseMethodDescriptor yX0_init.desc).map (fun d => d.parameters.length) = some 1 := by decide +kernel
theorem pd_X0_forget : (parseMethodDescriptor yX0_forget.desc).map (fun d => d.parameters.length) = some 0 := by decide +kernel
set_option maxRecDepth 20000 in
theorem mk_X0_forget : MK yX0_forget cX0_forget 1 none := ⟨bw_c3 (List.mem_of_getElem? (i := 31) (by decide +kernel)) rfl, bw_c3 (List.mem_of_getElem? (i := 32) (by decide +kernel)) rfl, bw_c1 (List.mem_of_getElem? (i := 7) (by decide +kernel)) rfl, bw_c3 (List.mem_of_getElem? (i := 33) rfl) rfl, by decide, by decide⟩
theorem pd_X0_howMany : (parseMethodDescriptor yX0_howMany.desc).map (fun d => d.parameters.length) = some 0 := by decide +kernel
set_option maxRecDepth 20000 in
theorem mk_X0_howMany : MK yX0_howMany cX0_howMany 1 (some .int) := ⟨bw_c4 (List.mem_of_getElem? (i := 229) (by decide +kernel)) rfl, bw_c4 (List.mem_of_getElem? (i := 230) (by decide +kernel)) rfl, bw_c1 (List.mem_of_getElem? (i := 7) (by decide +kernel)) rfl, bw_c4 (List.mem_of_getElem? (i := 231) rfl) rfl, by decide, by decide⟩
theorem pd_X0_stateAt : (parseMethodDescriptor yX0_stateAt.desc).map (fun d => d.parameters.length) = some 1 := by decide +kernel
set_option maxRecDepth 20000 in
theorem mk_X0_stateAt : MK yX0_stateAt cX0_stateAt 2 (some .int) := ⟨bw_c5 (List.mem_of_getElem? (i := 14) (by decide +kernel)) rfl, bw_c5 (List.mem_of_getElem? (i := 15) (by decide +kernel)) rfl, bw_c1 (List.mem_of_getElem? (i := 7) (by decide +kernel)) rfl, bw_c5 (List.mem_of_getElem? (i := 16) rfl) rfl, by decide, by decide⟩
theorem pd_X0_lampsAt : (parseMethodDescriptor yX0_lampsAt.desc).map (fun d => d.parameters.length) = some 1 := by decide +kernel
set_option maxRecDepth 20000 in
theorem mk_X0_lampsAt : MK yX0_lampsAt cX0_lampsAt 2 (some .int) := ⟨bw_c4 (List.mem_of_getElem? (i := 233) (by decide +kernel)) rfl, bw_c4 (List.mem_of_getElem? (i := 234) (by decide +kernel)) rfl, bw_c1 (List.mem_of_getElem? (i := 7) (by decide +kernel)) rfl, bw_c4 (List.mem_of_getElem? (i := 235) rfl) rfl, by decide, by decide⟩
theorem pd_X0_behind : (parseMethodDescriptor yX0_behind.desc).map (fun d => d.parameters.length) = some 2 := by decide +kernel
set_option maxRecDepth 20000 in
theorem mk_X0_behind : MK yX0_behind cX0_behind 3 (some .int) := ⟨bw_c4 (List.mem_of_getElem? (i := 199) (by decide +kernel)) rfl, bw_c4 (List.mem_of_getElem? (i := 200) (by decide +kernel)) rfl, bw_c1 (List.mem_of_getElem? (i := 7) (by decide +kernel)) rfl, bw_c4 (List.mem_of_getElem? (i := 201) rfl) rfl, by decide, by decide⟩
theorem pd_X0_choices : (parseMethodDescriptor yX0_choices.desc).map (fun d => d.parameters.length) = some 0 := by decide +kernel
set_option maxRecDepth 20000 in
theorem mk_X0_choices : MK yX0_choices cX0_choices 1 (some .int) := ⟨bw_c5 (List.mem_of_getElem? (i := 36) (by decide +kernel)) rfl, bw_c5 (List.mem_of_getElem? (i := 37) (by decide +kernel)) rfl, bw_c1 (List.mem_of_getElem? (i := 7) (by decide +kernel)) rfl, bw_c5 (List.mem_of_getElem? (i := 38) rfl) rfl, by decide, by decide⟩
theorem pd_X0_explore : (parseMethodDescriptor yX0_explore.desc).map (fun d => d.parameters.length) = some 0 := by decide +kernel
set_option maxRecDepth 20000 in
theorem mk_X0_explore : MK yX0_explore cX0_explore 4 none := ⟨bw_c4 (List.mem_of_getElem? (i := 152) (by decide +kernel)) rfl, bw_p (List.mem_of_getElem? (i := 23) (by decide +kernel)) rfl, bw_c1 (List.mem_of_getElem? (i := 7) (by decide +kernel)) rfl, bw_c4 (List.mem_of_getElem? (i := 153) rfl) rfl, by decide, by decide⟩
theorem pd_X0_find : (parseMethodDescriptor yX0_find.desc).map (fun d => d.parameters.length) = some 3 := by decide +kernel
set_option maxRecDepth 20000 in
theorem mk_X0_find : MK yX0_find cX0_find 4 (some .int) := ⟨bw_c4 (List.mem_of_getElem? (i := 157) (by decide +kernel)) rfl, bw_p (List.mem_of_getElem? (i := 24) (by decide +kernel)) rfl, bw_c1 (List.mem_of_getElem? (i := 7) (by decide +kernel)) rfl, bw_c4 (List.mem_of_getElem? (i := 158) rfl) rfl, by decide, by decide⟩
theorem pd_X0_rowLength : (parseMethodDescriptor yX0_rowLength.desc).map (fun d => d.parameters.length) = some 1 := by decide +kernel
set_option maxRecDepth 20000 in
theorem mk_X0_rowLength : MK yX0_rowLength cX0_rowLength 2 (some .int) := ⟨bw_c4 (List.mem_of_getElem? (i := 167) (by decide +kernel)) rfl, bw_c4 (List.mem_of_getElem? (i := 168) (by decide +kernel)) rfl, bw_c1 (List.mem_of_getElem? (i := 7) (by decide +kernel)) rfl, bw_c4 (List.mem_of_getElem? (i := 169) rfl) rfl, by decide, by decide⟩
theorem pd_X0_rowButton : (parseMethodDescriptor yX0_rowButton.desc).map (fun d => d.parameters.length) = some 2 := by decide +kernel
set_option maxRecDepth 20000 in
theorem mk_X0_rowButton : MK yX0_rowButton cX0_rowButton 5 (some .int) := ⟨bw_c4 (List.mem_of_getElem? (i := 175) (by decide +kernel)) rfl, bw_c4 (List.mem_of_getElem? (i := 176) (by decide +kernel)) rfl, bw_c1 (List.mem_of_getElem? (i := 7) (by decide +kernel)) rfl, bw_c4 (List.mem_of_getElem? (i := 177) rfl) rfl, by decide, by decide⟩
theorem pd_X0_breakerOf : (parseMethodDescriptor yX0_breakerOf.desc).map (fun d => d.parameters.length) = some 1 := by decide +kernel
set_option maxRecDepth 20000 in
theorem mk_X0_breakerOf : MK yX0_breakerOf cX0_breakerOf 3 (some .int) := ⟨bw_c4 (List.mem_of_getElem? (i := 147) (by decide +kernel)) rfl, bw_c4 (List.mem_of_getElem? (i := 148) (by decide +kernel)) rfl, bw_c1 (List.mem_of_getElem? (i := 7) (by decide +kernel)) rfl, bw_c4 (List.mem_of_getElem? (i := 149) rfl) rfl, by decide, by decide⟩
theorem pd_X0_forgetterOf : (parseMethodDescriptor yX0_forgetterOf.desc).map (fun d => d.parameters.length) = some 2 := by decide +kernel
set_option maxRecDepth 20000 in
theorem mk_X0_forgetterOf : MK yX0_forgetterOf cX0_forgetterOf 3 (some .int) := ⟨bw_c4 (List.mem_of_getElem? (i := 191) (by decide +kernel)) rfl, bw_c4 (List.mem_of_getElem? (i := 192) (by decide +kernel)) rfl, bw_c1 (List.mem_of_getElem? (i := 7) (by decide +kernel)) rfl, bw_c4 (List.mem_of_getElem? (i := 193) rfl) rfl, by decide, by decide⟩
theorem pd_X0_findForgetters : (parseMethodDescriptor yX0_findForgetters.desc).map (fun d => d.parameters.length) = some 1 := by decide +kernel
set_option maxRecDepth 20000 in
theorem mk_X0_findForgetters : MK yX0_findForgetters cX0_findForgetters 5 none := ⟨bw_c4 (List.mem_of_getElem? (i := 196) (by decide +kernel)) rfl, bw_p (List.mem_of_getElem? (i := 26) (by decide +kernel)) rfl, bw_c1 (List.mem_of_getElem? (i := 7) (by decide +kernel)) rfl, bw_c4 (List.mem_of_getElem? (i := 197) rfl) rfl, by decide, by decide⟩
theorem pd_X0_ticksUntilOpen : (parseMethodDescriptor yX0_ticksUntilOpen.desc).map (fun d => d.parameters.length) = some 2 := by decide +kernel
set_option maxRecDepth 20000 in
theorem mk_X0_ticksUntilOpen : MK yX0_ticksUntilOpen cX0_ticksUntilOpen 7 (some .int) := ⟨bw_c4 (List.mem_of_getElem? (i := 204) (by decide +kernel)) rfl, bw_p (List.mem_of_getElem? (i := 27) (by decide +kernel)) rfl, bw_c1 (List.mem_of_getElem? (i := 7) (by decide +kernel)) rfl, bw_c4 (List.mem_of_getElem? (i := 205) rfl) rfl, by decide, by decide⟩
theorem pd_X0_isOpenAt : (parseMethodDescriptor yX0_isOpenAt.desc).map (fun d => d.parameters.length) = some 2 := by decide +kernel
set_option maxRecDepth 20000 in
theorem mk_X0_isOpenAt : MK yX0_isOpenAt cX0_isOpenAt 3 (some .boolean) := ⟨bw_c4 (List.mem_of_getElem? (i := 208) (by decide +kernel)) rfl, bw_p (List.mem_of_getElem? (i := 28) (by decide +kernel)) rfl, bw_c1 (List.mem_of_getElem? (i := 7) (by decide +kernel)) rfl, bw_c4 (List.mem_of_getElem? (i := 209) rfl) rfl, by decide, by decide⟩
theorem pd_X1_init : (parseMethodDescriptor yX1_init.desc).map (fun d => d.parameters.length) = some 1 := by decide +kernel
theorem pd_X1_weighAll : (parseMethodDescriptor yX1_weighAll.desc).map (fun d => d.parameters.length) = some 0 := by decide +kernel
set_option maxRecDepth 20000 in
theorem mk_X1_weighAll : MK yX1_weighAll cX1_weighAll 3 none := ⟨bw_c6 (List.mem_of_getElem? (i := 0) (by decide +kernel)) rfl, bw_c6 (List.mem_of_getElem? (i := 1) (by decide +kernel)) rfl, bw_c1 (List.mem_of_getElem? (i := 11) (by decide +kernel)) rfl, bw_c6 (List.mem_of_getElem? (i := 2) rfl) rfl, by decide, by decide⟩
theorem pd_X1_weigh : (parseMethodDescriptor yX1_weigh.desc).map (fun d => d.parameters.length) = some 3 := by decide +kernel
set_option maxRecDepth 20000 in
theorem mk_X1_weigh : MK yX1_weigh cX1_weigh 4 none := ⟨bw_c6 (List.mem_of_getElem? (i := 8) (by decide +kernel)) rfl, bw_p (List.mem_of_getElem? (i := 53) (by decide +kernel)) rfl, bw_c1 (List.mem_of_getElem? (i := 11) (by decide +kernel)) rfl, bw_c6 (List.mem_of_getElem? (i := 9) rfl) rfl, by decide, by decide⟩
theorem pd_X2_init : (parseMethodDescriptor yX2_init.desc).map (fun d => d.parameters.length) = some 0 := by decide +kernel
theorem pd_X2_clear : (parseMethodDescriptor yX2_clear.desc).map (fun d => d.parameters.length) = some 0 := by decide +kernel
set_option maxRecDepth 20000 in
theorem mk_X2_clear : MK yX2_clear cX2_clear 1 none := ⟨bw_c3 (List.mem_of_getElem? (i := 16) (by decide +kernel)) rfl, bw_c3 (List.mem_of_getElem? (i := 17) (by decide +kernel)) rfl, bw_c1 (List.mem_of_getElem? (i := 4) (by decide +kernel)) rfl, bw_c3 (List.mem_of_getElem? (i := 18) rfl) rfl, by decide, by decide⟩
theorem pd_X2_copy : (parseMethodDescriptor yX2_copy.desc).map (fun d => d.parameters.length) = some 1 := by decide +kernel
set_option maxRecDepth 20000 in
theorem mk_X2_copy : MK yX2_copy cX2_copy 2 none := ⟨bw_c4 (List.mem_of_getElem? (i := 73) (by decide +kernel)) rfl, bw_c4 (List.mem_of_getElem? (i := 74) (by decide +kernel)) rfl, bw_c1 (List.mem_of_getElem? (i := 4) (by decide +kernel)) rfl, bw_c4 (List.mem_of_getElem? (i := 75) rfl) rfl, by decide, by decide⟩
theorem pd_X2_add : (parseMethodDescriptor yX2_add.desc).map (fun d => d.parameters.length) = some 2 := by decide +kernel
set_option maxRecDepth 20000 in
theorem mk_X2_add : MK yX2_add cX2_add 3 none := ⟨bw_c4 (List.mem_of_getElem? (i := 54) (by decide +kernel)) rfl, bw_c4 (List.mem_of_getElem? (i := 55) (by decide +kernel)) rfl, bw_c1 (List.mem_of_getElem? (i := 4) (by decide +kernel)) rfl, bw_c4 (List.mem_of_getElem? (i := 56) rfl) rfl, by decide, by decide⟩
theorem pd_X2_beginLine : (parseMethodDescriptor yX2_beginLine.desc).map (fun d => d.parameters.length) = some 1 := by decide +kernel
set_option maxRecDepth 20000 in
theorem mk_X2_beginLine : MK yX2_beginLine cX2_beginLine 2 none := ⟨bw_c4 (List.mem_of_getElem? (i := 38) (by decide +kernel)) rfl, bw_c4 (List.mem_of_getElem? (i := 39) (by decide +kernel)) rfl, bw_c1 (List.mem_of_getElem? (i := 4) (by decide +kernel)) rfl, bw_c4 (List.mem_of_getElem? (i := 40) rfl) rfl, by decide, by decide⟩
theorem pd_X2_endLine : (parseMethodDescriptor yX2_endLine.desc).map (fun d => d.parameters.length) = some 1 := by decide +kernel
set_option maxRecDepth 20000 in
theorem mk_X2_endLine : MK yX2_endLine cX2_endLine 2 none := ⟨bw_c4 (List.mem_of_getElem? (i := 69) (by decide +kernel)) rfl, bw_c4 (List.mem_of_getElem? (i := 70) (by decide +kernel)) rfl, bw_c1 (List.mem_of_getElem? (i := 4) (by decide +kernel)) rfl, bw_c4 (List.mem_of_getElem? (i := 71) rfl) rfl, by decide, by decide⟩
theorem pd_X2_isTold : (parseMethodDescriptor yX2_isTold.desc).map (fun d => d.parameters.length) = some 1 := by decide +kernel
set_option maxRecDepth 20000 in
theorem mk_X2_isTold : MK yX2_isTold cX2_isTold 2 (some .boolean) := ⟨bw_c4 (List.mem_of_getElem? (i := 22) (by decide +kernel)) rfl, bw_c4 (List.mem_of_getElem? (i := 23) (by decide +kernel)) rfl, bw_c1 (List.mem_of_getElem? (i := 4) (by decide +kernel)) rfl, bw_c4 (List.mem_of_getElem? (i := 24) rfl) rfl, by decide, by decide⟩
theorem pd_X2_value : (parseMethodDescriptor yX2_value.desc).map (fun d => d.parameters.length) = some 2 := by decide +kernel
set_option maxRecDepth 20000 in
theorem mk_X2_value : MK yX2_value cX2_value 8 (some .int) := ⟨bw_c4 (List.mem_of_getElem? (i := 120) (by decide +kernel)) rfl, bw_c4 (List.mem_of_getElem? (i := 121) (by decide +kernel)) rfl, bw_c1 (List.mem_of_getElem? (i := 4) (by decide +kernel)) rfl, bw_c4 (List.mem_of_getElem? (i := 122) rfl) rfl, by decide, by decide⟩
theorem pd_X2_leaf : (parseMethodDescriptor yX2_leaf.desc).map (fun d => d.parameters.length) = some 3 := by decide +kernel
set_option maxRecDepth 20000 in
theorem mk_X2_leaf : MK yX2_leaf cX2_leaf 4 (some .int) := ⟨bw_c4 (List.mem_of_getElem? (i := 125) (by decide +kernel)) rfl, bw_p (List.mem_of_getElem? (i := 21) (by decide +kernel)) rfl, bw_c1 (List.mem_of_getElem? (i := 4) (by decide +kernel)) rfl, bw_c4 (List.mem_of_getElem? (i := 126) rfl) rfl, by decide, by decide⟩
theorem pd_X2_joined : (parseMethodDescriptor yX2_joined.desc).map (fun d => d.parameters.length) = some 3 := by decide +kernel
set_option maxRecDepth 20000 in
theorem ms_X2_joined : MS yX2_joined cX2_joined 3 (some .int) := ⟨bw_c4 (List.mem_of_getElem? (i := 128) (by decide +kernel)) rfl, bw_c1 (List.mem_of_getElem? (i := 4) (by decide +kernel)) rfl, bw_c4 (List.mem_of_getElem? (i := 129) rfl) rfl, by decide, by decide⟩
theorem pd_X3_init : (parseMethodDescriptor yX3_init.desc).map (fun d => d.parameters.length) = some 1 := by decide +kernel
theorem pd_X3_forget : (parseMethodDescriptor yX3_forget.desc).map (fun d => d.parameters.length) = some 0 := by decide +kernel
set_option maxRecDepth 20000 in
theorem mk_X3_forget : MK yX3_forget cX3_forget 1 none := ⟨bw_c3 (List.mem_of_getElem? (i := 35) (by decide +kernel)) rfl, bw_c3 (List.mem_of_getElem? (i := 36) (by decide +kernel)) rfl, bw_c1 (List.mem_of_getElem? (i := 8) (by decide +kernel)) rfl, bw_c3 (List.mem_of_getElem? (i := 37) rfl) rfl, by decide, by decide⟩
theorem pd_X3_start : (parseMethodDescriptor yX3_start.desc).map (fun d => d.parameters.length) = some 1 := by decide +kernel
set_option maxRecDepth 20000 in
theorem mk_X3_start : MK yX3_start cX3_start 4 (some .int) := ⟨bw_c4 (List.mem_of_getElem? (i := 225) (by decide +kernel)) rfl, bw_c4 (List.mem_of_getElem? (i := 226) (by decide +kernel)) rfl, bw_c1 (List.mem_of_getElem? (i := 8) (by decide +kernel)) rfl, bw_c4 (List.mem_of_getElem? (i := 227) rfl) rfl, by decide, by decide⟩
theorem pd_X3_follow : (parseMethodDescriptor yX3_follow.desc).map (fun d => d.parameters.length) = some 2 := by decide +kernel
set_option maxRecDepth 20000 in
theorem mk_X3_follow : MK yX3_follow cX3_follow 6 (some .int) := ⟨bw_c5 (List.mem_of_getElem? (i := 1) (by decide +kernel)) rfl, bw_c5 (List.mem_of_getElem? (i := 2) (by decide +kernel)) rfl, bw_c1 (List.mem_of_getElem? (i := 8) (by decide +kernel)) rfl, bw_c5 (List.mem_of_getElem? (i := 3) rfl) rfl, by decide, by decide⟩
theorem pd_X3_summary : (parseMethodDescriptor yX3_summary.desc).map (fun d => d.parameters.length) = some 1 := by decide +kernel
set_option maxRecDepth 20000 in
theorem mk_X3_summary : MK yX3_summary cX3_summary 8 (some .int) := ⟨bw_c5 (List.mem_of_getElem? (i := 10) (by decide +kernel)) rfl, bw_c5 (List.mem_of_getElem? (i := 11) (by decide +kernel)) rfl, bw_c1 (List.mem_of_getElem? (i := 8) (by decide +kernel)) rfl, bw_c5 (List.mem_of_getElem? (i := 12) rfl) rfl, by decide, by decide⟩
theorem pd_X3_plan : (parseMethodDescriptor yX3_plan.desc).map (fun d => d.parameters.length) = some 0 := by decide +kernel
set_option maxRecDepth 20000 in
theorem mk_X3_plan : MK yX3_plan cX3_plan 3 none := ⟨bw_c5 (List.mem_of_getElem? (i := 24) (by decide +kernel)) rfl, bw_c5 (List.mem_of_getElem? (i := 25) (by decide +kernel)) rfl, bw_c1 (List.mem_of_getElem? (i := 8) (by decide +kernel)) rfl, bw_c5 (List.mem_of_getElem? (i := 26) rfl) rfl, by decide, by decide⟩
theorem pd_X3_oneFloor : (parseMethodDescriptor yX3_oneFloor.desc).map (fun d => d.parameters.length) = some 3 := by decide +kernel
set_option maxRecDepth 20000 in
theorem mk_X3_oneFloor : MK yX3_oneFloor cX3_oneFloor 5 (some .boolean) := ⟨bw_c5 (List.mem_of_getElem? (i := 29) (by decide +kernel)) rfl, bw_p (List.mem_of_getElem? (i := 29) (by decide +kernel)) rfl, bw_c1 (List.mem_of_getElem? (i := 8) (by decide +kernel)) rfl, bw_c5 (List.mem_of_getElem? (i := 30) rfl) rfl, by decide, by decide⟩
theorem pd_X3_floorAt : (parseMethodDescriptor yX3_floorAt.desc).map (fun d => d.parameters.length) = some 1 := by decide +kernel
set_option maxRecDepth 20000 in
theorem mk_X3_floorAt : MK yX3_floorAt cX3_floorAt 2 (some .int) := ⟨bw_c5 (List.mem_of_getElem? (i := 33) (by decide +kernel)) rfl, bw_p (List.mem_of_getElem? (i := 30) (by decide +kernel)) rfl, bw_c1 (List.mem_of_getElem? (i := 8) (by decide +kernel)) rfl, bw_c5 (List.mem_of_getElem? (i := 34) rfl) rfl, by decide, by decide⟩
theorem pd_X3_tells : (parseMethodDescriptor yX3_tells.desc).map (fun d => d.parameters.length) = some 5 := by decide +kernel
set_option maxRecDepth 20000 in
theorem mk_X3_tells : MK yX3_tells cX3_tells 11 (some .boolean) := ⟨bw_c5 (List.mem_of_getElem? (i := 41) (by decide +kernel)) rfl, bw_p (List.mem_of_getElem? (i := 31) (by decide +kernel)) rfl, bw_c1 (List.mem_of_getElem? (i := 8) (by decide +kernel)) rfl, bw_c5 (List.mem_of_getElem? (i := 42) rfl) rfl, by decide, by decide⟩
theorem pd_X3_canTell : (parseMethodDescriptor yX3_canTell.desc).map (fun d => d.parameters.length) = some 4 := by decide +kernel
set_option maxRecDepth 20000 in
theorem mk_X3_canTell : MK yX3_canTell cX3_canTell 6 (some .boolean) := ⟨bw_c5 (List.mem_of_getElem? (i := 56) (by decide +kernel)) rfl, bw_p (List.mem_of_getElem? (i := 34) (by decide +kernel)) rfl, bw_c1 (List.mem_of_getElem? (i := 8) (by decide +kernel)) rfl, bw_c5 (List.mem_of_getElem? (i := 57) rfl) rfl, by decide, by decide⟩
theorem pd_X3_tellsAtOnce : (parseMethodDescriptor yX3_tellsAtOnce.desc).map (fun d => d.parameters.length) = some 4 := by decide +kernel
set_option maxRecDepth 20000 in
theorem mk_X3_tellsAtOnce : MK yX3_tellsAtOnce cX3_tellsAtOnce 8 (some .boolean) := ⟨bw_c5 (List.mem_of_getElem? (i := 45) (by decide +kernel)) rfl, bw_p (List.mem_of_getElem? (i := 32) (by decide +kernel)) rfl, bw_c1 (List.mem_of_getElem? (i := 8) (by decide +kernel)) rfl, bw_c5 (List.mem_of_getElem? (i := 46) rfl) rfl, by decide, by decide⟩
theorem pd_X3_split : (parseMethodDescriptor yX3_split.desc).map (fun d => d.parameters.length) = some 5 := by decide +kernel
set_option maxRecDepth 20000 in
theorem mk_X3_split : MK yX3_split cX3_split 12 (some .int) := ⟨bw_c5 (List.mem_of_getElem? (i := 49) (by decide +kernel)) rfl, bw_p (List.mem_of_getElem? (i := 33) (by decide +kernel)) rfl, bw_c1 (List.mem_of_getElem? (i := 8) (by decide +kernel)) rfl, bw_c5 (List.mem_of_getElem? (i := 50) rfl) rfl, by decide, by decide⟩
theorem pd_X3_sizesToBegins : (parseMethodDescriptor yX3_sizesToBegins.desc).map (fun d => d.parameters.length) = some 2 := by decide +kernel
set_option maxRecDepth 20000 in
theorem ms_X3_sizesToBegins : MS yX3_sizesToBegins cX3_sizesToBegins 5 none := ⟨bw_c5 (List.mem_of_getElem? (i := 52) (by decide +kernel)) rfl, bw_c1 (List.mem_of_getElem? (i := 8) (by decide +kernel)) rfl, bw_c5 (List.mem_of_getElem? (i := 53) rfl) rfl, by decide, by decide⟩
theorem pd_X4_init : (parseMethodDescriptor yX4_init.desc).map (fun d => d.parameters.length) = some 0 := by decide +kernel
theorem pd_X4_restart : (parseMethodDescriptor yX4_restart.desc).map (fun d => d.parameters.length) = some 0 := by decide +kernel
set_option maxRecDepth 20000 in
theorem mk_X4_restart : MK yX4_restart cX4_restart 1 none := ⟨bw_c3 (List.mem_of_getElem? (i := 27) (by decide +kernel)) rfl, bw_c3 (List.mem_of_getElem? (i := 28) (by decide +kernel)) rfl, bw_c1 (List.mem_of_getElem? (i := 6) (by decide +kernel)) rfl, bw_c3 (List.mem_of_getElem? (i := 29) rfl) rfl, by decide, by decide⟩
theorem pd_X4_isButton : (parseMethodDescriptor yX4_isButton.desc).map (fun d => d.parameters.length) = some 1 := by decide +kernel
set_option maxRecDepth 20000 in
theorem mk_X4_isButton : MK yX4_isButton cX4_isButton 2 (some .boolean) := ⟨bw_c4 (List.mem_of_getElem? (i := 98) (by decide +kernel)) rfl, bw_c4 (List.mem_of_getElem? (i := 99) (by decide +kernel)) rfl, bw_c1 (List.mem_of_getElem? (i := 6) (by decide +kernel)) rfl, bw_c4 (List.mem_of_getElem? (i := 100) rfl) rfl, by decide, by decide⟩
theorem pd_X4_tick : (parseMethodDescriptor yX4_tick.desc).map (fun d => d.parameters.length) = some 1 := by decide +kernel
set_option maxRecDepth 20000 in
theorem mk_X4_tick : MK yX4_tick cX4_tick 3 (some .int) := ⟨bw_c4 (List.mem_of_getElem? (i := 102) (by decide +kernel)) rfl, bw_c4 (List.mem_of_getElem? (i := 103) (by decide +kernel)) rfl, bw_c1 (List.mem_of_getElem? (i := 6) (by decide +kernel)) rfl, bw_c4 (List.mem_of_getElem? (i := 104) rfl) rfl, by decide, by decide⟩
theorem pd_X4_step : (parseMethodDescriptor yX4_step.desc).map (fun d => d.parameters.length) = some 2 := by decide +kernel
set_option maxRecDepth 20000 in
theorem mk_X4_step : MK yX4_step cX4_step 10 (some .int) := ⟨bw_c4 (List.mem_of_getElem? (i := 106) (by decide +kernel)) rfl, bw_c4 (List.mem_of_getElem? (i := 107) (by decide +kernel)) rfl, bw_c1 (List.mem_of_getElem? (i := 6) (by decide +kernel)) rfl, bw_c4 (List.mem_of_getElem? (i := 108) rfl) rfl, by decide, by decide⟩
theorem pd_X4_shifted : (parseMethodDescriptor yX4_shifted.desc).map (fun d => d.parameters.length) = some 2 := by decide +kernel
set_option maxRecDepth 20000 in
theorem mk_X4_shifted : MK yX4_shifted cX4_shifted 3 (some .int) := ⟨bw_c4 (List.mem_of_getElem? (i := 132) (by decide +kernel)) rfl, bw_p (List.mem_of_getElem? (i := 22) (by decide +kernel)) rfl, bw_c1 (List.mem_of_getElem? (i := 6) (by decide +kernel)) rfl, bw_c4 (List.mem_of_getElem? (i := 133) rfl) rfl, by decide, by decide⟩
theorem pd_X4_factsOf : (parseMethodDescriptor yX4_factsOf.desc).map (fun d => d.parameters.length) = some 2 := by decide +kernel
set_option maxRecDepth 20000 in
theorem ms_X4_factsOf : MS yX4_factsOf cX4_factsOf 3 (some .int) := ⟨bw_c4 (List.mem_of_getElem? (i := 110) (by decide +kernel)) rfl, bw_c1 (List.mem_of_getElem? (i := 6) (by decide +kernel)) rfl, bw_c4 (List.mem_of_getElem? (i := 111) rfl) rfl, by decide, by decide⟩
theorem pd_X4_lampsIn : (parseMethodDescriptor yX4_lampsIn.desc).map (fun d => d.parameters.length) = some 1 := by decide +kernel
set_option maxRecDepth 20000 in
theorem mk_X4_lampsIn : MK yX4_lampsIn cX4_lampsIn 5 (some .int) := ⟨bw_c4 (List.mem_of_getElem? (i := 135) (by decide +kernel)) rfl, bw_c4 (List.mem_of_getElem? (i := 136) (by decide +kernel)) rfl, bw_c1 (List.mem_of_getElem? (i := 6) (by decide +kernel)) rfl, bw_c4 (List.mem_of_getElem? (i := 137) rfl) rfl, by decide, by decide⟩
theorem pd_X4_breaksNever : (parseMethodDescriptor yX4_breaksNever.desc).map (fun d => d.parameters.length) = some 2 := by decide +kernel
set_option maxRecDepth 20000 in
theorem mk_X4_breaksNever : MK yX4_breaksNever cX4_breaksNever 3 (some .boolean) := ⟨bw_c4 (List.mem_of_getElem? (i := 163) (by decide +kernel)) rfl, bw_c4 (List.mem_of_getElem? (i := 164) (by decide +kernel)) rfl, bw_c1 (List.mem_of_getElem? (i := 6) (by decide +kernel)) rfl, bw_c4 (List.mem_of_getElem? (i := 165) rfl) rfl, by decide, by decide⟩
theorem pd_X5_init : (parseMethodDescriptor yX5_init.desc).map (fun d => d.parameters.length) = some 1 := by decide +kernel
theorem pd_X5_readCircuit : (parseMethodDescriptor yX5_readCircuit.desc).map (fun d => d.parameters.length) = some 1 := by decide +kernel
set_option maxRecDepth 20000 in
theorem mk_X5_readCircuit : MK yX5_readCircuit cX5_readCircuit 3 (some .int) := ⟨bw_c3 (List.mem_of_getElem? (i := 100) (by decide +kernel)) rfl, bw_c3 (List.mem_of_getElem? (i := 101) (by decide +kernel)) rfl, bw_c1 (List.mem_of_getElem? (i := 3) (by decide +kernel)) rfl, bw_c3 (List.mem_of_getElem? (i := 102) rfl) rfl, by decide, by decide⟩
theorem pd_X5_readRule : (parseMethodDescriptor yX5_readRule.desc).map (fun d => d.parameters.length) = some 0 := by decide +kernel
set_option maxRecDepth 20000 in
theorem mk_X5_readRule : MK yX5_readRule cX5_readRule 1 (some .int) := ⟨bw_c4 (List.mem_of_getElem? (i := 85) (by decide +kernel)) rfl, bw_c4 (List.mem_of_getElem? (i := 86) (by decide +kernel)) rfl, bw_c1 (List.mem_of_getElem? (i := 3) (by decide +kernel)) rfl, bw_c4 (List.mem_of_getElem? (i := 87) rfl) rfl, by decide, by decide⟩
theorem pd_X5_start : (parseMethodDescriptor yX5_start.desc).map (fun d => d.parameters.length) = some 2 := by decide +kernel
set_option maxRecDepth 20000 in
theorem mk_X5_start : MK yX5_start cX5_start 3 none := ⟨bw_c3 (List.mem_of_getElem? (i := 105) (by decide +kernel)) rfl, bw_p (List.mem_of_getElem? (i := 2) (by decide +kernel)) rfl, bw_c1 (List.mem_of_getElem? (i := 3) (by decide +kernel)) rfl, bw_c3 (List.mem_of_getElem? (i := 106) rfl) rfl, by decide, by decide⟩
theorem pd_X5_advance : (parseMethodDescriptor yX5_advance.desc).map (fun d => d.parameters.length) = some 0 := by decide +kernel
set_option maxRecDepth 20000 in
theorem mk_X5_advance : MK yX5_advance cX5_advance 1 none := ⟨bw_c4 (List.mem_of_getElem? (i := 7) (by decide +kernel)) rfl, bw_p (List.mem_of_getElem? (i := 9) (by decide +kernel)) rfl, bw_c1 (List.mem_of_getElem? (i := 3) (by decide +kernel)) rfl, bw_c4 (List.mem_of_getElem? (i := 8) rfl) rfl, by decide, by decide⟩
theorem pd_X5_blame : (parseMethodDescriptor yX5_blame.desc).map (fun d => d.parameters.length) = some 1 := by decide +kernel
set_option maxRecDepth 20000 in
theorem mk_X5_blame : MK yX5_blame cX5_blame 2 none := ⟨bw_c4 (List.mem_of_getElem? (i := 31) (by decide +kernel)) rfl, bw_p (List.mem_of_getElem? (i := 14) (by decide +kernel)) rfl, bw_c1 (List.mem_of_getElem? (i := 3) (by decide +kernel)) rfl, bw_c4 (List.mem_of_getElem? (i := 32) rfl) rfl, by decide, by decide⟩
theorem pd_X5_expect : (parseMethodDescriptor yX5_expect.desc).map (fun d => d.parameters.length) = some 1 := by decide +kernel
set_option maxRecDepth 20000 in
theorem mk_X5_expect : MK yX5_expect cX5_expect 2 none := ⟨bw_c4 (List.mem_of_getElem? (i := 35) (by decide +kernel)) rfl, bw_p (List.mem_of_getElem? (i := 15) (by decide +kernel)) rfl, bw_c1 (List.mem_of_getElem? (i := 3) (by decide +kernel)) rfl, bw_c4 (List.mem_of_getElem? (i := 36) rfl) rfl, by decide, by decide⟩
theorem pd_X5_circuitLine : (parseMethodDescriptor yX5_circuitLine.desc).map (fun d => d.parameters.length) = some 0 := by decide +kernel
set_option maxRecDepth 20000 in
theorem mk_X5_circuitLine : MK yX5_circuitLine cX5_circuitLine 3 none := ⟨bw_c4 (List.mem_of_getElem? (i := 11) (by decide +kernel)) rfl, bw_p (List.mem_of_getElem? (i := 10) (by decide +kernel)) rfl, bw_c1 (List.mem_of_getElem? (i := 3) (by decide +kernel)) rfl, bw_c4 (List.mem_of_getElem? (i := 12) rfl) rfl, by decide, by decide⟩
theorem pd_X5_lineTold : (parseMethodDescriptor yX5_lineTold.desc).map (fun d => d.parameters.length) = some 0 := by decide +kernel
set_option maxRecDepth 20000 in
theorem mk_X5_lineTold : MK yX5_lineTold cX5_lineTold 2 (some .int) := ⟨bw_c4 (List.mem_of_getElem? (i := 15) (by decide +kernel)) rfl, bw_p (List.mem_of_getElem? (i := 11) (by decide +kernel)) rfl, bw_c1 (List.mem_of_getElem? (i := 3) (by decide +kernel)) rfl, bw_c4 (List.mem_of_getElem? (i := 16) rfl) rfl, by decide, by decide⟩
theorem pd_X5_once : (parseMethodDescriptor yX5_once.desc).map (fun d => d.parameters.length) = some 1 := by decide +kernel
set_option maxRecDepth 20000 in
theorem mk_X5_once : MK yX5_once cX5_once 2 (some .int) := ⟨bw_c4 (List.mem_of_getElem? (i := 19) (by decide +kernel)) rfl, bw_p (List.mem_of_getElem? (i := 12) (by decide +kernel)) rfl, bw_c1 (List.mem_of_getElem? (i := 3) (by decide +kernel)) rfl, bw_c4 (List.mem_of_getElem? (i := 20) rfl) rfl, by decide, by decide⟩
theorem pd_X5_refused : (parseMethodDescriptor yX5_refused.desc).map (fun d => d.parameters.length) = some 1 := by decide +kernel
set_option maxRecDepth 20000 in
theorem mk_X5_refused : MK yX5_refused cX5_refused 2 (some .int) := ⟨bw_c4 (List.mem_of_getElem? (i := 27) (by decide +kernel)) rfl, bw_p (List.mem_of_getElem? (i := 13) (by decide +kernel)) rfl, bw_c1 (List.mem_of_getElem? (i := 3) (by decide +kernel)) rfl, bw_c4 (List.mem_of_getElem? (i := 28) rfl) rfl, by decide, by decide⟩
theorem pd_X5_expression : (parseMethodDescriptor yX5_expression.desc).map (fun d => d.parameters.length) = some 2 := by decide +kernel
set_option maxRecDepth 20000 in
theorem mk_X5_expression : MK yX5_expression cX5_expression 5 none := ⟨bw_c4 (List.mem_of_getElem? (i := 43) (by decide +kernel)) rfl, bw_p (List.mem_of_getElem? (i := 16) (by decide +kernel)) rfl, bw_c1 (List.mem_of_getElem? (i := 3) (by decide +kernel)) rfl, bw_c4 (List.mem_of_getElem? (i := 44) rfl) rfl, by decide, by decide⟩
theorem pd_X5_levelOf : (parseMethodDescriptor yX5_levelOf.desc).map (fun d => d.parameters.length) = some 1 := by decide +kernel
set_option maxRecDepth 20000 in
theorem ms_X5_levelOf : MS yX5_levelOf cX5_levelOf 1 (some .int) := ⟨bw_c4 (List.mem_of_getElem? (i := 66) (by decide +kernel)) rfl, bw_c1 (List.mem_of_getElem? (i := 3) (by decide +kernel)) rfl, bw_c4 (List.mem_of_getElem? (i := 67) rfl) rfl, by decide, by decide⟩
theorem pd_X5_part : (parseMethodDescriptor yX5_part.desc).map (fun d => d.parameters.length) = some 1 := by decide +kernel
set_option maxRecDepth 20000 in
theorem mk_X5_part : MK yX5_part cX5_part 3 none := ⟨bw_c4 (List.mem_of_getElem? (i := 47) (by decide +kernel)) rfl, bw_p (List.mem_of_getElem? (i := 17) (by decide +kernel)) rfl, bw_c1 (List.mem_of_getElem? (i := 3) (by decide +kernel)) rfl, bw_c4 (List.mem_of_getElem? (i := 48) rfl) rfl, by decide, by decide⟩
theorem pd_X5_beginsPart : (parseMethodDescriptor yX5_beginsPart.desc).map (fun d => d.parameters.length) = some 1 := by decide +kernel
set_option maxRecDepth 20000 in
theorem mk_X5_beginsPart : MK yX5_beginsPart cX5_beginsPart 2 (some .boolean) := ⟨bw_c4 (List.mem_of_getElem? (i := 51) (by decide +kernel)) rfl, bw_p (List.mem_of_getElem? (i := 18) (by decide +kernel)) rfl, bw_c1 (List.mem_of_getElem? (i := 3) (by decide +kernel)) rfl, bw_c4 (List.mem_of_getElem? (i := 52) rfl) rfl, by decide, by decide⟩
theorem pd_X5_fact : (parseMethodDescriptor yX5_fact.desc).map (fun d => d.parameters.length) = some 1 := by decide +kernel
set_option maxRecDepth 20000 in
theorem mk_X5_fact : MK yX5_fact cX5_fact 2 none := ⟨bw_c4 (List.mem_of_getElem? (i := 59) (by decide +kernel)) rfl, bw_p (List.mem_of_getElem? (i := 19) (by decide +kernel)) rfl, bw_c1 (List.mem_of_getElem? (i := 3) (by decide +kernel)) rfl, bw_c4 (List.mem_of_getElem? (i := 60) rfl) rfl, by decide, by decide⟩
theorem pd_X5_floorFact : (parseMethodDescriptor yX5_floorFact.desc).map (fun d => d.parameters.length) = some 1 := by decide +kernel
set_option maxRecDepth 20000 in
theorem mk_X5_floorFact : MK yX5_floorFact cX5_floorFact 2 none := ⟨bw_c4 (List.mem_of_getElem? (i := 63) (by decide +kernel)) rfl, bw_p (List.mem_of_getElem? (i := 20) (by decide +kernel)) rfl, bw_c1 (List.mem_of_getElem? (i := 3) (by decide +kernel)) rfl, bw_c4 (List.mem_of_getElem? (i := 64) rfl) rfl, by decide, by decide⟩
theorem pd_X6_init : (parseMethodDescriptor yX6_init.desc).map (fun d => d.parameters.length) = some 0 := by decide +kernel
theorem pd_X6_startHouse : (parseMethodDescriptor yX6_startHouse.desc).map (fun d => d.parameters.length) = some 1 := by decide +kernel
set_option maxRecDepth 20000 in
theorem mk_X6_startHouse : MK yX6_startHouse cX6_startHouse 2 none := ⟨bw_c3 (List.mem_of_getElem? (i := 39) (by decide +kernel)) rfl, bw_c3 (List.mem_of_getElem? (i := 40) (by decide +kernel)) rfl, bw_c1 (List.mem_of_getElem? (i := 9) (by decide +kernel)) rfl, bw_c3 (List.mem_of_getElem? (i := 41) rfl) rfl, by decide, by decide⟩
theorem pd_X6_setRule : (parseMethodDescriptor yX6_setRule.desc).map (fun d => d.parameters.length) = some 1 := by decide +kernel
set_option maxRecDepth 20000 in
theorem mk_X6_setRule : MK yX6_setRule cX6_setRule 2 none := ⟨bw_c4 (List.mem_of_getElem? (i := 89) (by decide +kernel)) rfl, bw_c4 (List.mem_of_getElem? (i := 90) (by decide +kernel)) rfl, bw_c1 (List.mem_of_getElem? (i := 9) (by decide +kernel)) rfl, bw_c4 (List.mem_of_getElem? (i := 91) rfl) rfl, by decide, by decide⟩
theorem pd_X6_tellings : (parseMethodDescriptor yX6_tellings.desc).map (fun d => d.parameters.length) = some 0 := by decide +kernel
set_option maxRecDepth 20000 in
theorem mk_X6_tellings : MK yX6_tellings cX6_tellings 1 (some .int) := ⟨bw_c5 (List.mem_of_getElem? (i := 101) (by decide +kernel)) rfl, bw_c5 (List.mem_of_getElem? (i := 102) (by decide +kernel)) rfl, bw_c1 (List.mem_of_getElem? (i := 9) (by decide +kernel)) rfl, bw_c5 (List.mem_of_getElem? (i := 103) rfl) rfl, by decide, by decide⟩
theorem pd_X6_setCars : (parseMethodDescriptor yX6_setCars.desc).map (fun d => d.parameters.length) = some 4 := by decide +kernel
set_option maxRecDepth 20000 in
theorem mk_X6_setCars : MK yX6_setCars cX6_setCars 5 none := ⟨bw_c3 (List.mem_of_getElem? (i := 44) (by decide +kernel)) rfl, bw_c3 (List.mem_of_getElem? (i := 45) (by decide +kernel)) rfl, bw_c1 (List.mem_of_getElem? (i := 9) (by decide +kernel)) rfl, bw_c3 (List.mem_of_getElem? (i := 46) rfl) rfl, by decide, by decide⟩
theorem pd_X6_addPerson : (parseMethodDescriptor yX6_addPerson.desc).map (fun d => d.parameters.length) = some 3 := by decide +kernel
set_option maxRecDepth 20000 in
theorem mk_X6_addPerson : MK yX6_addPerson cX6_addPerson 4 (some .int) := ⟨bw_c5 (List.mem_of_getElem? (i := 68) (by decide +kernel)) rfl, bw_c5 (List.mem_of_getElem? (i := 69) (by decide +kernel)) rfl, bw_c1 (List.mem_of_getElem? (i := 9) (by decide +kernel)) rfl, bw_c5 (List.mem_of_getElem? (i := 70) rfl) rfl, by decide, by decide⟩
theorem pd_X6_addHold : (parseMethodDescriptor yX6_addHold.desc).map (fun d => d.parameters.length) = some 3 := by decide +kernel
set_option maxRecDepth 20000 in
theorem mk_X6_addHold : MK yX6_addHold cX6_addHold 4 (some .boolean) := ⟨bw_c5 (List.mem_of_getElem? (i := 76) (by decide +kernel)) rfl, bw_c5 (List.mem_of_getElem? (i := 77) (by decide +kernel)) rfl, bw_c1 (List.mem_of_getElem? (i := 9) (by decide +kernel)) rfl, bw_c5 (List.mem_of_getElem? (i := 78) rfl) rfl, by decide, by decide⟩
theorem pd_X6_setFire : (parseMethodDescriptor yX6_setFire.desc).map (fun d => d.parameters.length) = some 1 := by decide +kernel
set_option maxRecDepth 20000 in
theorem mk_X6_setFire : MK yX6_setFire cX6_setFire 2 none := ⟨bw_c5 (List.mem_of_getElem? (i := 84) (by decide +kernel)) rfl, bw_c5 (List.mem_of_getElem? (i := 85) (by decide +kernel)) rfl, bw_c1 (List.mem_of_getElem? (i := 9) (by decide +kernel)) rfl, bw_c5 (List.mem_of_getElem? (i := 86) rfl) rfl, by decide, by decide⟩
theorem pd_X6_dismiss : (parseMethodDescriptor yX6_dismiss.desc).map (fun d => d.parameters.length) = some 0 := by decide +kernel
set_option maxRecDepth 20000 in
theorem mk_X6_dismiss : MK yX6_dismiss cX6_dismiss 1 none := ⟨bw_c3 (List.mem_of_getElem? (i := 48) (by decide +kernel)) rfl, bw_c3 (List.mem_of_getElem? (i := 49) (by decide +kernel)) rfl, bw_c1 (List.mem_of_getElem? (i := 9) (by decide +kernel)) rfl, bw_c3 (List.mem_of_getElem? (i := 50) rfl) rfl, by decide, by decide⟩
theorem pd_X6_burns : (parseMethodDescriptor yX6_burns.desc).map (fun d => d.parameters.length) = some 1 := by decide +kernel
set_option maxRecDepth 20000 in
theorem mk_X6_burns : MK yX6_burns cX6_burns 2 (some .boolean) := ⟨bw_c5 (List.mem_of_getElem? (i := 118) (by decide +kernel)) rfl, bw_c5 (List.mem_of_getElem? (i := 119) (by decide +kernel)) rfl, bw_c1 (List.mem_of_getElem? (i := 9) (by decide +kernel)) rfl, bw_c5 (List.mem_of_getElem? (i := 120) rfl) rfl, by decide, by decide⟩
theorem pd_X6_nextComing : (parseMethodDescriptor yX6_nextComing.desc).map (fun d => d.parameters.length) = some 1 := by decide +kernel
set_option maxRecDepth 20000 in
theorem mk_X6_nextComing : MK yX6_nextComing cX6_nextComing 4 (some .int) := ⟨bw_c5 (List.mem_of_getElem? (i := 113) (by decide +kernel)) rfl, bw_c5 (List.mem_of_getElem? (i := 114) (by decide +kernel)) rfl, bw_c1 (List.mem_of_getElem? (i := 9) (by decide +kernel)) rfl, bw_c5 (List.mem_of_getElem? (i := 115) rfl) rfl, by decide, by decide⟩
theorem pd_X7_init : (parseMethodDescriptor yX7_init.desc).map (fun d => d.parameters.length) = some 0 := by decide +kernel
theorem pd_X7_clear : (parseMethodDescriptor yX7_clear.desc).map (fun d => d.parameters.length) = some 0 := by decide +kernel
set_option maxRecDepth 20000 in
theorem mk_X7_clear : MK yX7_clear cX7_clear 1 none := ⟨bw_c3 (List.mem_of_getElem? (i := 52) (by decide +kernel)) rfl, bw_c3 (List.mem_of_getElem? (i := 53) (by decide +kernel)) rfl, bw_c1 (List.mem_of_getElem? (i := 12) (by decide +kernel)) rfl, bw_c3 (List.mem_of_getElem? (i := 54) rfl) rfl, by decide, by decide⟩
theorem pd_X7_addTrip : (parseMethodDescriptor yX7_addTrip.desc).map (fun d => d.parameters.length) = some 3 := by decide +kernel
set_option maxRecDepth 20000 in
theorem mk_X7_addTrip : MK yX7_addTrip cX7_addTrip 4 (some .boolean) := ⟨bw_c6 (List.mem_of_getElem? (i := 16) (by decide +kernel)) rfl, bw_c6 (List.mem_of_getElem? (i := 17) (by decide +kernel)) rfl, bw_c1 (List.mem_of_getElem? (i := 12) (by decide +kernel)) rfl, bw_c6 (List.mem_of_getElem? (i := 18) rfl) rfl, by decide, by decide⟩
theorem pd_X7_setSlip : (parseMethodDescriptor yX7_setSlip.desc).map (fun d => d.parameters.length) = some 1 := by decide +kernel
set_option maxRecDepth 20000 in
theorem mk_X7_setSlip : MK yX7_setSlip cX7_setSlip 3 (some .boolean) := ⟨bw_c6 (List.mem_of_getElem? (i := 26) (by decide +kernel)) rfl, bw_c6 (List.mem_of_getElem? (i := 27) (by decide +kernel)) rfl, bw_c1 (List.mem_of_getElem? (i := 12) (by decide +kernel)) rfl, bw_c6 (List.mem_of_getElem? (i := 28) rfl) rfl, by decide, by decide⟩
theorem pd_X7_setLife : (parseMethodDescriptor yX7_setLife.desc).map (fun d => d.parameters.length) = some 1 := by decide +kernel
set_option maxRecDepth 20000 in
theorem mk_X7_setLife : MK yX7_setLife cX7_setLife 3 (some .boolean) := ⟨bw_c6 (List.mem_of_getElem? (i := 30) (by decide +kernel)) rfl, bw_c6 (List.mem_of_getElem? (i := 31) (by decide +kernel)) rfl, bw_c1 (List.mem_of_getElem? (i := 12) (by decide +kernel)) rfl, bw_c6 (List.mem_of_getElem? (i := 32) rfl) rfl, by decide, by decide⟩
theorem pd_X7_setDays : (parseMethodDescriptor yX7_setDays.desc).map (fun d => d.parameters.length) = some 1 := by decide +kernel
set_option maxRecDepth 20000 in
theorem mk_X7_setDays : MK yX7_setDays cX7_setDays 3 (some .boolean) := ⟨bw_c6 (List.mem_of_getElem? (i := 35) (by decide +kernel)) rfl, bw_c6 (List.mem_of_getElem? (i := 36) (by decide +kernel)) rfl, bw_c1 (List.mem_of_getElem? (i := 12) (by decide +kernel)) rfl, bw_c6 (List.mem_of_getElem? (i := 37) rfl) rfl, by decide, by decide⟩
theorem pd_X7_passes : (parseMethodDescriptor yX7_passes.desc).map (fun d => d.parameters.length) = some 2 := by decide +kernel
set_option maxRecDepth 20000 in
theorem mk_X7_passes : MK yX7_passes cX7_passes 3 (some .boolean) := ⟨bw_c6 (List.mem_of_getElem? (i := 52) (by decide +kernel)) rfl, bw_p (List.mem_of_getElem? (i := 55) (by decide +kernel)) rfl, bw_c1 (List.mem_of_getElem? (i := 12) (by decide +kernel)) rfl, bw_c6 (List.mem_of_getElem? (i := 53) rfl) rfl, by decide, by decide⟩
theorem pd_X7_trueNumber : (parseMethodDescriptor yX7_trueNumber.desc).map (fun d => d.parameters.length) = some 2 := by decide +kernel
set_option maxRecDepth 20000 in
theorem mk_X7_trueNumber : MK yX7_trueNumber cX7_trueNumber 4 (some .int) := ⟨bw_c6 (List.mem_of_getElem? (i := 56) (by decide +kernel)) rfl, bw_p (List.mem_of_getElem? (i := 56) (by decide +kernel)) rfl, bw_c1 (List.mem_of_getElem? (i := 12) (by decide +kernel)) rfl, bw_c6 (List.mem_of_getElem? (i := 57) rfl) rfl, by decide, by decide⟩
theorem pd_X7_leastBends : (parseMethodDescriptor yX7_leastBends.desc).map (fun d => d.parameters.length) = some 1 := by decide +kernel
set_option maxRecDepth 20000 in
theorem mk_X7_leastBends : MK yX7_leastBends cX7_leastBends 2 (some .int) := ⟨bw_c6 (List.mem_of_getElem? (i := 43) (by decide +kernel)) rfl, bw_c6 (List.mem_of_getElem? (i := 44) (by decide +kernel)) rfl, bw_c1 (List.mem_of_getElem? (i := 12) (by decide +kernel)) rfl, bw_c6 (List.mem_of_getElem? (i := 45) rfl) rfl, by decide, by decide⟩
theorem pd_X7_mostBends : (parseMethodDescriptor yX7_mostBends.desc).map (fun d => d.parameters.length) = some 1 := by decide +kernel
set_option maxRecDepth 20000 in
theorem mk_X7_mostBends : MK yX7_mostBends cX7_mostBends 2 (some .int) := ⟨bw_c6 (List.mem_of_getElem? (i := 59) (by decide +kernel)) rfl, bw_c6 (List.mem_of_getElem? (i := 60) (by decide +kernel)) rfl, bw_c1 (List.mem_of_getElem? (i := 12) (by decide +kernel)) rfl, bw_c6 (List.mem_of_getElem? (i := 61) rfl) rfl, by decide, by decide⟩
theorem pd_X7_bends : (parseMethodDescriptor yX7_bends.desc).map (fun d => d.parameters.length) = some 3 := by decide +kernel
set_option maxRecDepth 20000 in
theorem mk_X7_bends : MK yX7_bends cX7_bends 6 (some .int) := ⟨bw_c6 (List.mem_of_getElem? (i := 48) (by decide +kernel)) rfl, bw_p (List.mem_of_getElem? (i := 54) (by decide +kernel)) rfl, bw_c1 (List.mem_of_getElem? (i := 12) (by decide +kernel)) rfl, bw_c6 (List.mem_of_getElem? (i := 49) rfl) rfl, by decide, by decide⟩
theorem pd_X7_worn : (parseMethodDescriptor yX7_worn.desc).map (fun d => d.parameters.length) = some 1 := by decide +kernel
set_option maxRecDepth 20000 in
theorem mk_X7_worn : MK yX7_worn cX7_worn 2 (some .int) := ⟨bw_c6 (List.mem_of_getElem? (i := 63) (by decide +kernel)) rfl, bw_c6 (List.mem_of_getElem? (i := 64) (by decide +kernel)) rfl, bw_c1 (List.mem_of_getElem? (i := 12) (by decide +kernel)) rfl, bw_c6 (List.mem_of_getElem? (i := 65) rfl) rfl, by decide, by decide⟩
theorem pd_X7_leads : (parseMethodDescriptor yX7_leads.desc).map (fun d => d.parameters.length) = some 3 := by decide +kernel
set_option maxRecDepth 20000 in
theorem mk_X7_leads : MK yX7_leads cX7_leads 6 (some .boolean) := ⟨bw_c6 (List.mem_of_getElem? (i := 73) (by decide +kernel)) rfl, bw_c6 (List.mem_of_getElem? (i := 74) (by decide +kernel)) rfl, bw_c1 (List.mem_of_getElem? (i := 12) (by decide +kernel)) rfl, bw_c6 (List.mem_of_getElem? (i := 75) rfl) rfl, by decide, by decide⟩
theorem pd_X7_daysLeft : (parseMethodDescriptor yX7_daysLeft.desc).map (fun d => d.parameters.length) = some 1 := by decide +kernel
set_option maxRecDepth 20000 in
theorem mk_X7_daysLeft : MK yX7_daysLeft cX7_daysLeft 2 (some .long) := ⟨bw_c6 (List.mem_of_getElem? (i := 82) (by decide +kernel)) rfl, bw_c6 (List.mem_of_getElem? (i := 83) (by decide +kernel)) rfl, bw_c1 (List.mem_of_getElem? (i := 12) (by decide +kernel)) rfl, bw_c6 (List.mem_of_getElem? (i := 84) rfl) rfl, by decide, by decide⟩
theorem pd_X8_init : (parseMethodDescriptor yX8_init.desc).map (fun d => d.parameters.length) = some 0 := by decide +kernel
theorem pd_X8_put : (parseMethodDescriptor yX8_put.desc).map (fun d => d.parameters.length) = some 1 := by decide +kernel
set_option maxRecDepth 20000 in
theorem mk_X8_put : MK yX8_put cX8_put 6 none := ⟨bw_c3 (List.mem_of_getElem? (i := 92) (by decide +kernel)) rfl, bw_c3 (List.mem_of_getElem? (i := 93) (by decide +kernel)) rfl, bw_c1 (List.mem_of_getElem? (i := 2) (by decide +kernel)) rfl, bw_c3 (List.mem_of_getElem? (i := 94) rfl) rfl, by decide, by decide⟩
theorem pd_X9_init : (parseMethodDescriptor yX9_init.desc).map (fun d => d.parameters.length) = some 1 := by decide +kernel
theorem pd_X9_take : (parseMethodDescriptor yX9_take.desc).map (fun d => d.parameters.length) = some 0 := by decide +kernel
set_option maxRecDepth 20000 in
theorem mk_X9_take : MK yX9_take cX9_take 3 none := ⟨bw_c3 (List.mem_of_getElem? (i := 108) (by decide +kernel)) rfl, bw_c3 (List.mem_of_getElem? (i := 109) (by decide +kernel)) rfl, bw_c1 (List.mem_of_getElem? (i := 5) (by decide +kernel)) rfl, bw_c3 (List.mem_of_getElem? (i := 110) rfl) rfl, by decide, by decide⟩
theorem pd_X9_add : (parseMethodDescriptor yX9_add.desc).map (fun d => d.parameters.length) = some 3 := by decide +kernel
set_option maxRecDepth 20000 in
theorem mk_X9_add : MK yX9_add cX9_add 4 none := ⟨bw_c3 (List.mem_of_getElem? (i := 125) (by decide +kernel)) rfl, bw_p (List.mem_of_getElem? (i := 6) (by decide +kernel)) rfl, bw_c1 (List.mem_of_getElem? (i := 5) (by decide +kernel)) rfl, bw_c3 (List.mem_of_getElem? (i := 126) rfl) rfl, by decide, by decide⟩
theorem pd_X9_takeOne : (parseMethodDescriptor yX9_takeOne.desc).map (fun d => d.parameters.length) = some 1 := by decide +kernel
set_option maxRecDepth 20000 in
theorem mk_X9_takeOne : MK yX9_takeOne cX9_takeOne 4 (some .int) := ⟨bw_c3 (List.mem_of_getElem? (i := 113) (by decide +kernel)) rfl, bw_p (List.mem_of_getElem? (i := 3) (by decide +kernel)) rfl, bw_c1 (List.mem_of_getElem? (i := 5) (by decide +kernel)) rfl, bw_c3 (List.mem_of_getElem? (i := 114) rfl) rfl, by decide, by decide⟩
theorem pd_X9_endOfRun : (parseMethodDescriptor yX9_endOfRun.desc).map (fun d => d.parameters.length) = some 3 := by decide +kernel
set_option maxRecDepth 20000 in
theorem mk_X9_endOfRun : MK yX9_endOfRun cX9_endOfRun 5 (some .int) := ⟨bw_c3 (List.mem_of_getElem? (i := 117) (by decide +kernel)) rfl, bw_p (List.mem_of_getElem? (i := 4) (by decide +kernel)) rfl, bw_c1 (List.mem_of_getElem? (i := 5) (by decide +kernel)) rfl, bw_c3 (List.mem_of_getElem? (i := 118) rfl) rfl, by decide, by decide⟩
theorem pd_X9_takeNumber : (parseMethodDescriptor yX9_takeNumber.desc).map (fun d => d.parameters.length) = some 2 := by decide +kernel
set_option maxRecDepth 20000 in
theorem mk_X9_takeNumber : MK yX9_takeNumber cX9_takeNumber 5 (some .int) := ⟨bw_c3 (List.mem_of_getElem? (i := 182) (by decide +kernel)) rfl, bw_p (List.mem_of_getElem? (i := 8) (by decide +kernel)) rfl, bw_c1 (List.mem_of_getElem? (i := 5) (by decide +kernel)) rfl, bw_c3 (List.mem_of_getElem? (i := 183) rfl) rfl, by decide, by decide⟩
theorem pd_X9_takeWord : (parseMethodDescriptor yX9_takeWord.desc).map (fun d => d.parameters.length) = some 2 := by decide +kernel
set_option maxRecDepth 20000 in
theorem mk_X9_takeWord : MK yX9_takeWord cX9_takeWord 4 (some .int) := ⟨bw_c3 (List.mem_of_getElem? (i := 121) (by decide +kernel)) rfl, bw_p (List.mem_of_getElem? (i := 5) (by decide +kernel)) rfl, bw_c1 (List.mem_of_getElem? (i := 5) (by decide +kernel)) rfl, bw_c3 (List.mem_of_getElem? (i := 122) rfl) rfl, by decide, by decide⟩
theorem pd_X9_wordKind : (parseMethodDescriptor yX9_wordKind.desc).map (fun d => d.parameters.length) = some 2 := by decide +kernel
set_option maxRecDepth 20000 in
theorem mk_X9_wordKind : MK yX9_wordKind cX9_wordKind 8 (some .int) := ⟨bw_c3 (List.mem_of_getElem? (i := 129) (by decide +kernel)) rfl, bw_p (List.mem_of_getElem? (i := 7) (by decide +kernel)) rfl, bw_c1 (List.mem_of_getElem? (i := 5) (by decide +kernel)) rfl, bw_c3 (List.mem_of_getElem? (i := 130) rfl) rfl, by decide, by decide⟩
theorem pd_X10_init : (parseMethodDescriptor yX10_init.desc).map (fun d => d.parameters.length) = some 1 := by decide +kernel
theorem pd_X10_catchUp : (parseMethodDescriptor yX10_catchUp.desc).map (fun d => d.parameters.length) = some 0 := by decide +kernel
set_option maxRecDepth 20000 in
theorem mk_X10_catchUp : MK yX10_catchUp cX10_catchUp 1 none := ⟨bw_c5 (List.mem_of_getElem? (i := 97) (by decide +kernel)) rfl, bw_c5 (List.mem_of_getElem? (i := 98) (by decide +kernel)) rfl, bw_c1 (List.mem_of_getElem? (i := 10) (by decide +kernel)) rfl, bw_c5 (List.mem_of_getElem? (i := 99) rfl) rfl, by decide, by decide⟩
theorem pd_X10_simulate : (parseMethodDescriptor yX10_simulate.desc).map (fun d => d.parameters.length) = some 1 := by decide +kernel
set_option maxRecDepth 20000 in
theorem mk_X10_simulate : MK yX10_simulate cX10_simulate 4 none := ⟨bw_c5 (List.mem_of_getElem? (i := 105) (by decide +kernel)) rfl, bw_c5 (List.mem_of_getElem? (i := 106) (by decide +kernel)) rfl, bw_c1 (List.mem_of_getElem? (i := 10) (by decide +kernel)) rfl, bw_c5 (List.mem_of_getElem? (i := 107) rfl) rfl, by decide, by decide⟩
theorem pd_X10_begin : (parseMethodDescriptor yX10_begin.desc).map (fun d => d.parameters.length) = some 0 := by decide +kernel
set_option maxRecDepth 20000 in
theorem mk_X10_begin : MK yX10_begin cX10_begin 2 none := ⟨bw_c5 (List.mem_of_getElem? (i := 110) (by decide +kernel)) rfl, bw_p (List.mem_of_getElem? (i := 35) (by decide +kernel)) rfl, bw_c1 (List.mem_of_getElem? (i := 10) (by decide +kernel)) rfl, bw_c5 (List.mem_of_getElem? (i := 111) rfl) rfl, by decide, by decide⟩
theorem pd_X10_give : (parseMethodDescriptor yX10_give.desc).map (fun d => d.parameters.length) = some 2 := by decide +kernel
set_option maxRecDepth 20000 in
theorem mk_X10_give : MK yX10_give cX10_give 5 none := ⟨bw_c5 (List.mem_of_getElem? (i := 123) (by decide +kernel)) rfl, bw_p (List.mem_of_getElem? (i := 36) (by decide +kernel)) rfl, bw_c1 (List.mem_of_getElem? (i := 10) (by decide +kernel)) rfl, bw_c5 (List.mem_of_getElem? (i := 124) rfl) rfl, by decide, by decide⟩
theorem pd_X10_carByRule : (parseMethodDescriptor yX10_carByRule.desc).map (fun d => d.parameters.length) = some 2 := by decide +kernel
set_option maxRecDepth 20000 in
theorem mk_X10_carByRule : MK yX10_carByRule cX10_carByRule 3 (some .int) := ⟨bw_c5 (List.mem_of_getElem? (i := 127) (by decide +kernel)) rfl, bw_p (List.mem_of_getElem? (i := 37) (by decide +kernel)) rfl, bw_c1 (List.mem_of_getElem? (i := 10) (by decide +kernel)) rfl, bw_c5 (List.mem_of_getElem? (i := 128) rfl) rfl, by decide, by decide⟩
theorem pd_X10_ruleOf : (parseMethodDescriptor yX10_ruleOf.desc).map (fun d => d.parameters.length) = some 3 := by decide +kernel
set_option maxRecDepth 20000 in
theorem mk_X10_ruleOf : MK yX10_ruleOf cX10_ruleOf 7 (some .int) := ⟨bw_c5 (List.mem_of_getElem? (i := 131) (by decide +kernel)) rfl, bw_p (List.mem_of_getElem? (i := 38) (by decide +kernel)) rfl, bw_c1 (List.mem_of_getElem? (i := 10) (by decide +kernel)) rfl, bw_c5 (List.mem_of_getElem? (i := 132) rfl) rfl, by decide, by decide⟩
theorem pd_X10_holdDoors : (parseMethodDescriptor yX10_holdDoors.desc).map (fun d => d.parameters.length) = some 1 := by decide +kernel
set_option maxRecDepth 20000 in
theorem mk_X10_holdDoors : MK yX10_holdDoors cX10_holdDoors 4 none := ⟨bw_c5 (List.mem_of_getElem? (i := 153) (by decide +kernel)) rfl, bw_p (List.mem_of_getElem? (i := 41) (by decide +kernel)) rfl, bw_c1 (List.mem_of_getElem? (i := 10) (by decide +kernel)) rfl, bw_c5 (List.mem_of_getElem? (i := 154) rfl) rfl, by decide, by decide⟩
theorem pd_X10_act : (parseMethodDescriptor yX10_act.desc).map (fun d => d.parameters.length) = some 2 := by decide +kernel
set_option maxRecDepth 20000 in
theorem mk_X10_act : MK yX10_act cX10_act 3 none := ⟨bw_c5 (List.mem_of_getElem? (i := 157) (by decide +kernel)) rfl, bw_p (List.mem_of_getElem? (i := 42) (by decide +kernel)) rfl, bw_c1 (List.mem_of_getElem? (i := 10) (by decide +kernel)) rfl, bw_c5 (List.mem_of_getElem? (i := 158) rfl) rfl, by decide, by decide⟩
theorem pd_X10_flee : (parseMethodDescriptor yX10_flee.desc).map (fun d => d.parameters.length) = some 2 := by decide +kernel
set_option maxRecDepth 20000 in
theorem mk_X10_flee : MK yX10_flee cX10_flee 3 none := ⟨bw_c5 (List.mem_of_getElem? (i := 161) (by decide +kernel)) rfl, bw_p (List.mem_of_getElem? (i := 43) (by decide +kernel)) rfl, bw_c1 (List.mem_of_getElem? (i := 10) (by decide +kernel)) rfl, bw_c5 (List.mem_of_getElem? (i := 162) rfl) rfl, by decide, by decide⟩
theorem pd_X10_hasRoom : (parseMethodDescriptor yX10_hasRoom.desc).map (fun d => d.parameters.length) = some 1 := by decide +kernel
set_option maxRecDepth 20000 in
theorem mk_X10_hasRoom : MK yX10_hasRoom cX10_hasRoom 2 (some .boolean) := ⟨bw_c5 (List.mem_of_getElem? (i := 135) (by decide +kernel)) rfl, bw_p (List.mem_of_getElem? (i := 39) (by decide +kernel)) rfl, bw_c1 (List.mem_of_getElem? (i := 10) (by decide +kernel)) rfl, bw_c5 (List.mem_of_getElem? (i := 136) rfl) rfl, by decide, by decide⟩
theorem pd_X10_stopsHere : (parseMethodDescriptor yX10_stopsHere.desc).map (fun d => d.parameters.length) = some 1 := by decide +kernel
set_option maxRecDepth 20000 in
theorem mk_X10_stopsHere : MK yX10_stopsHere cX10_stopsHere 3 (some .boolean) := ⟨bw_c5 (List.mem_of_getElem? (i := 174) (by decide +kernel)) rfl, bw_p (List.mem_of_getElem? (i := 46) (by decide +kernel)) rfl, bw_c1 (List.mem_of_getElem? (i := 10) (by decide +kernel)) rfl, bw_c5 (List.mem_of_getElem? (i := 175) rfl) rfl, by decide, by decide⟩
theorem pd_X10_stop : (parseMethodDescriptor yX10_stop.desc).map (fun d => d.parameters.length) = some 2 := by decide +kernel
set_option maxRecDepth 20000 in
theorem mk_X10_stop : MK yX10_stop cX10_stop 6 none := ⟨bw_c5 (List.mem_of_getElem? (i := 178) (by decide +kernel)) rfl, bw_p (List.mem_of_getElem? (i := 47) (by decide +kernel)) rfl, bw_c1 (List.mem_of_getElem? (i := 10) (by decide +kernel)) rfl, bw_c5 (List.mem_of_getElem? (i := 179) rfl) rfl, by decide, by decide⟩
theorem pd_X10_letOut : (parseMethodDescriptor yX10_letOut.desc).map (fun d => d.parameters.length) = some 3 := by decide +kernel
set_option maxRecDepth 20000 in
theorem mk_X10_letOut : MK yX10_letOut cX10_letOut 5 none := ⟨bw_c5 (List.mem_of_getElem? (i := 170) (by decide +kernel)) rfl, bw_p (List.mem_of_getElem? (i := 45) (by decide +kernel)) rfl, bw_c1 (List.mem_of_getElem? (i := 10) (by decide +kernel)) rfl, bw_c5 (List.mem_of_getElem? (i := 171) rfl) rfl, by decide, by decide⟩
theorem pd_X10_goalsOf : (parseMethodDescriptor yX10_goalsOf.desc).map (fun d => d.parameters.length) = some 2 := by decide +kernel
set_option maxRecDepth 20000 in
theorem mk_X10_goalsOf : MK yX10_goalsOf cX10_goalsOf 6 (some .int) := ⟨bw_c5 (List.mem_of_getElem? (i := 145) (by decide +kernel)) rfl, bw_p (List.mem_of_getElem? (i := 40) (by decide +kernel)) rfl, bw_c1 (List.mem_of_getElem? (i := 10) (by decide +kernel)) rfl, bw_c5 (List.mem_of_getElem? (i := 146) rfl) rfl, by decide, by decide⟩
theorem pd_X10_go : (parseMethodDescriptor yX10_go.desc).map (fun d => d.parameters.length) = some 1 := by decide +kernel
set_option maxRecDepth 20000 in
theorem mk_X10_go : MK yX10_go cX10_go 2 none := ⟨bw_c5 (List.mem_of_getElem? (i := 182) (by decide +kernel)) rfl, bw_p (List.mem_of_getElem? (i := 48) (by decide +kernel)) rfl, bw_c1 (List.mem_of_getElem? (i := 10) (by decide +kernel)) rfl, bw_c5 (List.mem_of_getElem? (i := 183) rfl) rfl, by decide, by decide⟩
theorem pd_X10_wayTo : (parseMethodDescriptor yX10_wayTo.desc).map (fun d => d.parameters.length) = some 3 := by decide +kernel
set_option maxRecDepth 20000 in
theorem ms_X10_wayTo : MS yX10_wayTo cX10_wayTo 6 (some .int) := ⟨bw_c5 (List.mem_of_getElem? (i := 188) (by decide +kernel)) rfl, bw_c1 (List.mem_of_getElem? (i := 10) (by decide +kernel)) rfl, bw_c5 (List.mem_of_getElem? (i := 189) rfl) rfl, by decide, by decide⟩
theorem pd_X10_move : (parseMethodDescriptor yX10_move.desc).map (fun d => d.parameters.length) = some 2 := by decide +kernel
set_option maxRecDepth 20000 in
theorem mk_X10_move : MK yX10_move cX10_move 4 none := ⟨bw_c5 (List.mem_of_getElem? (i := 165) (by decide +kernel)) rfl, bw_p (List.mem_of_getElem? (i := 44) (by decide +kernel)) rfl, bw_c1 (List.mem_of_getElem? (i := 10) (by decide +kernel)) rfl, bw_c5 (List.mem_of_getElem? (i := 166) rfl) rfl, by decide, by decide⟩
theorem pd_X10_allHome : (parseMethodDescriptor yX10_allHome.desc).map (fun d => d.parameters.length) = some 0 := by decide +kernel
set_option maxRecDepth 20000 in
theorem mk_X10_allHome : MK yX10_allHome cX10_allHome 2 (some .boolean) := ⟨bw_c5 (List.mem_of_getElem? (i := 192) (by decide +kernel)) rfl, bw_p (List.mem_of_getElem? (i := 49) (by decide +kernel)) rfl, bw_c1 (List.mem_of_getElem? (i := 10) (by decide +kernel)) rfl, bw_c5 (List.mem_of_getElem? (i := 193) rfl) rfl, by decide, by decide⟩
theorem pd_X10_allRest : (parseMethodDescriptor yX10_allRest.desc).map (fun d => d.parameters.length) = some 0 := by decide +kernel
set_option maxRecDepth 20000 in
theorem mk_X10_allRest : MK yX10_allRest cX10_allRest 3 (some .boolean) := ⟨bw_c5 (List.mem_of_getElem? (i := 196) (by decide +kernel)) rfl, bw_p (List.mem_of_getElem? (i := 50) (by decide +kernel)) rfl, bw_c1 (List.mem_of_getElem? (i := 10) (by decide +kernel)) rfl, bw_c5 (List.mem_of_getElem? (i := 197) rfl) rfl, by decide, by decide⟩
theorem pd_X10_nextChange : (parseMethodDescriptor yX10_nextChange.desc).map (fun d => d.parameters.length) = some 0 := by decide +kernel
set_option maxRecDepth 20000 in
theorem mk_X10_nextChange : MK yX10_nextChange cX10_nextChange 2 (some .int) := ⟨bw_c5 (List.mem_of_getElem? (i := 200) (by decide +kernel)) rfl, bw_p (List.mem_of_getElem? (i := 51) (by decide +kernel)) rfl, bw_c1 (List.mem_of_getElem? (i := 10) (by decide +kernel)) rfl, bw_c5 (List.mem_of_getElem? (i := 201) rfl) rfl, by decide, by decide⟩
theorem pd_X10_noteWaits : (parseMethodDescriptor yX10_noteWaits.desc).map (fun d => d.parameters.length) = some 0 := by decide +kernel
set_option maxRecDepth 20000 in
theorem mk_X10_noteWaits : MK yX10_noteWaits cX10_noteWaits 2 none := ⟨bw_c5 (List.mem_of_getElem? (i := 205) (by decide +kernel)) rfl, bw_p (List.mem_of_getElem? (i := 52) (by decide +kernel)) rfl, bw_c1 (List.mem_of_getElem? (i := 10) (by decide +kernel)) rfl, bw_c5 (List.mem_of_getElem? (i := 206) rfl) rfl, by decide, by decide⟩
theorem pd_X10_sumOfWaits : (parseMethodDescriptor yX10_sumOfWaits.desc).map (fun d => d.parameters.length) = some 0 := by decide +kernel
set_option maxRecDepth 20000 in
theorem mk_X10_sumOfWaits : MK yX10_sumOfWaits cX10_sumOfWaits 3 (some .int) := ⟨bw_c5 (List.mem_of_getElem? (i := 216) (by decide +kernel)) rfl, bw_c5 (List.mem_of_getElem? (i := 217) (by decide +kernel)) rfl, bw_c1 (List.mem_of_getElem? (i := 10) (by decide +kernel)) rfl, bw_c5 (List.mem_of_getElem? (i := 218) rfl) rfl, by decide, by decide⟩
theorem pd_X10_longestWaiter : (parseMethodDescriptor yX10_longestWaiter.desc).map (fun d => d.parameters.length) = some 0 := by decide +kernel
set_option maxRecDepth 20000 in
theorem mk_X10_longestWaiter : MK yX10_longestWaiter cX10_longestWaiter 3 (some .int) := ⟨bw_c5 (List.mem_of_getElem? (i := 220) (by decide +kernel)) rfl, bw_c5 (List.mem_of_getElem? (i := 221) (by decide +kernel)) rfl, bw_c1 (List.mem_of_getElem? (i := 10) (by decide +kernel)) rfl, bw_c5 (List.mem_of_getElem? (i := 222) rfl) rfl, by decide, by decide⟩
theorem pd_X10_howManyOut : (parseMethodDescriptor yX10_howManyOut.desc).map (fun d => d.parameters.length) = some 0 := by decide +kernel
set_option maxRecDepth 20000 in
theorem mk_X10_howManyOut : MK yX10_howManyOut cX10_howManyOut 1 (some .int) := ⟨bw_c5 (List.mem_of_getElem? (i := 224) (by decide +kernel)) rfl, bw_c5 (List.mem_of_getElem? (i := 225) (by decide +kernel)) rfl, bw_c1 (List.mem_of_getElem? (i := 10) (by decide +kernel)) rfl, bw_c5 (List.mem_of_getElem? (i := 226) rfl) rfl, by decide, by decide⟩
theorem pd_X11_init : (parseMethodDescriptor yX11_init.desc).map (fun d => d.parameters.length) = some 0 := by decide +kernel
theorem pd_X11_floors : (parseMethodDescriptor yX11_floors.desc).map (fun d => d.parameters.length) = some 1 := by decide +kernel
set_option maxRecDepth 20000 in
theorem mk_X11_floors : MK yX11_floors cX11_floors 2 (some .boolean) := ⟨bw_c3 (List.mem_of_getElem? (i := 84) (by decide +kernel)) rfl, bw_c3 (List.mem_of_getElem? (i := 85) (by decide +kernel)) rfl, bw_c1 (List.mem_of_getElem? (i := 1) (by decide +kernel)) rfl, bw_c3 (List.mem_of_getElem? (i := 86) rfl) rfl, by decide, by decide⟩
theorem pd_X11_feed : (parseMethodDescriptor yX11_feed.desc).map (fun d => d.parameters.length) = some 3 := by decide +kernel
set_option maxRecDepth 20000 in
theorem mk_X11_feed : MK yX11_feed cX11_feed 7 (some .int) := ⟨bw_c3 (List.mem_of_getElem? (i := 88) (by decide +kernel)) rfl, bw_c3 (List.mem_of_getElem? (i := 89) (by decide +kernel)) rfl, bw_c1 (List.mem_of_getElem? (i := 1) (by decide +kernel)) rfl, bw_c3 (List.mem_of_getElem? (i := 90) rfl) rfl, by decide, by decide⟩
theorem pd_X11_circuit : (parseMethodDescriptor yX11_circuit.desc).map (fun d => d.parameters.length) = some 0 := by decide +kernel
set_option maxRecDepth 20000 in
theorem mk_X11_circuit : MK yX11_circuit cX11_circuit 2 (some .int) := ⟨bw_c3 (List.mem_of_getElem? (i := 96) (by decide +kernel)) rfl, bw_c3 (List.mem_of_getElem? (i := 97) (by decide +kernel)) rfl, bw_c1 (List.mem_of_getElem? (i := 1) (by decide +kernel)) rfl, bw_c3 (List.mem_of_getElem? (i := 98) rfl) rfl, by decide, by decide⟩
theorem pd_X11_rule : (parseMethodDescriptor yX11_rule.desc).map (fun d => d.parameters.length) = some 0 := by decide +kernel
set_option maxRecDepth 20000 in
theorem mk_X11_rule : MK yX11_rule cX11_rule 2 (some .int) := ⟨bw_c4 (List.mem_of_getElem? (i := 81) (by decide +kernel)) rfl, bw_c4 (List.mem_of_getElem? (i := 82) (by decide +kernel)) rfl, bw_c1 (List.mem_of_getElem? (i := 1) (by decide +kernel)) rfl, bw_c4 (List.mem_of_getElem? (i := 83) rfl) rfl, by decide, by decide⟩
theorem pd_X11_press : (parseMethodDescriptor yX11_press.desc).map (fun d => d.parameters.length) = some 1 := by decide +kernel
set_option maxRecDepth 20000 in
theorem mk_X11_press : MK yX11_press cX11_press 2 (some .int) := ⟨bw_c4 (List.mem_of_getElem? (i := 94) (by decide +kernel)) rfl, bw_c4 (List.mem_of_getElem? (i := 95) (by decide +kernel)) rfl, bw_c1 (List.mem_of_getElem? (i := 1) (by decide +kernel)) rfl, bw_c4 (List.mem_of_getElem? (i := 96) rfl) rfl, by decide, by decide⟩
theorem pd_X11_again : (parseMethodDescriptor yX11_again.desc).map (fun d => d.parameters.length) = some 0 := by decide +kernel
set_option maxRecDepth 20000 in
theorem mk_X11_again : MK yX11_again cX11_again 1 (some .boolean) := ⟨bw_c4 (List.mem_of_getElem? (i := 139) (by decide +kernel)) rfl, bw_c4 (List.mem_of_getElem? (i := 140) (by decide +kernel)) rfl, bw_c1 (List.mem_of_getElem? (i := 1) (by decide +kernel)) rfl, bw_c4 (List.mem_of_getElem? (i := 141) rfl) rfl, by decide, by decide⟩
theorem pd_X11_look : (parseMethodDescriptor yX11_look.desc).map (fun d => d.parameters.length) = some 1 := by decide +kernel
set_option maxRecDepth 20000 in
theorem mk_X11_look : MK yX11_look cX11_look 2 (some .int) := ⟨bw_c6 (List.mem_of_getElem? (i := 99) (by decide +kernel)) rfl, bw_c6 (List.mem_of_getElem? (i := 100) (by decide +kernel)) rfl, bw_c1 (List.mem_of_getElem? (i := 1) (by decide +kernel)) rfl, bw_c6 (List.mem_of_getElem? (i := 101) rfl) rfl, by decide, by decide⟩
theorem pd_X11_never : (parseMethodDescriptor yX11_never.desc).map (fun d => d.parameters.length) = some 2 := by decide +kernel
set_option maxRecDepth 20000 in
theorem mk_X11_never : MK yX11_never cX11_never 4 (some .int) := ⟨bw_c4 (List.mem_of_getElem? (i := 143) (by decide +kernel)) rfl, bw_c4 (List.mem_of_getElem? (i := 144) (by decide +kernel)) rfl, bw_c1 (List.mem_of_getElem? (i := 1) (by decide +kernel)) rfl, bw_c4 (List.mem_of_getElem? (i := 145) rfl) rfl, by decide, by decide⟩
theorem pd_X11_neverRow : (parseMethodDescriptor yX11_neverRow.desc).map (fun d => d.parameters.length) = some 2 := by decide +kernel
set_option maxRecDepth 20000 in
theorem mk_X11_neverRow : MK yX11_neverRow cX11_neverRow 3 (some .int) := ⟨bw_c4 (List.mem_of_getElem? (i := 171) (by decide +kernel)) rfl, bw_c4 (List.mem_of_getElem? (i := 172) (by decide +kernel)) rfl, bw_c1 (List.mem_of_getElem? (i := 1) (by decide +kernel)) rfl, bw_c4 (List.mem_of_getElem? (i := 173) rfl) rfl, by decide, by decide⟩
theorem pd_X11_forgets : (parseMethodDescriptor yX11_forgets.desc).map (fun d => d.parameters.length) = some 3 := by decide +kernel
set_option maxRecDepth 20000 in
theorem mk_X11_forgets : MK yX11_forgets cX11_forgets 5 (some .int) := ⟨bw_c4 (List.mem_of_getElem? (i := 180) (by decide +kernel)) rfl, bw_c4 (List.mem_of_getElem? (i := 181) (by decide +kernel)) rfl, bw_c1 (List.mem_of_getElem? (i := 1) (by decide +kernel)) rfl, bw_c4 (List.mem_of_getElem? (i := 182) rfl) rfl, by decide, by decide⟩
theorem pd_X11_forgetsRow : (parseMethodDescriptor yX11_forgetsRow.desc).map (fun d => d.parameters.length) = some 3 := by decide +kernel
set_option maxRecDepth 20000 in
theorem mk_X11_forgetsRow : MK yX11_forgetsRow cX11_forgetsRow 4 (some .int) := ⟨bw_c4 (List.mem_of_getElem? (i := 214) (by decide +kernel)) rfl, bw_c4 (List.mem_of_getElem? (i := 215) (by decide +kernel)) rfl, bw_c1 (List.mem_of_getElem? (i := 1) (by decide +kernel)) rfl, bw_c4 (List.mem_of_getElem? (i := 216) rfl) rfl, by decide, by decide⟩
theorem pd_X11_stuck : (parseMethodDescriptor yX11_stuck.desc).map (fun d => d.parameters.length) = some 1 := by decide +kernel
set_option maxRecDepth 20000 in
theorem mk_X11_stuck : MK yX11_stuck cX11_stuck 2 (some .int) := ⟨bw_c4 (List.mem_of_getElem? (i := 218) (by decide +kernel)) rfl, bw_c4 (List.mem_of_getElem? (i := 219) (by decide +kernel)) rfl, bw_c1 (List.mem_of_getElem? (i := 1) (by decide +kernel)) rfl, bw_c4 (List.mem_of_getElem? (i := 220) rfl) rfl, by decide, by decide⟩
theorem pd_X11_tried : (parseMethodDescriptor yX11_tried.desc).map (fun d => d.parameters.length) = some 2 := by decide +kernel
set_option maxRecDepth 20000 in
theorem mk_X11_tried : MK yX11_tried cX11_tried 3 (some .int) := ⟨bw_c4 (List.mem_of_getElem? (i := 237) (by decide +kernel)) rfl, bw_c4 (List.mem_of_getElem? (i := 238) (by decide +kernel)) rfl, bw_c1 (List.mem_of_getElem? (i := 1) (by decide +kernel)) rfl, bw_c4 (List.mem_of_getElem? (i := 239) rfl) rfl, by decide, by decide⟩
theorem pd_X11_thought : (parseMethodDescriptor yX11_thought.desc).map (fun d => d.parameters.length) = some 1 := by decide +kernel
set_option maxRecDepth 20000 in
theorem mk_X11_thought : MK yX11_thought cX11_thought 2 (some .int) := ⟨bw_c5 (List.mem_of_getElem? (i := 6) (by decide +kernel)) rfl, bw_c5 (List.mem_of_getElem? (i := 7) (by decide +kernel)) rfl, bw_c1 (List.mem_of_getElem? (i := 1) (by decide +kernel)) rfl, bw_c5 (List.mem_of_getElem? (i := 8) rfl) rfl, by decide, by decide⟩
theorem pd_X11_tests : (parseMethodDescriptor yX11_tests.desc).map (fun d => d.parameters.length) = some 1 := by decide +kernel
set_option maxRecDepth 20000 in
theorem mk_X11_tests : MK yX11_tests cX11_tests 2 (some .int) := ⟨bw_c5 (List.mem_of_getElem? (i := 20) (by decide +kernel)) rfl, bw_c5 (List.mem_of_getElem? (i := 21) (by decide +kernel)) rfl, bw_c1 (List.mem_of_getElem? (i := 1) (by decide +kernel)) rfl, bw_c5 (List.mem_of_getElem? (i := 22) rfl) rfl, by decide, by decide⟩
theorem pd_X11_cars : (parseMethodDescriptor yX11_cars.desc).map (fun d => d.parameters.length) = some 4 := by decide +kernel
set_option maxRecDepth 20000 in
theorem mk_X11_cars : MK yX11_cars cX11_cars 5 (some .boolean) := ⟨bw_c5 (List.mem_of_getElem? (i := 59) (by decide +kernel)) rfl, bw_c5 (List.mem_of_getElem? (i := 60) (by decide +kernel)) rfl, bw_c1 (List.mem_of_getElem? (i := 1) (by decide +kernel)) rfl, bw_c5 (List.mem_of_getElem? (i := 61) rfl) rfl, by decide, by decide⟩
theorem pd_X11_person : (parseMethodDescriptor yX11_person.desc).map (fun d => d.parameters.length) = some 3 := by decide +kernel
set_option maxRecDepth 20000 in
theorem mk_X11_person : MK yX11_person cX11_person 4 (some .int) := ⟨bw_c5 (List.mem_of_getElem? (i := 64) (by decide +kernel)) rfl, bw_c5 (List.mem_of_getElem? (i := 65) (by decide +kernel)) rfl, bw_c1 (List.mem_of_getElem? (i := 1) (by decide +kernel)) rfl, bw_c5 (List.mem_of_getElem? (i := 66) rfl) rfl, by decide, by decide⟩
theorem pd_X11_hold : (parseMethodDescriptor yX11_hold.desc).map (fun d => d.parameters.length) = some 3 := by decide +kernel
set_option maxRecDepth 20000 in
theorem mk_X11_hold : MK yX11_hold cX11_hold 4 (some .boolean) := ⟨bw_c5 (List.mem_of_getElem? (i := 72) (by decide +kernel)) rfl, bw_c5 (List.mem_of_getElem? (i := 73) (by decide +kernel)) rfl, bw_c1 (List.mem_of_getElem? (i := 1) (by decide +kernel)) rfl, bw_c5 (List.mem_of_getElem? (i := 74) rfl) rfl, by decide, by decide⟩
theorem pd_X11_fire : (parseMethodDescriptor yX11_fire.desc).map (fun d => d.parameters.length) = some 1 := by decide +kernel
set_option maxRecDepth 20000 in
theorem mk_X11_fire : MK yX11_fire cX11_fire 2 (some .boolean) := ⟨bw_c5 (List.mem_of_getElem? (i := 80) (by decide +kernel)) rfl, bw_c5 (List.mem_of_getElem? (i := 81) (by decide +kernel)) rfl, bw_c1 (List.mem_of_getElem? (i := 1) (by decide +kernel)) rfl, bw_c5 (List.mem_of_getElem? (i := 82) rfl) rfl, by decide, by decide⟩
theorem pd_X11_nobody : (parseMethodDescriptor yX11_nobody.desc).map (fun d => d.parameters.length) = some 0 := by decide +kernel
set_option maxRecDepth 20000 in
theorem mk_X11_nobody : MK yX11_nobody cX11_nobody 1 (some .boolean) := ⟨bw_c5 (List.mem_of_getElem? (i := 88) (by decide +kernel)) rfl, bw_c5 (List.mem_of_getElem? (i := 89) (by decide +kernel)) rfl, bw_c1 (List.mem_of_getElem? (i := 1) (by decide +kernel)) rfl, bw_c5 (List.mem_of_getElem? (i := 90) rfl) rfl, by decide, by decide⟩
theorem pd_X11_run : (parseMethodDescriptor yX11_run.desc).map (fun d => d.parameters.length) = some 0 := by decide +kernel
set_option maxRecDepth 20000 in
theorem mk_X11_run : MK yX11_run cX11_run 1 (some .int) := ⟨bw_c5 (List.mem_of_getElem? (i := 93) (by decide +kernel)) rfl, bw_c5 (List.mem_of_getElem? (i := 94) (by decide +kernel)) rfl, bw_c1 (List.mem_of_getElem? (i := 1) (by decide +kernel)) rfl, bw_c5 (List.mem_of_getElem? (i := 95) rfl) rfl, by decide, by decide⟩
theorem pd_X11_rode : (parseMethodDescriptor yX11_rode.desc).map (fun d => d.parameters.length) = some 2 := by decide +kernel
set_option maxRecDepth 20000 in
theorem mk_X11_rode : MK yX11_rode cX11_rode 3 (some .int) := ⟨bw_c5 (List.mem_of_getElem? (i := 208) (by decide +kernel)) rfl, bw_c5 (List.mem_of_getElem? (i := 209) (by decide +kernel)) rfl, bw_c1 (List.mem_of_getElem? (i := 1) (by decide +kernel)) rfl, bw_c5 (List.mem_of_getElem? (i := 210) rfl) rfl, by decide, by decide⟩
theorem pd_X11_waits : (parseMethodDescriptor yX11_waits.desc).map (fun d => d.parameters.length) = some 1 := by decide +kernel
set_option maxRecDepth 20000 in
theorem mk_X11_waits : MK yX11_waits cX11_waits 2 (some .int) := ⟨bw_c5 (List.mem_of_getElem? (i := 212) (by decide +kernel)) rfl, bw_c5 (List.mem_of_getElem? (i := 213) (by decide +kernel)) rfl, bw_c1 (List.mem_of_getElem? (i := 1) (by decide +kernel)) rfl, bw_c5 (List.mem_of_getElem? (i := 214) rfl) rfl, by decide, by decide⟩
theorem pd_X11_moved : (parseMethodDescriptor yX11_moved.desc).map (fun d => d.parameters.length) = some 2 := by decide +kernel
set_option maxRecDepth 20000 in
theorem mk_X11_moved : MK yX11_moved cX11_moved 3 (some .int) := ⟨bw_c5 (List.mem_of_getElem? (i := 228) (by decide +kernel)) rfl, bw_c5 (List.mem_of_getElem? (i := 229) (by decide +kernel)) rfl, bw_c1 (List.mem_of_getElem? (i := 1) (by decide +kernel)) rfl, bw_c5 (List.mem_of_getElem? (i := 230) rfl) rfl, by decide, by decide⟩
theorem pd_X11_stopped : (parseMethodDescriptor yX11_stopped.desc).map (fun d => d.parameters.length) = some 1 := by decide +kernel
set_option maxRecDepth 20000 in
theorem mk_X11_stopped : MK yX11_stopped cX11_stopped 2 (some .int) := ⟨bw_c5 (List.mem_of_getElem? (i := 232) (by decide +kernel)) rfl, bw_c5 (List.mem_of_getElem? (i := 233) (by decide +kernel)) rfl, bw_c1 (List.mem_of_getElem? (i := 1) (by decide +kernel)) rfl, bw_c5 (List.mem_of_getElem? (i := 234) rfl) rfl, by decide, by decide⟩
theorem pd_X11_best : (parseMethodDescriptor yX11_best.desc).map (fun d => d.parameters.length) = some 2 := by decide +kernel
set_option maxRecDepth 20000 in
theorem mk_X11_best : MK yX11_best cX11_best 3 (some .int) := ⟨bw_c5 (List.mem_of_getElem? (i := 236) (by decide +kernel)) rfl, bw_c5 (List.mem_of_getElem? (i := 237) (by decide +kernel)) rfl, bw_c1 (List.mem_of_getElem? (i := 1) (by decide +kernel)) rfl, bw_c5 (List.mem_of_getElem? (i := 238) rfl) rfl, by decide, by decide⟩
theorem pd_X11_trip : (parseMethodDescriptor yX11_trip.desc).map (fun d => d.parameters.length) = some 3 := by decide +kernel
set_option maxRecDepth 20000 in
theorem mk_X11_trip : MK yX11_trip cX11_trip 4 (some .boolean) := ⟨bw_c6 (List.mem_of_getElem? (i := 12) (by decide +kernel)) rfl, bw_c6 (List.mem_of_getElem? (i := 13) (by decide +kernel)) rfl, bw_c1 (List.mem_of_getElem? (i := 1) (by decide +kernel)) rfl, bw_c6 (List.mem_of_getElem? (i := 14) rfl) rfl, by decide, by decide⟩
theorem pd_X11_gauge : (parseMethodDescriptor yX11_gauge.desc).map (fun d => d.parameters.length) = some 2 := by decide +kernel
set_option maxRecDepth 20000 in
theorem mk_X11_gauge : MK yX11_gauge cX11_gauge 3 (some .boolean) := ⟨bw_c6 (List.mem_of_getElem? (i := 22) (by decide +kernel)) rfl, bw_c6 (List.mem_of_getElem? (i := 23) (by decide +kernel)) rfl, bw_c1 (List.mem_of_getElem? (i := 1) (by decide +kernel)) rfl, bw_c6 (List.mem_of_getElem? (i := 24) rfl) rfl, by decide, by decide⟩
theorem pd_X11_rope : (parseMethodDescriptor yX11_rope.desc).map (fun d => d.parameters.length) = some 2 := by decide +kernel
set_option maxRecDepth 20000 in
theorem mk_X11_rope : MK yX11_rope cX11_rope 3 (some .int) := ⟨bw_c6 (List.mem_of_getElem? (i := 39) (by decide +kernel)) rfl, bw_c6 (List.mem_of_getElem? (i := 40) (by decide +kernel)) rfl, bw_c1 (List.mem_of_getElem? (i := 1) (by decide +kernel)) rfl, bw_c6 (List.mem_of_getElem? (i := 41) rfl) rfl, by decide, by decide⟩
theorem pd_X11_first : (parseMethodDescriptor yX11_first.desc).map (fun d => d.parameters.length) = some 1 := by decide +kernel
set_option maxRecDepth 20000 in
theorem mk_X11_first : MK yX11_first cX11_first 4 (some .int) := ⟨bw_c6 (List.mem_of_getElem? (i := 69) (by decide +kernel)) rfl, bw_c6 (List.mem_of_getElem? (i := 70) (by decide +kernel)) rfl, bw_c1 (List.mem_of_getElem? (i := 1) (by decide +kernel)) rfl, bw_c6 (List.mem_of_getElem? (i := 71) rfl) rfl, by decide, by decide⟩
theorem pd_X11_lasts : (parseMethodDescriptor yX11_lasts.desc).map (fun d => d.parameters.length) = some 2 := by decide +kernel
set_option maxRecDepth 20000 in
theorem mk_X11_lasts : MK yX11_lasts cX11_lasts 3 (some .long) := ⟨bw_c6 (List.mem_of_getElem? (i := 77) (by decide +kernel)) rfl, bw_c6 (List.mem_of_getElem? (i := 78) (by decide +kernel)) rfl, bw_c1 (List.mem_of_getElem? (i := 1) (by decide +kernel)) rfl, bw_c6 (List.mem_of_getElem? (i := 79) rfl) rfl, by decide, by decide⟩
theorem pd_X11_count : (parseMethodDescriptor yX11_count.desc).map (fun d => d.parameters.length) = some 1 := by decide +kernel
set_option maxRecDepth 20000 in
theorem mk_X11_count : MK yX11_count cX11_count 2 (some .int) := ⟨bw_c6 (List.mem_of_getElem? (i := 90) (by decide +kernel)) rfl, bw_c6 (List.mem_of_getElem? (i := 91) (by decide +kernel)) rfl, bw_c1 (List.mem_of_getElem? (i := 1) (by decide +kernel)) rfl, bw_c6 (List.mem_of_getElem? (i := 92) rfl) rfl, by decide, by decide⟩
theorem pd_X11_startHouse : (parseMethodDescriptor yX11_startHouse.desc).map (fun d => d.parameters.length) = some 1 := by decide +kernel
set_option maxRecDepth 20000 in
theorem mk_X11_startHouse : MK yX11_startHouse cX11_startHouse 2 none := ⟨bw_c3 (List.mem_of_getElem? (i := 13) (by decide +kernel)) rfl, bw_p (List.mem_of_getElem? (i := 0) (by decide +kernel)) rfl, bw_c1 (List.mem_of_getElem? (i := 1) (by decide +kernel)) rfl, bw_c3 (List.mem_of_getElem? (i := 14) rfl) rfl, by decide, by decide⟩
theorem pd_X11_startCircuit : (parseMethodDescriptor yX11_startCircuit.desc).map (fun d => d.parameters.length) = some 0 := by decide +kernel
set_option maxRecDepth 20000 in
theorem mk_X11_startCircuit : MK yX11_startCircuit cX11_startCircuit 1 none := ⟨bw_c3 (List.mem_of_getElem? (i := 24) (by decide +kernel)) rfl, bw_p (List.mem_of_getElem? (i := 1) (by decide +kernel)) rfl, bw_c1 (List.mem_of_getElem? (i := 1) (by decide +kernel)) rfl, bw_c3 (List.mem_of_getElem? (i := 25) rfl) rfl, by decide, by decide⟩
theorem pd_X11_isFloor : (parseMethodDescriptor yX11_isFloor.desc).map (fun d => d.parameters.length) = some 1 := by decide +kernel
set_option maxRecDepth 20000 in
theorem mk_X11_isFloor : MK yX11_isFloor cX11_isFloor 2 (some .boolean) := ⟨bw_c4 (List.mem_of_getElem? (i := 185) (by decide +kernel)) rfl, bw_p (List.mem_of_getElem? (i := 25) (by decide +kernel)) rfl, bw_c1 (List.mem_of_getElem? (i := 1) (by decide +kernel)) rfl, bw_c4 (List.mem_of_getElem? (i := 186) rfl) rfl, by decide, by decide⟩
theorem pd_X11_isPatience : (parseMethodDescriptor yX11_isPatience.desc).map (fun d => d.parameters.length) = some 1 := by decide +kernel
set_option maxRecDepth 20000 in
theorem ms_X11_isPatience : MS yX11_isPatience cX11_isPatience 1 (some .boolean) := ⟨bw_c4 (List.mem_of_getElem? (i := 188) (by decide +kernel)) rfl, bw_c1 (List.mem_of_getElem? (i := 1) (by decide +kernel)) rfl, bw_c4 (List.mem_of_getElem? (i := 189) rfl) rfl, by decide, by decide⟩
theorem pd_X11_areLamps : (parseMethodDescriptor yX11_areLamps.desc).map (fun d => d.parameters.length) = some 1 := by decide +kernel
set_option maxRecDepth 20000 in
theorem ms_X11_areLamps : MS yX11_areLamps cX11_areLamps 1 (some .boolean) := ⟨bw_c4 (List.mem_of_getElem? (i := 222) (by decide +kernel)) rfl, bw_c1 (List.mem_of_getElem? (i := 1) (by decide +kernel)) rfl, bw_c4 (List.mem_of_getElem? (i := 223) rfl) rfl, by decide, by decide⟩
theorem pd_X11_floorOf : (parseMethodDescriptor yX11_floorOf.desc).map (fun d => d.parameters.length) = some 1 := by decide +kernel
set_option maxRecDepth 20000 in
theorem ms_X11_floorOf : MS yX11_floorOf cX11_floorOf 1 (some .int) := ⟨bw_c4 (List.mem_of_getElem? (i := 113) (by decide +kernel)) rfl, bw_c1 (List.mem_of_getElem? (i := 1) (by decide +kernel)) rfl, bw_c4 (List.mem_of_getElem? (i := 114) rfl) rfl, by decide, by decide⟩
theorem pd_X11_doorOf : (parseMethodDescriptor yX11_doorOf.desc).map (fun d => d.parameters.length) = some 1 := by decide +kernel
set_option maxRecDepth 20000 in
theorem ms_X11_doorOf : MS yX11_doorOf cX11_doorOf 1 (some .int) := ⟨bw_c4 (List.mem_of_getElem? (i := 116) (by decide +kernel)) rfl, bw_c1 (List.mem_of_getElem? (i := 1) (by decide +kernel)) rfl, bw_c4 (List.mem_of_getElem? (i := 117) rfl) rfl, by decide, by decide⟩
theorem pd_X12_init : (parseMethodDescriptor yX12_init.desc).map (fun d => d.parameters.length) = some 0 := by decide +kernel
theorem pd_X12_thrown : (parseMethodDescriptor yX12_thrown.desc).map (fun d => d.parameters.length) = some 0 := by decide +kernel
set_option maxRecDepth 20000 in
theorem mk_X12_thrown : MK yX12_thrown cX12_thrown 1 (some .int) := ⟨bw_c7 (List.mem_of_getElem? (i := 181) (by decide +kernel)) rfl, bw_c7 (List.mem_of_getElem? (i := 182) (by decide +kernel)) rfl, bw_c1 (List.mem_of_getElem? (i := 14) (by decide +kernel)) rfl, bw_c7 (List.mem_of_getElem? (i := 183) rfl) rfl, by decide, by decide⟩
theorem pd_X12_within : (parseMethodDescriptor yX12_within.desc).map (fun d => d.parameters.length) = some 3 := by decide +kernel
set_option maxRecDepth 20000 in
theorem ms_X12_within : MS yX12_within cX12_within 3 (some .boolean) := ⟨bw_c7 (List.mem_of_getElem? (i := 189) (by decide +kernel)) rfl, bw_c1 (List.mem_of_getElem? (i := 14) (by decide +kernel)) rfl, bw_c7 (List.mem_of_getElem? (i := 190) rfl) rfl, by decide, by decide⟩
theorem pd_X12_isFloor : (parseMethodDescriptor yX12_isFloor.desc).map (fun d => d.parameters.length) = some 1 := by decide +kernel
set_option maxRecDepth 20000 in
theorem mk_X12_isFloor : MK yX12_isFloor cX12_isFloor 2 (some .boolean) := ⟨bw_c8 (List.mem_of_getElem? (i := 52) (by decide +kernel)) rfl, bw_p (List.mem_of_getElem? (i := 72) (by decide +kernel)) rfl, bw_c1 (List.mem_of_getElem? (i := 14) (by decide +kernel)) rfl, bw_c8 (List.mem_of_getElem? (i := 53) rfl) rfl, by decide, by decide⟩
theorem pd_X12_floors : (parseMethodDescriptor yX12_floors.desc).map (fun d => d.parameters.length) = some 1 := by decide +kernel
set_option maxRecDepth 20000 in
theorem mk_X12_floors : MK yX12_floors cX12_floors 3 (some .boolean) := ⟨bw_c7 (List.mem_of_getElem? (i := 185) (by decide +kernel)) rfl, bw_c7 (List.mem_of_getElem? (i := 186) (by decide +kernel)) rfl, bw_c1 (List.mem_of_getElem? (i := 14) (by decide +kernel)) rfl, bw_c7 (List.mem_of_getElem? (i := 187) rfl) rfl, by decide, by decide⟩
theorem pd_X12_feed : (parseMethodDescriptor yX12_feed.desc).map (fun d => d.parameters.length) = some 3 := by decide +kernel
set_option maxRecDepth 20000 in
theorem mk_X12_feed : MK yX12_feed cX12_feed 11 (some .int) := ⟨bw_c7 (List.mem_of_getElem? (i := 200) (by decide +kernel)) rfl, bw_c7 (List.mem_of_getElem? (i := 201) (by decide +kernel)) rfl, bw_c1 (List.mem_of_getElem? (i := 14) (by decide +kernel)) rfl, bw_c7 (List.mem_of_getElem? (i := 202) rfl) rfl, by decide, by decide⟩
theorem pd_X12_signAt : (parseMethodDescriptor yX12_signAt.desc).map (fun d => d.parameters.length) = some 1 := by decide +kernel
set_option maxRecDepth 20000 in
theorem mk_X12_signAt : MK yX12_signAt cX12_signAt 2 (some .int) := ⟨bw_c7 (List.mem_of_getElem? (i := 218) (by decide +kernel)) rfl, bw_p (List.mem_of_getElem? (i := 62) (by decide +kernel)) rfl, bw_c1 (List.mem_of_getElem? (i := 14) (by decide +kernel)) rfl, bw_c7 (List.mem_of_getElem? (i := 219) rfl) rfl, by decide, by decide⟩
theorem pd_X12_nextToken : (parseMethodDescriptor yX12_nextToken.desc).map (fun d => d.parameters.length) = some 0 := by decide +kernel
set_option maxRecDepth 20000 in
theorem mk_X12_nextToken : MK yX12_nextToken cX12_nextToken 2 none := ⟨bw_c7 (List.mem_of_getElem? (i := 214) (by decide +kernel)) rfl, bw_p (List.mem_of_getElem? (i := 61) (by decide +kernel)) rfl, bw_c1 (List.mem_of_getElem? (i := 14) (by decide +kernel)) rfl, bw_c7 (List.mem_of_getElem? (i := 215) rfl) rfl, by decide, by decide⟩
theorem pd_X12_isWord : (parseMethodDescriptor yX12_isWord.desc).map (fun d => d.parameters.length) = some 1 := by decide +kernel
set_option maxRecDepth 20000 in
theorem mk_X12_isWord : MK yX12_isWord cX12_isWord 3 (some .boolean) := ⟨bw_c7 (List.mem_of_getElem? (i := 233) (by decide +kernel)) rfl, bw_p (List.mem_of_getElem? (i := 65) (by decide +kernel)) rfl, bw_c1 (List.mem_of_getElem? (i := 14) (by decide +kernel)) rfl, bw_c7 (List.mem_of_getElem? (i := 234) rfl) rfl, by decide, by decide⟩
theorem pd_X12_isSign : (parseMethodDescriptor yX12_isSign.desc).map (fun d => d.parameters.length) = some 1 := by decide +kernel
set_option maxRecDepth 20000 in
theorem mk_X12_isSign : MK yX12_isSign cX12_isSign 2 (some .boolean) := ⟨bw_c8 (List.mem_of_getElem? (i := 7) (by decide +kernel)) rfl, bw_p (List.mem_of_getElem? (i := 67) (by decide +kernel)) rfl, bw_c1 (List.mem_of_getElem? (i := 14) (by decide +kernel)) rfl, bw_c8 (List.mem_of_getElem? (i := 8) rfl) rfl, by decide, by decide⟩
theorem pd_X12_fails : (parseMethodDescriptor yX12_fails.desc).map (fun d => d.parameters.length) = some 1 := by decide +kernel
set_option maxRecDepth 20000 in
theorem mk_X12_fails : MK yX12_fails cX12_fails 2 (some .boolean) := ⟨bw_c8 (List.mem_of_getElem? (i := 2) (by decide +kernel)) rfl, bw_p (List.mem_of_getElem? (i := 66) (by decide +kernel)) rfl, bw_c1 (List.mem_of_getElem? (i := 14) (by decide +kernel)) rfl, bw_c8 (List.mem_of_getElem? (i := 3) rfl) rfl, by decide, by decide⟩
theorem pd_X12_puts : (parseMethodDescriptor yX12_puts.desc).map (fun d => d.parameters.length) = some 1 := by decide +kernel
set_option maxRecDepth 20000 in
theorem mk_X12_puts : MK yX12_puts cX12_puts 2 none := ⟨bw_c8 (List.mem_of_getElem? (i := 34) (by decide +kernel)) rfl, bw_p (List.mem_of_getElem? (i := 70) (by decide +kernel)) rfl, bw_c1 (List.mem_of_getElem? (i := 14) (by decide +kernel)) rfl, bw_c8 (List.mem_of_getElem? (i := 35) rfl) rfl, by decide, by decide⟩
theorem pd_X12_fact : (parseMethodDescriptor yX12_fact.desc).map (fun d => d.parameters.length) = some 0 := by decide +kernel
set_option maxRecDepth 20000 in
theorem mk_X12_fact : MK yX12_fact cX12_fact 1 (some .int) := ⟨bw_c8 (List.mem_of_getElem? (i := 15) (by decide +kernel)) rfl, bw_p (List.mem_of_getElem? (i := 69) (by decide +kernel)) rfl, bw_c1 (List.mem_of_getElem? (i := 14) (by decide +kernel)) rfl, bw_c8 (List.mem_of_getElem? (i := 16) rfl) rfl, by decide, by decide⟩
theorem pd_X12_readsFact : (parseMethodDescriptor yX12_readsFact.desc).map (fun d => d.parameters.length) = some 1 := by decide +kernel
set_option maxRecDepth 20000 in
theorem mk_X12_readsFact : MK yX12_readsFact cX12_readsFact 2 (some .boolean) := ⟨bw_c8 (List.mem_of_getElem? (i := 38) (by decide +kernel)) rfl, bw_p (List.mem_of_getElem? (i := 71) (by decide +kernel)) rfl, bw_c1 (List.mem_of_getElem? (i := 14) (by decide +kernel)) rfl, bw_c8 (List.mem_of_getElem? (i := 39) rfl) rfl, by decide, by decide⟩
theorem pd_X12_reads : (parseMethodDescriptor yX12_reads.desc).map (fun d => d.parameters.length) = some 0 := by decide +kernel
set_option maxRecDepth 20000 in
theorem mk_X12_reads : MK yX12_reads cX12_reads 6 (some .boolean) := ⟨bw_c8 (List.mem_of_getElem? (i := 11) (by decide +kernel)) rfl, bw_p (List.mem_of_getElem? (i := 68) (by decide +kernel)) rfl, bw_c1 (List.mem_of_getElem? (i := 14) (by decide +kernel)) rfl, bw_c8 (List.mem_of_getElem? (i := 12) rfl) rfl, by decide, by decide⟩
theorem pd_X12_readsLine : (parseMethodDescriptor yX12_readsLine.desc).map (fun d => d.parameters.length) = some 1 := by decide +kernel
set_option maxRecDepth 20000 in
theorem mk_X12_readsLine : MK yX12_readsLine cX12_readsLine 4 (some .int) := ⟨bw_c7 (List.mem_of_getElem? (i := 228) (by decide +kernel)) rfl, bw_p (List.mem_of_getElem? (i := 64) (by decide +kernel)) rfl, bw_c1 (List.mem_of_getElem? (i := 14) (by decide +kernel)) rfl, bw_c7 (List.mem_of_getElem? (i := 229) rfl) rfl, by decide, by decide⟩
theorem pd_X12_readsCircuit : (parseMethodDescriptor yX12_readsCircuit.desc).map (fun d => d.parameters.length) = some 0 := by decide +kernel
set_option maxRecDepth 20000 in
theorem mk_X12_readsCircuit : MK yX12_readsCircuit cX12_readsCircuit 3 (some .boolean) := ⟨bw_c7 (List.mem_of_getElem? (i := 224) (by decide +kernel)) rfl, bw_p (List.mem_of_getElem? (i := 63) (by decide +kernel)) rfl, bw_c1 (List.mem_of_getElem? (i := 14) (by decide +kernel)) rfl, bw_c7 (List.mem_of_getElem? (i := 225) rfl) rfl, by decide, by decide⟩
theorem pd_X12_takesTape : (parseMethodDescriptor yX12_takesTape.desc).map (fun d => d.parameters.length) = some 0 := by decide +kernel
set_option maxRecDepth 20000 in
theorem mk_X12_takesTape : MK yX12_takesTape cX12_takesTape 1 none := ⟨bw_c7 (List.mem_of_getElem? (i := 210) (by decide +kernel)) rfl, bw_p (List.mem_of_getElem? (i := 60) (by decide +kernel)) rfl, bw_c1 (List.mem_of_getElem? (i := 14) (by decide +kernel)) rfl, bw_c7 (List.mem_of_getElem? (i := 211) rfl) rfl, by decide, by decide⟩
theorem pd_X12_circuit : (parseMethodDescriptor yX12_circuit.desc).map (fun d => d.parameters.length) = some 0 := by decide +kernel
set_option maxRecDepth 20000 in
theorem mk_X12_circuit : MK yX12_circuit cX12_circuit 2 (some .int) := ⟨bw_c7 (List.mem_of_getElem? (i := 205) (by decide +kernel)) rfl, bw_c7 (List.mem_of_getElem? (i := 206) (by decide +kernel)) rfl, bw_c1 (List.mem_of_getElem? (i := 14) (by decide +kernel)) rfl, bw_c7 (List.mem_of_getElem? (i := 207) rfl) rfl, by decide, by decide⟩
theorem pd_X12_rule : (parseMethodDescriptor yX12_rule.desc).map (fun d => d.parameters.length) = some 0 := by decide +kernel
set_option maxRecDepth 20000 in
theorem mk_X12_rule : MK yX12_rule cX12_rule 2 (some .int) := ⟨bw_c8 (List.mem_of_getElem? (i := 43) (by decide +kernel)) rfl, bw_c8 (List.mem_of_getElem? (i := 44) (by decide +kernel)) rfl, bw_c1 (List.mem_of_getElem? (i := 14) (by decide +kernel)) rfl, bw_c8 (List.mem_of_getElem? (i := 45) rfl) rfl, by decide, by decide⟩
theorem pd_X12_opens : (parseMethodDescriptor yX12_opens.desc).map (fun d => d.parameters.length) = some 1 := by decide +kernel
set_option maxRecDepth 20000 in
theorem mk_X12_opens : MK yX12_opens cX12_opens 2 none := ⟨bw_c8 (List.mem_of_getElem? (i := 78) (by decide +kernel)) rfl, bw_p (List.mem_of_getElem? (i := 77) (by decide +kernel)) rfl, bw_c1 (List.mem_of_getElem? (i := 14) (by decide +kernel)) rfl, bw_c8 (List.mem_of_getElem? (i := 79) rfl) rfl, by decide, by decide⟩
theorem pd_X12_sums : (parseMethodDescriptor yX12_sums.desc).map (fun d => d.parameters.length) = some 1 := by decide +kernel
set_option maxRecDepth 20000 in
theorem mk_X12_sums : MK yX12_sums cX12_sums 2 none := ⟨bw_c8 (List.mem_of_getElem? (i := 82) (by decide +kernel)) rfl, bw_p (List.mem_of_getElem? (i := 78) (by decide +kernel)) rfl, bw_c1 (List.mem_of_getElem? (i := 14) (by decide +kernel)) rfl, bw_c8 (List.mem_of_getElem? (i := 83) rfl) rfl, by decide, by decide⟩
theorem pd_X12_holds : (parseMethodDescriptor yX12_holds.desc).map (fun d => d.parameters.length) = some 1 := by decide +kernel
set_option maxRecDepth 20000 in
theorem mk_X12_holds : MK yX12_holds cX12_holds 3 none := ⟨bw_c8 (List.mem_of_getElem? (i := 86) (by decide +kernel)) rfl, bw_p (List.mem_of_getElem? (i := 79) (by decide +kernel)) rfl, bw_c1 (List.mem_of_getElem? (i := 14) (by decide +kernel)) rfl, bw_c8 (List.mem_of_getElem? (i := 87) rfl) rfl, by decide, by decide⟩
theorem pd_X12_worth : (parseMethodDescriptor yX12_worth.desc).map (fun d => d.parameters.length) = some 1 := by decide +kernel
set_option maxRecDepth 20000 in
theorem mk_X12_worth : MK yX12_worth cX12_worth 6 (some .int) := ⟨bw_c8 (List.mem_of_getElem? (i := 74) (by decide +kernel)) rfl, bw_p (List.mem_of_getElem? (i := 76) (by decide +kernel)) rfl, bw_c1 (List.mem_of_getElem? (i := 14) (by decide +kernel)) rfl, bw_c8 (List.mem_of_getElem? (i := 75) rfl) rfl, by decide, by decide⟩
theorem pd_X12_begins : (parseMethodDescriptor yX12_begins.desc).map (fun d => d.parameters.length) = some 0 := by decide +kernel
set_option maxRecDepth 20000 in
theorem mk_X12_begins : MK yX12_begins cX12_begins 1 none := ⟨bw_c7 (List.mem_of_getElem? (i := 193) (by decide +kernel)) rfl, bw_p (List.mem_of_getElem? (i := 58) (by decide +kernel)) rfl, bw_c1 (List.mem_of_getElem? (i := 14) (by decide +kernel)) rfl, bw_c7 (List.mem_of_getElem? (i := 194) rfl) rfl, by decide, by decide⟩
theorem pd_X12_floorOf : (parseMethodDescriptor yX12_floorOf.desc).map (fun d => d.parameters.length) = some 1 := by decide +kernel
set_option maxRecDepth 20000 in
theorem ms_X12_floorOf : MS yX12_floorOf cX12_floorOf 1 (some .int) := ⟨bw_c8 (List.mem_of_getElem? (i := 66) (by decide +kernel)) rfl, bw_c1 (List.mem_of_getElem? (i := 14) (by decide +kernel)) rfl, bw_c8 (List.mem_of_getElem? (i := 67) rfl) rfl, by decide, by decide⟩
theorem pd_X12_isOpen : (parseMethodDescriptor yX12_isOpen.desc).map (fun d => d.parameters.length) = some 1 := by decide +kernel
set_option maxRecDepth 20000 in
theorem ms_X12_isOpen : MS yX12_isOpen cX12_isOpen 1 (some .boolean) := ⟨bw_c8 (List.mem_of_getElem? (i := 63) (by decide +kernel)) rfl, bw_c1 (List.mem_of_getElem? (i := 14) (by decide +kernel)) rfl, bw_c8 (List.mem_of_getElem? (i := 64) rfl) rfl, by decide, by decide⟩
theorem pd_X12_isSo : (parseMethodDescriptor yX12_isSo.desc).map (fun d => d.parameters.length) = some 1 := by decide +kernel
set_option maxRecDepth 20000 in
theorem mk_X12_isSo : MK yX12_isSo cX12_isSo 2 (some .boolean) := ⟨bw_c8 (List.mem_of_getElem? (i := 70) (by decide +kernel)) rfl, bw_p (List.mem_of_getElem? (i := 75) (by decide +kernel)) rfl, bw_c1 (List.mem_of_getElem? (i := 14) (by decide +kernel)) rfl, bw_c8 (List.mem_of_getElem? (i := 71) rfl) rfl, by decide, by decide⟩
theorem pd_X12_sets : (parseMethodDescriptor yX12_sets.desc).map (fun d => d.parameters.length) = some 3 := by decide +kernel
set_option maxRecDepth 20000 in
theorem mk_X12_sets : MK yX12_sets cX12_sets 5 none := ⟨bw_c8 (List.mem_of_getElem? (i := 60) (by decide +kernel)) rfl, bw_p (List.mem_of_getElem? (i := 74) (by decide +kernel)) rfl, bw_c1 (List.mem_of_getElem? (i := 14) (by decide +kernel)) rfl, bw_c8 (List.mem_of_getElem? (i := 61) rfl) rfl, by decide, by decide⟩
theorem pd_X12_behind : (parseMethodDescriptor yX12_behind.desc).map (fun d => d.parameters.length) = some 2 := by decide +kernel
set_option maxRecDepth 20000 in
theorem mk_X12_behind : MK yX12_behind cX12_behind 10 (some .int) := ⟨bw_c8 (List.mem_of_getElem? (i := 56) (by decide +kernel)) rfl, bw_p (List.mem_of_getElem? (i := 73) (by decide +kernel)) rfl, bw_c1 (List.mem_of_getElem? (i := 14) (by decide +kernel)) rfl, bw_c8 (List.mem_of_getElem? (i := 57) rfl) rfl, by decide, by decide⟩
theorem pd_X12_lampsOf : (parseMethodDescriptor yX12_lampsOf.desc).map (fun d => d.parameters.length) = some 1 := by decide +kernel
set_option maxRecDepth 20000 in
theorem mk_X12_lampsOf : MK yX12_lampsOf cX12_lampsOf 4 (some .int) := ⟨bw_c8 (List.mem_of_getElem? (i := 90) (by decide +kernel)) rfl, bw_p (List.mem_of_getElem? (i := 80) (by decide +kernel)) rfl, bw_c1 (List.mem_of_getElem? (i := 14) (by decide +kernel)) rfl, bw_c8 (List.mem_of_getElem? (i := 91) rfl) rfl, by decide, by decide⟩
theorem pd_X12_press : (parseMethodDescriptor yX12_press.desc).map (fun d => d.parameters.length) = some 1 := by decide +kernel
set_option maxRecDepth 20000 in
theorem mk_X12_press : MK yX12_press cX12_press 2 (some .int) := ⟨bw_c8 (List.mem_of_getElem? (i := 47) (by decide +kernel)) rfl, bw_c8 (List.mem_of_getElem? (i := 48) (by decide +kernel)) rfl, bw_c1 (List.mem_of_getElem? (i := 14) (by decide +kernel)) rfl, bw_c8 (List.mem_of_getElem? (i := 49) rfl) rfl, by decide, by decide⟩
theorem pd_X12_again : (parseMethodDescriptor yX12_again.desc).map (fun d => d.parameters.length) = some 0 := by decide +kernel
set_option maxRecDepth 20000 in
theorem mk_X12_again : MK yX12_again cX12_again 1 (some .boolean) := ⟨bw_c8 (List.mem_of_getElem? (i := 93) (by decide +kernel)) rfl, bw_c8 (List.mem_of_getElem? (i := 94) (by decide +kernel)) rfl, bw_c1 (List.mem_of_getElem? (i := 14) (by decide +kernel)) rfl, bw_c8 (List.mem_of_getElem? (i := 95) rfl) rfl, by decide, by decide⟩
theorem pd_X12_look : (parseMethodDescriptor yX12_look.desc).map (fun d => d.parameters.length) = some 1 := by decide +kernel
set_option maxRecDepth 20000 in
theorem mk_X12_look : MK yX12_look cX12_look 2 (some .int) := ⟨bw_c8 (List.mem_of_getElem? (i := 97) (by decide +kernel)) rfl, bw_c8 (List.mem_of_getElem? (i := 98) (by decide +kernel)) rfl, bw_c1 (List.mem_of_getElem? (i := 14) (by decide +kernel)) rfl, bw_c8 (List.mem_of_getElem? (i := 99) rfl) rfl, by decide, by decide⟩
theorem pd_X12_meets : (parseMethodDescriptor yX12_meets.desc).map (fun d => d.parameters.length) = some 4 := by decide +kernel
set_option maxRecDepth 20000 in
theorem mk_X12_meets : MK yX12_meets cX12_meets 5 none := ⟨bw_c8 (List.mem_of_getElem? (i := 118) (by decide +kernel)) rfl, bw_p (List.mem_of_getElem? (i := 84) (by decide +kernel)) rfl, bw_c1 (List.mem_of_getElem? (i := 14) (by decide +kernel)) rfl, bw_c8 (List.mem_of_getElem? (i := 119) rfl) rfl, by decide, by decide⟩
theorem pd_X12_goesThrough : (parseMethodDescriptor yX12_goesThrough.desc).map (fun d => d.parameters.length) = some 0 := by decide +kernel
set_option maxRecDepth 20000 in
theorem mk_X12_goesThrough : MK yX12_goesThrough cX12_goesThrough 5 none := ⟨bw_c8 (List.mem_of_getElem? (i := 114) (by decide +kernel)) rfl, bw_p (List.mem_of_getElem? (i := 83) (by decide +kernel)) rfl, bw_c1 (List.mem_of_getElem? (i := 14) (by decide +kernel)) rfl, bw_c8 (List.mem_of_getElem? (i := 115) rfl) rfl, by decide, by decide⟩
theorem pd_X12_rowTo : (parseMethodDescriptor yX12_rowTo.desc).map (fun d => d.parameters.length) = some 2 := by decide +kernel
set_option maxRecDepth 20000 in
theorem mk_X12_rowTo : MK yX12_rowTo cX12_rowTo 4 (some .int) := ⟨bw_c8 (List.mem_of_getElem? (i := 126) (by decide +kernel)) rfl, bw_p (List.mem_of_getElem? (i := 85) (by decide +kernel)) rfl, bw_c1 (List.mem_of_getElem? (i := 14) (by decide +kernel)) rfl, bw_c8 (List.mem_of_getElem? (i := 127) rfl) rfl, by decide, by decide⟩
theorem pd_X12_isNever : (parseMethodDescriptor yX12_isNever.desc).map (fun d => d.parameters.length) = some 1 := by decide +kernel
set_option maxRecDepth 20000 in
theorem mk_X12_isNever : MK yX12_isNever cX12_isNever 2 (some .boolean) := ⟨bw_c8 (List.mem_of_getElem? (i := 106) (by decide +kernel)) rfl, bw_p (List.mem_of_getElem? (i := 81) (by decide +kernel)) rfl, bw_c1 (List.mem_of_getElem? (i := 14) (by decide +kernel)) rfl, bw_c8 (List.mem_of_getElem? (i := 107) rfl) rfl, by decide, by decide⟩
theorem pd_X12_breaks : (parseMethodDescriptor yX12_breaks.desc).map (fun d => d.parameters.length) = some 1 := by decide +kernel
set_option maxRecDepth 20000 in
theorem mk_X12_breaks : MK yX12_breaks cX12_breaks 3 (some .int) := ⟨bw_c8 (List.mem_of_getElem? (i := 110) (by decide +kernel)) rfl, bw_p (List.mem_of_getElem? (i := 82) (by decide +kernel)) rfl, bw_c1 (List.mem_of_getElem? (i := 14) (by decide +kernel)) rfl, bw_c8 (List.mem_of_getElem? (i := 111) rfl) rfl, by decide, by decide⟩
theorem pd_X12_never : (parseMethodDescriptor yX12_never.desc).map (fun d => d.parameters.length) = some 2 := by decide +kernel
set_option maxRecDepth 20000 in
theorem mk_X12_never : MK yX12_never cX12_never 4 (some .int) := ⟨bw_c8 (List.mem_of_getElem? (i := 101) (by decide +kernel)) rfl, bw_c8 (List.mem_of_getElem? (i := 102) (by decide +kernel)) rfl, bw_c1 (List.mem_of_getElem? (i := 14) (by decide +kernel)) rfl, bw_c8 (List.mem_of_getElem? (i := 103) rfl) rfl, by decide, by decide⟩
theorem pd_X12_neverRow : (parseMethodDescriptor yX12_neverRow.desc).map (fun d => d.parameters.length) = some 2 := by decide +kernel
set_option maxRecDepth 20000 in
theorem mk_X12_neverRow : MK yX12_neverRow cX12_neverRow 3 (some .int) := ⟨bw_c8 (List.mem_of_getElem? (i := 121) (by decide +kernel)) rfl, bw_c8 (List.mem_of_getElem? (i := 122) (by decide +kernel)) rfl, bw_c1 (List.mem_of_getElem? (i := 14) (by decide +kernel)) rfl, bw_c8 (List.mem_of_getElem? (i := 123) rfl) rfl, by decide, by decide⟩
theorem pd_X12_forgotten : (parseMethodDescriptor yX12_forgotten.desc).map (fun d => d.parameters.length) = some 2 := by decide +kernel
set_option maxRecDepth 20000 in
theorem mk_X12_forgotten : MK yX12_forgotten cX12_forgotten 7 (some .int) := ⟨bw_c8 (List.mem_of_getElem? (i := 134) (by decide +kernel)) rfl, bw_p (List.mem_of_getElem? (i := 86) (by decide +kernel)) rfl, bw_c1 (List.mem_of_getElem? (i := 14) (by decide +kernel)) rfl, bw_c8 (List.mem_of_getElem? (i := 135) rfl) rfl, by decide, by decide⟩
theorem pd_X12_forgets : (parseMethodDescriptor yX12_forgets.desc).map (fun d => d.parameters.length) = some 3 := by decide +kernel
set_option maxRecDepth 20000 in
theorem mk_X12_forgets : MK yX12_forgets cX12_forgets 5 (some .int) := ⟨bw_c8 (List.mem_of_getElem? (i := 129) (by decide +kernel)) rfl, bw_c8 (List.mem_of_getElem? (i := 130) (by decide +kernel)) rfl, bw_c1 (List.mem_of_getElem? (i := 14) (by decide +kernel)) rfl, bw_c8 (List.mem_of_getElem? (i := 131) rfl) rfl, by decide, by decide⟩
theorem pd_X12_forgetsRow : (parseMethodDescriptor yX12_forgetsRow.desc).map (fun d => d.parameters.length) = some 3 := by decide +kernel
set_option maxRecDepth 20000 in
theorem mk_X12_forgetsRow : MK yX12_forgetsRow cX12_forgetsRow 4 (some .int) := ⟨bw_c8 (List.mem_of_getElem? (i := 137) (by decide +kernel)) rfl, bw_c8 (List.mem_of_getElem? (i := 138) (by decide +kernel)) rfl, bw_c1 (List.mem_of_getElem? (i := 14) (by decide +kernel)) rfl, bw_c8 (List.mem_of_getElem? (i := 139) rfl) rfl, by decide, by decide⟩
theorem pd_X12_stuck : (parseMethodDescriptor yX12_stuck.desc).map (fun d => d.parameters.length) = some 1 := by decide +kernel
set_option maxRecDepth 20000 in
theorem mk_X12_stuck : MK yX12_stuck cX12_stuck 3 (some .int) := ⟨bw_c8 (List.mem_of_getElem? (i := 141) (by decide +kernel)) rfl, bw_c8 (List.mem_of_getElem? (i := 142) (by decide +kernel)) rfl, bw_c1 (List.mem_of_getElem? (i := 14) (by decide +kernel)) rfl, bw_c8 (List.mem_of_getElem? (i := 143) rfl) rfl, by decide, by decide⟩
theorem pd_X12_narrows : (parseMethodDescriptor yX12_narrows.desc).map (fun d => d.parameters.length) = some 3 := by decide +kernel
set_option maxRecDepth 20000 in
theorem mk_X12_narrows : MK yX12_narrows cX12_narrows 8 none := ⟨bw_c8 (List.mem_of_getElem? (i := 150) (by decide +kernel)) rfl, bw_p (List.mem_of_getElem? (i := 87) (by decide +kernel)) rfl, bw_c1 (List.mem_of_getElem? (i := 14) (by decide +kernel)) rfl, bw_c8 (List.mem_of_getElem? (i := 151) rfl) rfl, by decide, by decide⟩
theorem pd_X12_tried : (parseMethodDescriptor yX12_tried.desc).map (fun d => d.parameters.length) = some 2 := by decide +kernel
set_option maxRecDepth 20000 in
theorem mk_X12_tried : MK yX12_tried cX12_tried 4 (some .int) := ⟨bw_c8 (List.mem_of_getElem? (i := 145) (by decide +kernel)) rfl, bw_c8 (List.mem_of_getElem? (i := 146) (by decide +kernel)) rfl, bw_c1 (List.mem_of_getElem? (i := 14) (by decide +kernel)) rfl, bw_c8 (List.mem_of_getElem? (i := 147) rfl) rfl, by decide, by decide⟩
theorem pd_X12_thought : (parseMethodDescriptor yX12_thought.desc).map (fun d => d.parameters.length) = some 1 := by decide +kernel
set_option maxRecDepth 20000 in
theorem mk_X12_thought : MK yX12_thought cX12_thought 8 (some .int) := ⟨bw_c8 (List.mem_of_getElem? (i := 153) (by decide +kernel)) rfl, bw_c8 (List.mem_of_getElem? (i := 154) (by decide +kernel)) rfl, bw_c1 (List.mem_of_getElem? (i := 14) (by decide +kernel)) rfl, bw_c8 (List.mem_of_getElem? (i := 155) rfl) rfl, by decide, by decide⟩
theorem pd_X12_isOne : (parseMethodDescriptor yX12_isOne.desc).map (fun d => d.parameters.length) = some 1 := by decide +kernel
set_option maxRecDepth 20000 in
theorem mk_X12_isOne : MK yX12_isOne cX12_isOne 3 (some .boolean) := ⟨bw_c8 (List.mem_of_getElem? (i := 162) (by decide +kernel)) rfl, bw_p (List.mem_of_getElem? (i := 88) (by decide +kernel)) rfl, bw_c1 (List.mem_of_getElem? (i := 14) (by decide +kernel)) rfl, bw_c8 (List.mem_of_getElem? (i := 163) rfl) rfl, by decide, by decide⟩
theorem pd_X12_tells : (parseMethodDescriptor yX12_tells.desc).map (fun d => d.parameters.length) = some 3 := by decide +kernel
set_option maxRecDepth 20000 in
theorem mk_X12_tells : MK yX12_tells cX12_tells 7 (some .boolean) := ⟨bw_c8 (List.mem_of_getElem? (i := 166) (by decide +kernel)) rfl, bw_p (List.mem_of_getElem? (i := 89) (by decide +kernel)) rfl, bw_c1 (List.mem_of_getElem? (i := 14) (by decide +kernel)) rfl, bw_c8 (List.mem_of_getElem? (i := 167) rfl) rfl, by decide, by decide⟩
theorem pd_X12_isTold : (parseMethodDescriptor yX12_isTold.desc).map (fun d => d.parameters.length) = some 2 := by decide +kernel
set_option maxRecDepth 20000 in
theorem mk_X12_isTold : MK yX12_isTold cX12_isTold 4 (some .boolean) := ⟨bw_c8 (List.mem_of_getElem? (i := 170) (by decide +kernel)) rfl, bw_p (List.mem_of_getElem? (i := 90) (by decide +kernel)) rfl, bw_c1 (List.mem_of_getElem? (i := 14) (by decide +kernel)) rfl, bw_c8 (List.mem_of_getElem? (i := 171) rfl) rfl, by decide, by decide⟩
theorem pd_X12_tests : (parseMethodDescriptor yX12_tests.desc).map (fun d => d.parameters.length) = some 1 := by decide +kernel
set_option maxRecDepth 20000 in
theorem mk_X12_tests : MK yX12_tests cX12_tests 4 (some .int) := ⟨bw_c8 (List.mem_of_getElem? (i := 157) (by decide +kernel)) rfl, bw_c8 (List.mem_of_getElem? (i := 158) (by decide +kernel)) rfl, bw_c1 (List.mem_of_getElem? (i := 14) (by decide +kernel)) rfl, bw_c8 (List.mem_of_getElem? (i := 159) rfl) rfl, by decide, by decide⟩
theorem pd_X12_clears : (parseMethodDescriptor yX12_clears.desc).map (fun d => d.parameters.length) = some 0 := by decide +kernel
set_option maxRecDepth 20000 in
theorem mk_X12_clears : MK yX12_clears cX12_clears 1 none := ⟨bw_c7 (List.mem_of_getElem? (i := 197) (by decide +kernel)) rfl, bw_p (List.mem_of_getElem? (i := 59) (by decide +kernel)) rfl, bw_c1 (List.mem_of_getElem? (i := 14) (by decide +kernel)) rfl, bw_c7 (List.mem_of_getElem? (i := 198) rfl) rfl, by decide, by decide⟩
theorem pd_X12_cars : (parseMethodDescriptor yX12_cars.desc).map (fun d => d.parameters.length) = some 4 := by decide +kernel
set_option maxRecDepth 20000 in
theorem mk_X12_cars : MK yX12_cars cX12_cars 5 (some .boolean) := ⟨bw_c8 (List.mem_of_getElem? (i := 173) (by decide +kernel)) rfl, bw_c8 (List.mem_of_getElem? (i := 174) (by decide +kernel)) rfl, bw_c1 (List.mem_of_getElem? (i := 14) (by decide +kernel)) rfl, bw_c8 (List.mem_of_getElem? (i := 175) rfl) rfl, by decide, by decide⟩
theorem pd_X12_person : (parseMethodDescriptor yX12_person.desc).map (fun d => d.parameters.length) = some 3 := by decide +kernel
set_option maxRecDepth 20000 in
theorem mk_X12_person : MK yX12_person cX12_person 4 (some .int) := ⟨bw_c8 (List.mem_of_getElem? (i := 177) (by decide +kernel)) rfl, bw_c8 (List.mem_of_getElem? (i := 178) (by decide +kernel)) rfl, bw_c1 (List.mem_of_getElem? (i := 14) (by decide +kernel)) rfl, bw_c8 (List.mem_of_getElem? (i := 179) rfl) rfl, by decide, by decide⟩
theorem pd_X12_hold : (parseMethodDescriptor yX12_hold.desc).map (fun d => d.parameters.length) = some 3 := by decide +kernel
set_option maxRecDepth 20000 in
theorem mk_X12_hold : MK yX12_hold cX12_hold 4 (some .boolean) := ⟨bw_c8 (List.mem_of_getElem? (i := 181) (by decide +kernel)) rfl, bw_c8 (List.mem_of_getElem? (i := 182) (by decide +kernel)) rfl, bw_c1 (List.mem_of_getElem? (i := 14) (by decide +kernel)) rfl, bw_c8 (List.mem_of_getElem? (i := 183) rfl) rfl, by decide, by decide⟩
theorem pd_X12_fire : (parseMethodDescriptor yX12_fire.desc).map (fun d => d.parameters.length) = some 1 := by decide +kernel
set_option maxRecDepth 20000 in
theorem mk_X12_fire : MK yX12_fire cX12_fire 2 (some .boolean) := ⟨bw_c8 (List.mem_of_getElem? (i := 185) (by decide +kernel)) rfl, bw_c8 (List.mem_of_getElem? (i := 186) (by decide +kernel)) rfl, bw_c1 (List.mem_of_getElem? (i := 14) (by decide +kernel)) rfl, bw_c8 (List.mem_of_getElem? (i := 187) rfl) rfl, by decide, by decide⟩
theorem pd_X12_nobody : (parseMethodDescriptor yX12_nobody.desc).map (fun d => d.parameters.length) = some 0 := by decide +kernel
set_option maxRecDepth 20000 in
theorem mk_X12_nobody : MK yX12_nobody cX12_nobody 1 (some .boolean) := ⟨bw_c8 (List.mem_of_getElem? (i := 189) (by decide +kernel)) rfl, bw_c8 (List.mem_of_getElem? (i := 190) (by decide +kernel)) rfl, bw_c1 (List.mem_of_getElem? (i := 14) (by decide +kernel)) rfl, bw_c8 (List.mem_of_getElem? (i := 191) rfl) rfl, by decide, by decide⟩
theorem pd_X12_isInside : (parseMethodDescriptor yX12_isInside.desc).map (fun d => d.parameters.length) = some 2 := by decide +kernel
set_option maxRecDepth 20000 in
theorem mk_X12_isInside : MK yX12_isInside cX12_isInside 3 (some .boolean) := ⟨bw_c8 (List.mem_of_getElem? (i := 218) (by decide +kernel)) rfl, bw_p (List.mem_of_getElem? (i := 96) (by decide +kernel)) rfl, bw_c1 (List.mem_of_getElem? (i := 14) (by decide +kernel)) rfl, bw_c8 (List.mem_of_getElem? (i := 219) rfl) rfl, by decide, by decide⟩
theorem pd_X12_isWaiting : (parseMethodDescriptor yX12_isWaiting.desc).map (fun d => d.parameters.length) = some 2 := by decide +kernel
set_option maxRecDepth 20000 in
theorem mk_X12_isWaiting : MK yX12_isWaiting cX12_isWaiting 3 (some .boolean) := ⟨bw_c8 (List.mem_of_getElem? (i := 222) (by decide +kernel)) rfl, bw_p (List.mem_of_getElem? (i := 97) (by decide +kernel)) rfl, bw_c1 (List.mem_of_getElem? (i := 14) (by decide +kernel)) rfl, bw_c8 (List.mem_of_getElem? (i := 223) rfl) rfl, by decide, by decide⟩
theorem pd_X12_loadOf : (parseMethodDescriptor yX12_loadOf.desc).map (fun d => d.parameters.length) = some 1 := by decide +kernel
set_option maxRecDepth 20000 in
theorem mk_X12_loadOf : MK yX12_loadOf cX12_loadOf 4 (some .int) := ⟨bw_c8 (List.mem_of_getElem? (i := 214) (by decide +kernel)) rfl, bw_p (List.mem_of_getElem? (i := 95) (by decide +kernel)) rfl, bw_c1 (List.mem_of_getElem? (i := 14) (by decide +kernel)) rfl, bw_c8 (List.mem_of_getElem? (i := 215) rfl) rfl, by decide, by decide⟩
theorem pd_X12_goalsOf : (parseMethodDescriptor yX12_goalsOf.desc).map (fun d => d.parameters.length) = some 1 := by decide +kernel
set_option maxRecDepth 20000 in
theorem mk_X12_goalsOf : MK yX12_goalsOf cX12_goalsOf 5 (some .int) := ⟨bw_c8 (List.mem_of_getElem? (i := 210) (by decide +kernel)) rfl, bw_p (List.mem_of_getElem? (i := 94) (by decide +kernel)) rfl, bw_c1 (List.mem_of_getElem? (i := 14) (by decide +kernel)) rfl, bw_c8 (List.mem_of_getElem? (i := 211) rfl) rfl, by decide, by decide⟩
theorem pd_X12_bits : (parseMethodDescriptor yX12_bits.desc).map (fun d => d.parameters.length) = some 1 := by decide +kernel
set_option maxRecDepth 20000 in
theorem ms_X12_bits : MS yX12_bits cX12_bits 3 (some .int) := ⟨bw_c8 (List.mem_of_getElem? (i := 225) (by decide +kernel)) rfl, bw_c1 (List.mem_of_getElem? (i := 14) (by decide +kernel)) rfl, bw_c8 (List.mem_of_getElem? (i := 226) rfl) rfl, by decide, by decide⟩
theorem pd_X12_ruleOf : (parseMethodDescriptor yX12_ruleOf.desc).map (fun d => d.parameters.length) = some 3 := by decide +kernel
set_option maxRecDepth 20000 in
theorem mk_X12_ruleOf : MK yX12_ruleOf cX12_ruleOf 6 (some .int) := ⟨bw_c8 (List.mem_of_getElem? (i := 206) (by decide +kernel)) rfl, bw_p (List.mem_of_getElem? (i := 93) (by decide +kernel)) rfl, bw_c1 (List.mem_of_getElem? (i := 14) (by decide +kernel)) rfl, bw_c8 (List.mem_of_getElem? (i := 207) rfl) rfl, by decide, by decide⟩
theorem pd_X12_gives : (parseMethodDescriptor yX12_gives.desc).map (fun d => d.parameters.length) = some 3 := by decide +kernel
set_option maxRecDepth 20000 in
theorem mk_X12_gives : MK yX12_gives cX12_gives 5 none := ⟨bw_c8 (List.mem_of_getElem? (i := 202) (by decide +kernel)) rfl, bw_p (List.mem_of_getElem? (i := 92) (by decide +kernel)) rfl, bw_c1 (List.mem_of_getElem? (i := 14) (by decide +kernel)) rfl, bw_c8 (List.mem_of_getElem? (i := 203) rfl) rfl, by decide, by decide⟩
theorem pd_X12_passes : (parseMethodDescriptor yX12_passes.desc).map (fun d => d.parameters.length) = some 2 := by decide +kernel
set_option maxRecDepth 20000 in
theorem mk_X12_passes : MK yX12_passes cX12_passes 4 none := ⟨bw_c8 (List.mem_of_getElem? (i := 237) (by decide +kernel)) rfl, bw_p (List.mem_of_getElem? (i := 100) (by decide +kernel)) rfl, bw_c1 (List.mem_of_getElem? (i := 14) (by decide +kernel)) rfl, bw_c8 (List.mem_of_getElem? (i := 238) rfl) rfl, by decide, by decide⟩
theorem pd_X12_mayStop : (parseMethodDescriptor yX12_mayStop.desc).map (fun d => d.parameters.length) = some 1 := by decide +kernel
set_option maxRecDepth 20000 in
theorem mk_X12_mayStop : MK yX12_mayStop cX12_mayStop 5 (some .boolean) := ⟨bw_c9 (List.mem_of_getElem? (i := 1) (by decide +kernel)) rfl, bw_p (List.mem_of_getElem? (i := 101) (by decide +kernel)) rfl, bw_c1 (List.mem_of_getElem? (i := 14) (by decide +kernel)) rfl, bw_c9 (List.mem_of_getElem? (i := 2) rfl) rfl, by decide, by decide⟩
theorem pd_X12_stopsAt : (parseMethodDescriptor yX12_stopsAt.desc).map (fun d => d.parameters.length) = some 2 := by decide +kernel
set_option maxRecDepth 20000 in
theorem mk_X12_stopsAt : MK yX12_stopsAt cX12_stopsAt 5 none := ⟨bw_c9 (List.mem_of_getElem? (i := 5) (by decide +kernel)) rfl, bw_p (List.mem_of_getElem? (i := 102) (by decide +kernel)) rfl, bw_c1 (List.mem_of_getElem? (i := 14) (by decide +kernel)) rfl, bw_c9 (List.mem_of_getElem? (i := 6) rfl) rfl, by decide, by decide⟩
theorem pd_X12_nearest : (parseMethodDescriptor yX12_nearest.desc).map (fun d => d.parameters.length) = some 3 := by decide +kernel
set_option maxRecDepth 20000 in
theorem mk_X12_nearest : MK yX12_nearest cX12_nearest 6 (some .int) := ⟨bw_c9 (List.mem_of_getElem? (i := 13) (by decide +kernel)) rfl, bw_p (List.mem_of_getElem? (i := 104) (by decide +kernel)) rfl, bw_c1 (List.mem_of_getElem? (i := 14) (by decide +kernel)) rfl, bw_c9 (List.mem_of_getElem? (i := 14) rfl) rfl, by decide, by decide⟩
theorem pd_X12_goes : (parseMethodDescriptor yX12_goes.desc).map (fun d => d.parameters.length) = some 1 := by decide +kernel
set_option maxRecDepth 20000 in
theorem mk_X12_goes : MK yX12_goes cX12_goes 6 none := ⟨bw_c9 (List.mem_of_getElem? (i := 9) (by decide +kernel)) rfl, bw_p (List.mem_of_getElem? (i := 103) (by decide +kernel)) rfl, bw_c1 (List.mem_of_getElem? (i := 14) (by decide +kernel)) rfl, bw_c9 (List.mem_of_getElem? (i := 10) rfl) rfl, by decide, by decide⟩
theorem pd_X12_flees : (parseMethodDescriptor yX12_flees.desc).map (fun d => d.parameters.length) = some 2 := by decide +kernel
set_option maxRecDepth 20000 in
theorem mk_X12_flees : MK yX12_flees cX12_flees 4 none := ⟨bw_c8 (List.mem_of_getElem? (i := 233) (by decide +kernel)) rfl, bw_p (List.mem_of_getElem? (i := 99) (by decide +kernel)) rfl, bw_c1 (List.mem_of_getElem? (i := 14) (by decide +kernel)) rfl, bw_c8 (List.mem_of_getElem? (i := 234) rfl) rfl, by decide, by decide⟩
theorem pd_X12_acts : (parseMethodDescriptor yX12_acts.desc).map (fun d => d.parameters.length) = some 2 := by decide +kernel
set_option maxRecDepth 20000 in
theorem mk_X12_acts : MK yX12_acts cX12_acts 3 none := ⟨bw_c8 (List.mem_of_getElem? (i := 229) (by decide +kernel)) rfl, bw_p (List.mem_of_getElem? (i := 98) (by decide +kernel)) rfl, bw_c1 (List.mem_of_getElem? (i := 14) (by decide +kernel)) rfl, bw_c8 (List.mem_of_getElem? (i := 230) rfl) rfl, by decide, by decide⟩
theorem pd_X12_isOver : (parseMethodDescriptor yX12_isOver.desc).map (fun d => d.parameters.length) = some 1 := by decide +kernel
set_option maxRecDepth 20000 in
theorem mk_X12_isOver : MK yX12_isOver cX12_isOver 5 (some .boolean) := ⟨bw_c9 (List.mem_of_getElem? (i := 17) (by decide +kernel)) rfl, bw_p (List.mem_of_getElem? (i := 105) (by decide +kernel)) rfl, bw_c1 (List.mem_of_getElem? (i := 14) (by decide +kernel)) rfl, bw_c9 (List.mem_of_getElem? (i := 18) rfl) rfl, by decide, by decide⟩
theorem pd_X12_runs : (parseMethodDescriptor yX12_runs.desc).map (fun d => d.parameters.length) = some 1 := by decide +kernel
set_option maxRecDepth 20000 in
theorem mk_X12_runs : MK yX12_runs cX12_runs 4 none := ⟨bw_c8 (List.mem_of_getElem? (i := 198) (by decide +kernel)) rfl, bw_p (List.mem_of_getElem? (i := 91) (by decide +kernel)) rfl, bw_c1 (List.mem_of_getElem? (i := 14) (by decide +kernel)) rfl, bw_c8 (List.mem_of_getElem? (i := 199) rfl) rfl, by decide, by decide⟩
theorem pd_X12_waitOf : (parseMethodDescriptor yX12_waitOf.desc).map (fun d => d.parameters.length) = some 1 := by decide +kernel
set_option maxRecDepth 20000 in
theorem mk_X12_waitOf : MK yX12_waitOf cX12_waitOf 2 (some .int) := ⟨bw_c9 (List.mem_of_getElem? (i := 25) (by decide +kernel)) rfl, bw_p (List.mem_of_getElem? (i := 106) (by decide +kernel)) rfl, bw_c1 (List.mem_of_getElem? (i := 14) (by decide +kernel)) rfl, bw_c9 (List.mem_of_getElem? (i := 26) rfl) rfl, by decide, by decide⟩
theorem pd_X12_run : (parseMethodDescriptor yX12_run.desc).map (fun d => d.parameters.length) = some 0 := by decide +kernel
set_option maxRecDepth 20000 in
theorem mk_X12_run : MK yX12_run cX12_run 1 (some .int) := ⟨bw_c8 (List.mem_of_getElem? (i := 193) (by decide +kernel)) rfl, bw_c8 (List.mem_of_getElem? (i := 194) (by decide +kernel)) rfl, bw_c1 (List.mem_of_getElem? (i := 14) (by decide +kernel)) rfl, bw_c8 (List.mem_of_getElem? (i := 195) rfl) rfl, by decide, by decide⟩
theorem pd_X12_rode : (parseMethodDescriptor yX12_rode.desc).map (fun d => d.parameters.length) = some 2 := by decide +kernel
set_option maxRecDepth 20000 in
theorem mk_X12_rode : MK yX12_rode cX12_rode 3 (some .int) := ⟨bw_c9 (List.mem_of_getElem? (i := 20) (by decide +kernel)) rfl, bw_c9 (List.mem_of_getElem? (i := 21) (by decide +kernel)) rfl, bw_c1 (List.mem_of_getElem? (i := 14) (by decide +kernel)) rfl, bw_c9 (List.mem_of_getElem? (i := 22) rfl) rfl, by decide, by decide⟩
theorem pd_X12_waitsBy : (parseMethodDescriptor yX12_waitsBy.desc).map (fun d => d.parameters.length) = some 1 := by decide +kernel
set_option maxRecDepth 20000 in
theorem mk_X12_waitsBy : MK yX12_waitsBy cX12_waitsBy 8 (some .int) := ⟨bw_c9 (List.mem_of_getElem? (i := 33) (by decide +kernel)) rfl, bw_p (List.mem_of_getElem? (i := 107) (by decide +kernel)) rfl, bw_c1 (List.mem_of_getElem? (i := 14) (by decide +kernel)) rfl, bw_c9 (List.mem_of_getElem? (i := 34) rfl) rfl, by decide, by decide⟩
theorem pd_X12_waits : (parseMethodDescriptor yX12_waits.desc).map (fun d => d.parameters.length) = some 1 := by decide +kernel
set_option maxRecDepth 20000 in
theorem mk_X12_waits : MK yX12_waits cX12_waits 2 (some .int) := ⟨bw_c9 (List.mem_of_getElem? (i := 28) (by decide +kernel)) rfl, bw_c9 (List.mem_of_getElem? (i := 29) (by decide +kernel)) rfl, bw_c1 (List.mem_of_getElem? (i := 14) (by decide +kernel)) rfl, bw_c9 (List.mem_of_getElem? (i := 30) rfl) rfl, by decide, by decide⟩
theorem pd_X12_moved : (parseMethodDescriptor yX12_moved.desc).map (fun d => d.parameters.length) = some 2 := by decide +kernel
set_option maxRecDepth 20000 in
theorem mk_X12_moved : MK yX12_moved cX12_moved 3 (some .int) := ⟨bw_c9 (List.mem_of_getElem? (i := 36) (by decide +kernel)) rfl, bw_c9 (List.mem_of_getElem? (i := 37) (by decide +kernel)) rfl, bw_c1 (List.mem_of_getElem? (i := 14) (by decide +kernel)) rfl, bw_c9 (List.mem_of_getElem? (i := 38) rfl) rfl, by decide, by decide⟩
theorem pd_X12_stopped : (parseMethodDescriptor yX12_stopped.desc).map (fun d => d.parameters.length) = some 1 := by decide +kernel
set_option maxRecDepth 20000 in
theorem mk_X12_stopped : MK yX12_stopped cX12_stopped 2 (some .int) := ⟨bw_c9 (List.mem_of_getElem? (i := 40) (by decide +kernel)) rfl, bw_c9 (List.mem_of_getElem? (i := 41) (by decide +kernel)) rfl, bw_c1 (List.mem_of_getElem? (i := 14) (by decide +kernel)) rfl, bw_c9 (List.mem_of_getElem? (i := 42) rfl) rfl, by decide, by decide⟩
theorem pd_X12_best : (parseMethodDescriptor yX12_best.desc).map (fun d => d.parameters.length) = some 2 := by decide +kernel
set_option maxRecDepth 20000 in
theorem mk_X12_best : MK yX12_best cX12_best 8 (some .int) := ⟨bw_c9 (List.mem_of_getElem? (i := 44) (by decide +kernel)) rfl, bw_c9 (List.mem_of_getElem? (i := 45) (by decide +kernel)) rfl, bw_c1 (List.mem_of_getElem? (i := 14) (by decide +kernel)) rfl, bw_c9 (List.mem_of_getElem? (i := 46) rfl) rfl, by decide, by decide⟩
theorem pd_X12_trip : (parseMethodDescriptor yX12_trip.desc).map (fun d => d.parameters.length) = some 3 := by decide +kernel
set_option maxRecDepth 20000 in
theorem mk_X12_trip : MK yX12_trip cX12_trip 4 (some .boolean) := ⟨bw_c9 (List.mem_of_getElem? (i := 48) (by decide +kernel)) rfl, bw_c9 (List.mem_of_getElem? (i := 49) (by decide +kernel)) rfl, bw_c1 (List.mem_of_getElem? (i := 14) (by decide +kernel)) rfl, bw_c9 (List.mem_of_getElem? (i := 50) rfl) rfl, by decide, by decide⟩
theorem pd_X12_gauge : (parseMethodDescriptor yX12_gauge.desc).map (fun d => d.parameters.length) = some 2 := by decide +kernel
set_option maxRecDepth 20000 in
theorem mk_X12_gauge : MK yX12_gauge cX12_gauge 3 (some .boolean) := ⟨bw_c9 (List.mem_of_getElem? (i := 52) (by decide +kernel)) rfl, bw_c9 (List.mem_of_getElem? (i := 53) (by decide +kernel)) rfl, bw_c1 (List.mem_of_getElem? (i := 14) (by decide +kernel)) rfl, bw_c9 (List.mem_of_getElem? (i := 54) rfl) rfl, by decide, by decide⟩
theorem pd_X12_bends : (parseMethodDescriptor yX12_bends.desc).map (fun d => d.parameters.length) = some 2 := by decide +kernel
set_option maxRecDepth 20000 in
theorem mk_X12_bends : MK yX12_bends cX12_bends 3 (some .boolean) := ⟨bw_c9 (List.mem_of_getElem? (i := 70) (by decide +kernel)) rfl, bw_p (List.mem_of_getElem? (i := 110) (by decide +kernel)) rfl, bw_c1 (List.mem_of_getElem? (i := 14) (by decide +kernel)) rfl, bw_c9 (List.mem_of_getElem? (i := 71) rfl) rfl, by decide, by decide⟩
theorem pd_X12_trueOf : (parseMethodDescriptor yX12_trueOf.desc).map (fun d => d.parameters.length) = some 2 := by decide +kernel
set_option maxRecDepth 20000 in
theorem mk_X12_trueOf : MK yX12_trueOf cX12_trueOf 3 (some .int) := ⟨bw_c9 (List.mem_of_getElem? (i := 74) (by decide +kernel)) rfl, bw_p (List.mem_of_getElem? (i := 111) (by decide +kernel)) rfl, bw_c1 (List.mem_of_getElem? (i := 14) (by decide +kernel)) rfl, bw_c9 (List.mem_of_getElem? (i := 75) rfl) rfl, by decide, by decide⟩
theorem pd_X12_bendsOf : (parseMethodDescriptor yX12_bendsOf.desc).map (fun d => d.parameters.length) = some 2 := by decide +kernel
set_option maxRecDepth 20000 in
theorem mk_X12_bendsOf : MK yX12_bendsOf cX12_bendsOf 5 (some .int) := ⟨bw_c9 (List.mem_of_getElem? (i := 66) (by decide +kernel)) rfl, bw_p (List.mem_of_getElem? (i := 109) (by decide +kernel)) rfl, bw_c1 (List.mem_of_getElem? (i := 14) (by decide +kernel)) rfl, bw_c9 (List.mem_of_getElem? (i := 67) rfl) rfl, by decide, by decide⟩
theorem pd_X12_isPart : (parseMethodDescriptor yX12_isPart.desc).map (fun d => d.parameters.length) = some 1 := by decide +kernel
set_option maxRecDepth 20000 in
theorem mk_X12_isPart : MK yX12_isPart cX12_isPart 2 (some .boolean) := ⟨bw_c9 (List.mem_of_getElem? (i := 62) (by decide +kernel)) rfl, bw_p (List.mem_of_getElem? (i := 108) (by decide +kernel)) rfl, bw_c1 (List.mem_of_getElem? (i := 14) (by decide +kernel)) rfl, bw_c9 (List.mem_of_getElem? (i := 63) rfl) rfl, by decide, by decide⟩
theorem pd_X12_rope : (parseMethodDescriptor yX12_rope.desc).map (fun d => d.parameters.length) = some 2 := by decide +kernel
set_option maxRecDepth 20000 in
theorem mk_X12_rope : MK yX12_rope cX12_rope 5 (some .int) := ⟨bw_c9 (List.mem_of_getElem? (i := 57) (by decide +kernel)) rfl, bw_c9 (List.mem_of_getElem? (i := 58) (by decide +kernel)) rfl, bw_c1 (List.mem_of_getElem? (i := 14) (by decide +kernel)) rfl, bw_c9 (List.mem_of_getElem? (i := 59) rfl) rfl, by decide, by decide⟩
theorem pd_X12_first : (parseMethodDescriptor yX12_first.desc).map (fun d => d.parameters.length) = some 1 := by decide +kernel
set_option maxRecDepth 20000 in
theorem mk_X12_first : MK yX12_first cX12_first 9 (some .int) := ⟨bw_c9 (List.mem_of_getElem? (i := 77) (by decide +kernel)) rfl, bw_c9 (List.mem_of_getElem? (i := 78) (by decide +kernel)) rfl, bw_c1 (List.mem_of_getElem? (i := 14) (by decide +kernel)) rfl, bw_c9 (List.mem_of_getElem? (i := 79) rfl) rfl, by decide, by decide⟩
theorem pd_X12_lasts : (parseMethodDescriptor yX12_lasts.desc).map (fun d => d.parameters.length) = some 2 := by decide +kernel
set_option maxRecDepth 20000 in
theorem mk_X12_lasts : MK yX12_lasts cX12_lasts 4 (some .long) := ⟨bw_c9 (List.mem_of_getElem? (i := 81) (by decide +kernel)) rfl, bw_c9 (List.mem_of_getElem? (i := 82) (by decide +kernel)) rfl, bw_c1 (List.mem_of_getElem? (i := 14) (by decide +kernel)) rfl, bw_c9 (List.mem_of_getElem? (i := 83) rfl) rfl, by decide, by decide⟩
theorem pd_X12_count : (parseMethodDescriptor yX12_count.desc).map (fun d => d.parameters.length) = some 1 := by decide +kernel
set_option maxRecDepth 20000 in
theorem mk_X12_count : MK yX12_count cX12_count 4 (some .int) := ⟨bw_c9 (List.mem_of_getElem? (i := 86) (by decide +kernel)) rfl, bw_c9 (List.mem_of_getElem? (i := 87) (by decide +kernel)) rfl, bw_c1 (List.mem_of_getElem? (i := 14) (by decide +kernel)) rfl, bw_c9 (List.mem_of_getElem? (i := 88) rfl) rfl, by decide, by decide⟩
theorem pd_J11_isValidCodePoint_9a6ad : (parseMethodDescriptor yJ11_isValidCodePoint_9a6ad.desc).map (fun d => d.parameters.length) = some 1 := by decide +kernel
set_option maxRecDepth 20000 in
theorem ms_J11_isValidCodePoint_9a6ad : MS yJ11_isValidCodePoint_9a6ad cJ11_isValidCodePoint_9a6ad 2 (some .boolean) := ⟨bw_c3 (List.mem_of_getElem? (i := 234) (by decide +kernel)) rfl, bw_c1 (List.mem_of_getElem? (i := 20) (by decide +kernel)) rfl, bw_c3 (List.mem_of_getElem? (i := 235) rfl) rfl, by decide, by decide⟩
theorem pd_J11_highSurrogate_5068e : (parseMethodDescriptor yJ11_highSurrogate_5068e.desc).map (fun d => d.parameters.length) = some 1 := by decide +kernel
set_option maxRecDepth 20000 in
theorem ms_J11_highSurrogate_5068e : MS yJ11_highSurrogate_5068e cJ11_highSurrogate_5068e 1 (some .char) := ⟨bw_c3 (List.mem_of_getElem? (i := 237) (by decide +kernel)) rfl, bw_c1 (List.mem_of_getElem? (i := 20) (by decide +kernel)) rfl, bw_c3 (List.mem_of_getElem? (i := 238) rfl) rfl, by decide, by decide⟩
theorem pd_J11_lowSurrogate_5068e : (parseMethodDescriptor yJ11_lowSurrogate_5068e.desc).map (fun d => d.parameters.length) = some 1 := by decide +kernel
set_option maxRecDepth 20000 in
theorem ms_J11_lowSurrogate_5068e : MS yJ11_lowSurrogate_5068e cJ11_lowSurrogate_5068e 1 (some .char) := ⟨bw_c4 (List.mem_of_getElem? (i := 1) (by decide +kernel)) rfl, bw_c1 (List.mem_of_getElem? (i := 20) (by decide +kernel)) rfl, bw_c4 (List.mem_of_getElem? (i := 2) rfl) rfl, by decide, by decide⟩
theorem pd_J6_compare_7cf53 : (parseMethodDescriptor yJ6_compare_7cf53.desc).map (fun d => d.parameters.length) = some 2 := by decide +kernel
set_option maxRecDepth 20000 in
theorem ms_J6_compare_7cf53 : MS yJ6_compare_7cf53 cJ6_compare_7cf53 2 (some .int) := ⟨bw_c5 (List.mem_of_getElem? (i := 185) (by decide +kernel)) rfl, bw_c1 (List.mem_of_getElem? (i := 26) (by decide +kernel)) rfl, bw_c5 (List.mem_of_getElem? (i := 186) rfl) rfl, by decide, by decide⟩
theorem pd_J6_bitCount_0f7a4 : (parseMethodDescriptor yJ6_bitCount_0f7a4.desc).map (fun d => d.parameters.length) = some 1 := by decide +kernel
set_option maxRecDepth 20000 in
theorem ms_J6_bitCount_0f7a4 : MS yJ6_bitCount_0f7a4 cJ6_bitCount_0f7a4 1 (some .int) := ⟨bw_c5 (List.mem_of_getElem? (i := 138) (by decide +kernel)) rfl, bw_c1 (List.mem_of_getElem? (i := 26) (by decide +kernel)) rfl, bw_c5 (List.mem_of_getElem? (i := 139) rfl) rfl, by decide, by decide⟩
theorem pd_J9_abs_0f7a4 : (parseMethodDescriptor yJ9_abs_0f7a4.desc).map (fun d => d.parameters.length) = some 1 := by decide +kernel
set_option maxRecDepth 20000 in
theorem ms_J9_abs_0f7a4 : MS yJ9_abs_0f7a4 cJ9_abs_0f7a4 1 (some .int) := ⟨bw_c5 (List.mem_of_getElem? (i := 148) (by decide +kernel)) rfl, bw_c1 (List.mem_of_getElem? (i := 19) (by decide +kernel)) rfl, bw_c5 (List.mem_of_getElem? (i := 149) rfl) rfl, by decide, by decide⟩
theorem pd_J9_max_7cf53 : (parseMethodDescriptor yJ9_max_7cf53.desc).map (fun d => d.parameters.length) = some 2 := by decide +kernel
set_option maxRecDepth 20000 in
theorem ms_J9_max_7cf53 : MS yJ9_max_7cf53 cJ9_max_7cf53 2 (some .int) := ⟨bw_c3 (List.mem_of_getElem? (i := 201) (by decide +kernel)) rfl, bw_c1 (List.mem_of_getElem? (i := 19) (by decide +kernel)) rfl, bw_c3 (List.mem_of_getElem? (i := 202) rfl) rfl, by decide, by decide⟩
theorem pd_J9_max_f86c9 : (parseMethodDescriptor yJ9_max_f86c9.desc).map (fun d => d.parameters.length) = some 2 := by decide +kernel
set_option maxRecDepth 20000 in
theorem ms_J9_max_f86c9 : MS yJ9_max_f86c9 cJ9_max_f86c9 4 (some .long) := ⟨bw_c6 (List.mem_of_getElem? (i := 87) (by decide +kernel)) rfl, bw_c1 (List.mem_of_getElem? (i := 19) (by decide +kernel)) rfl, bw_c6 (List.mem_of_getElem? (i := 88) rfl) rfl, by decide, by decide⟩
theorem pd_J9_min_7cf53 : (parseMethodDescriptor yJ9_min_7cf53.desc).map (fun d => d.parameters.length) = some 2 := by decide +kernel
set_option maxRecDepth 20000 in
theorem ms_J9_min_7cf53 : MS yJ9_min_7cf53 cJ9_min_7cf53 2 (some .int) := ⟨bw_c3 (List.mem_of_getElem? (i := 204) (by decide +kernel)) rfl, bw_c1 (List.mem_of_getElem? (i := 19) (by decide +kernel)) rfl, bw_c3 (List.mem_of_getElem? (i := 205) rfl) rfl, by decide, by decide⟩
theorem pd_J0_length_8abf5 : (parseMethodDescriptor yJ0_length_8abf5.desc).map (fun d => d.parameters.length) = some 0 := by decide +kernel
set_option maxRecDepth 20000 in
theorem mk_J0_length_8abf5 : MK yJ0_length_8abf5 cJ0_length_8abf5 1 (some .int) := ⟨bw_c3 (List.mem_of_getElem? (i := 133) (by decide +kernel)) rfl, bw_c3 (List.mem_of_getElem? (i := 134) (by decide +kernel)) rfl, bw_c1 (List.mem_of_getElem? (i := 15) (by decide +kernel)) rfl, bw_c3 (List.mem_of_getElem? (i := 135) rfl) rfl, by decide, by decide⟩
theorem pd_J0_charAt_5068e : (parseMethodDescriptor yJ0_charAt_5068e.desc).map (fun d => d.parameters.length) = some 1 := by decide +kernel
set_option maxRecDepth 20000 in
theorem mk_J0_charAt_5068e : MK yJ0_charAt_5068e cJ0_charAt_5068e 2 (some .char) := ⟨bw_c3 (List.mem_of_getElem? (i := 143) (by decide +kernel)) rfl, bw_c3 (List.mem_of_getElem? (i := 144) (by decide +kernel)) rfl, bw_c1 (List.mem_of_getElem? (i := 15) (by decide +kernel)) rfl, bw_c3 (List.mem_of_getElem? (i := 145) rfl) rfl, by decide, by decide⟩
theorem pd_J0_indexOf_0f7a4 : (parseMethodDescriptor yJ0_indexOf_0f7a4.desc).map (fun d => d.parameters.length) = some 1 := by decide +kernel
set_option maxRecDepth 20000 in
theorem mk_J0_indexOf_0f7a4 : MK yJ0_indexOf_0f7a4 cJ0_indexOf_0f7a4 2 (some .int) := ⟨bw_c3 (List.mem_of_getElem? (i := 186) (by decide +kernel)) rfl, bw_c3 (List.mem_of_getElem? (i := 187) (by decide +kernel)) rfl, bw_c1 (List.mem_of_getElem? (i := 15) (by decide +kernel)) rfl, bw_c3 (List.mem_of_getElem? (i := 188) rfl) rfl, by decide, by decide⟩
theorem pd_J0_indexOf_7cf53 : (parseMethodDescriptor yJ0_indexOf_7cf53.desc).map (fun d => d.parameters.length) = some 2 := by decide +kernel
set_option maxRecDepth 20000 in
theorem mk_J0_indexOf_7cf53 : MK yJ0_indexOf_7cf53 cJ0_indexOf_7cf53 3 (some .int) := ⟨bw_c3 (List.mem_of_getElem? (i := 190) (by decide +kernel)) rfl, bw_c3 (List.mem_of_getElem? (i := 191) (by decide +kernel)) rfl, bw_c1 (List.mem_of_getElem? (i := 15) (by decide +kernel)) rfl, bw_c3 (List.mem_of_getElem? (i := 192) rfl) rfl, by decide, by decide⟩
theorem pd_J0_coder_7d493 : (parseMethodDescriptor yJ0_coder_7d493.desc).map (fun d => d.parameters.length) = some 0 := by decide +kernel
set_option maxRecDepth 20000 in
theorem mk_J0_coder_7d493 : MK yJ0_coder_7d493 cJ0_coder_7d493 1 (some .byte) := ⟨bw_c3 (List.mem_of_getElem? (i := 137) (by decide +kernel)) rfl, bw_c3 (List.mem_of_getElem? (i := 138) (by decide +kernel)) rfl, bw_c1 (List.mem_of_getElem? (i := 15) (by decide +kernel)) rfl, bw_c3 (List.mem_of_getElem? (i := 139) rfl) rfl, by decide, by decide⟩
theorem pd_J0_isLatin1_aae02 : (parseMethodDescriptor yJ0_isLatin1_aae02.desc).map (fun d => d.parameters.length) = some 0 := by decide +kernel
set_option maxRecDepth 20000 in
theorem mk_J0_isLatin1_aae02 : MK yJ0_isLatin1_aae02 cJ0_isLatin1_aae02 1 (some .boolean) := ⟨bw_c3 (List.mem_of_getElem? (i := 147) (by decide +kernel)) rfl, bw_c3 (List.mem_of_getElem? (i := 148) (by decide +kernel)) rfl, bw_c1 (List.mem_of_getElem? (i := 15) (by decide +kernel)) rfl, bw_c3 (List.mem_of_getElem? (i := 149) rfl) rfl, by decide, by decide⟩
theorem pd_J0_checkIndex_df160 : (parseMethodDescriptor yJ0_checkIndex_df160.desc).map (fun d => d.parameters.length) = some 2 := by decide +kernel
set_option maxRecDepth 20000 in
theorem ms_J0_checkIndex_df160 : MS yJ0_checkIndex_df160 cJ0_checkIndex_df160 2 none := ⟨bw_c3 (List.mem_of_getElem? (i := 154) (by decide +kernel)) rfl, bw_c1 (List.mem_of_getElem? (i := 15) (by decide +kernel)) rfl, bw_c3 (List.mem_of_getElem? (i := 155) rfl) rfl, by decide, by decide⟩
theorem pd_J0_checkBoundsBeginEnd_23922 : (parseMethodDescriptor yJ0_checkBoundsBeginEnd_23922.desc).map (fun d => d.parameters.length) = some 3 := by decide +kernel
set_option maxRecDepth 20000 in
theorem ms_J0_checkBoundsBeginEnd_23922 : MS yJ0_checkBoundsBeginEnd_23922 cJ0_checkBoundsBeginEnd_23922 3 none := ⟨bw_c3 (List.mem_of_getElem? (i := 222) (by decide +kernel)) rfl, bw_c1 (List.mem_of_getElem? (i := 15) (by decide +kernel)) rfl, bw_c3 (List.mem_of_getElem? (i := 223) rfl) rfl, by decide, by decide⟩
theorem pd_J1_charAt_3b067 : (parseMethodDescriptor yJ1_charAt_3b067.desc).map (fun d => d.parameters.length) = some 2 := by decide +kernel
set_option maxRecDepth 20000 in
theorem ms_J1_charAt_3b067 : MS yJ1_charAt_3b067 cJ1_charAt_3b067 2 (some .char) := ⟨bw_c3 (List.mem_of_getElem? (i := 151) (by decide +kernel)) rfl, bw_c1 (List.mem_of_getElem? (i := 16) (by decide +kernel)) rfl, bw_c3 (List.mem_of_getElem? (i := 152) rfl) rfl, by decide, by decide⟩
theorem pd_J1_canEncode_9a6ad : (parseMethodDescriptor yJ1_canEncode_9a6ad.desc).map (fun d => d.parameters.length) = some 1 := by decide +kernel
set_option maxRecDepth 20000 in
theorem ms_J1_canEncode_9a6ad : MS yJ1_canEncode_9a6ad cJ1_canEncode_9a6ad 1 (some .boolean) := ⟨bw_c3 (List.mem_of_getElem? (i := 198) (by decide +kernel)) rfl, bw_c1 (List.mem_of_getElem? (i := 16) (by decide +kernel)) rfl, bw_c3 (List.mem_of_getElem? (i := 199) rfl) rfl, by decide, by decide⟩
theorem pd_J1_indexOf_4cfef : (parseMethodDescriptor yJ1_indexOf_4cfef.desc).map (fun d => d.parameters.length) = some 4 := by decide +kernel
set_option maxRecDepth 20000 in
theorem ms_J1_indexOf_4cfef : MS yJ1_indexOf_4cfef cJ1_indexOf_4cfef 4 (some .int) := ⟨bw_c3 (List.mem_of_getElem? (i := 195) (by decide +kernel)) rfl, bw_c1 (List.mem_of_getElem? (i := 16) (by decide +kernel)) rfl, bw_c3 (List.mem_of_getElem? (i := 196) rfl) rfl, by decide, by decide⟩
theorem pd_J1_indexOfChar_4cfef : (parseMethodDescriptor yJ1_indexOfChar_4cfef.desc).map (fun d => d.parameters.length) = some 4 := by decide +kernel
set_option maxRecDepth 20000 in
theorem ms_J1_indexOfChar_4cfef : MS yJ1_indexOfChar_4cfef cJ1_indexOfChar_4cfef 6 (some .int) := ⟨bw_c3 (List.mem_of_getElem? (i := 207) (by decide +kernel)) rfl, bw_c1 (List.mem_of_getElem? (i := 16) (by decide +kernel)) rfl, bw_c3 (List.mem_of_getElem? (i := 208) rfl) rfl, by decide, by decide⟩
theorem pd_J2_getChar_3b067 : (parseMethodDescriptor yJ2_getChar_3b067.desc).map (fun d => d.parameters.length) = some 2 := by decide +kernel
set_option maxRecDepth 20000 in
theorem ms_J2_getChar_3b067 : MS yJ2_getChar_3b067 cJ2_getChar_3b067 2 (some .char) := ⟨bw_c3 (List.mem_of_getElem? (i := 172) (by decide +kernel)) rfl, bw_c1 (List.mem_of_getElem? (i := 18) (by decide +kernel)) rfl, bw_c3 (List.mem_of_getElem? (i := 173) rfl) rfl, by decide, by decide⟩
theorem pd_J2_length_9d52b : (parseMethodDescriptor yJ2_length_9d52b.desc).map (fun d => d.parameters.length) = some 1 := by decide +kernel
set_option maxRecDepth 20000 in
theorem ms_J2_length_9d52b : MS yJ2_length_9d52b cJ2_length_9d52b 1 (some .int) := ⟨bw_c3 (List.mem_of_getElem? (i := 168) (by decide +kernel)) rfl, bw_c1 (List.mem_of_getElem? (i := 18) (by decide +kernel)) rfl, bw_c3 (List.mem_of_getElem? (i := 169) rfl) rfl, by decide, by decide⟩
theorem pd_J2_indexOf_4cfef : (parseMethodDescriptor yJ2_indexOf_4cfef.desc).map (fun d => d.parameters.length) = some 4 := by decide +kernel
set_option maxRecDepth 20000 in
theorem ms_J2_indexOf_4cfef : MS yJ2_indexOf_4cfef cJ2_indexOf_4cfef 4 (some .int) := ⟨bw_c3 (List.mem_of_getElem? (i := 210) (by decide +kernel)) rfl, bw_c1 (List.mem_of_getElem? (i := 18) (by decide +kernel)) rfl, bw_c3 (List.mem_of_getElem? (i := 211) rfl) rfl, by decide, by decide⟩
theorem pd_J2_indexOfChar_4cfef : (parseMethodDescriptor yJ2_indexOfChar_4cfef.desc).map (fun d => d.parameters.length) = some 4 := by decide +kernel
set_option maxRecDepth 20000 in
theorem ms_J2_indexOfChar_4cfef : MS yJ2_indexOfChar_4cfef cJ2_indexOfChar_4cfef 4 (some .int) := ⟨bw_c3 (List.mem_of_getElem? (i := 216) (by decide +kernel)) rfl, bw_c1 (List.mem_of_getElem? (i := 18) (by decide +kernel)) rfl, bw_c3 (List.mem_of_getElem? (i := 217) rfl) rfl, by decide, by decide⟩
theorem pd_J2_indexOfCharUnsafe_4cfef : (parseMethodDescriptor yJ2_indexOfCharUnsafe_4cfef.desc).map (fun d => d.parameters.length) = some 4 := by decide +kernel
set_option maxRecDepth 20000 in
theorem ms_J2_indexOfCharUnsafe_4cfef : MS yJ2_indexOfCharUnsafe_4cfef cJ2_indexOfCharUnsafe_4cfef 5 (some .int) := ⟨bw_c3 (List.mem_of_getElem? (i := 228) (by decide +kernel)) rfl, bw_c1 (List.mem_of_getElem? (i := 18) (by decide +kernel)) rfl, bw_c3 (List.mem_of_getElem? (i := 229) rfl) rfl, by decide, by decide⟩
theorem pd_J2_indexOfSupplementary_4cfef : (parseMethodDescriptor yJ2_indexOfSupplementary_4cfef.desc).map (fun d => d.parameters.length) = some 4 := by decide +kernel
set_option maxRecDepth 20000 in
theorem ms_J2_indexOfSupplementary_4cfef : MS yJ2_indexOfSupplementary_4cfef cJ2_indexOfSupplementary_4cfef 7 (some .int) := ⟨bw_c3 (List.mem_of_getElem? (i := 231) (by decide +kernel)) rfl, bw_c1 (List.mem_of_getElem? (i := 18) (by decide +kernel)) rfl, bw_c3 (List.mem_of_getElem? (i := 232) rfl) rfl, by decide, by decide⟩
theorem pd_J2_charAt_3b067 : (parseMethodDescriptor yJ2_charAt_3b067.desc).map (fun d => d.parameters.length) = some 2 := by decide +kernel
set_option maxRecDepth 20000 in
theorem ms_J2_charAt_3b067 : MS yJ2_charAt_3b067 cJ2_charAt_3b067 2 (some .char) := ⟨bw_c3 (List.mem_of_getElem? (i := 162) (by decide +kernel)) rfl, bw_c1 (List.mem_of_getElem? (i := 18) (by decide +kernel)) rfl, bw_c3 (List.mem_of_getElem? (i := 163) rfl) rfl, by decide, by decide⟩
theorem pd_J2_checkIndex_2214a : (parseMethodDescriptor yJ2_checkIndex_2214a.desc).map (fun d => d.parameters.length) = some 2 := by decide +kernel
set_option maxRecDepth 20000 in
theorem ms_J2_checkIndex_2214a : MS yJ2_checkIndex_2214a cJ2_checkIndex_2214a 2 none := ⟨bw_c3 (List.mem_of_getElem? (i := 165) (by decide +kernel)) rfl, bw_c1 (List.mem_of_getElem? (i := 18) (by decide +kernel)) rfl, bw_c3 (List.mem_of_getElem? (i := 166) rfl) rfl, by decide, by decide⟩
theorem pd_J2_checkBoundsBeginEnd_d044e : (parseMethodDescriptor yJ2_checkBoundsBeginEnd_d044e.desc).map (fun d => d.parameters.length) = some 3 := by decide +kernel
set_option maxRecDepth 20000 in
theorem ms_J2_checkBoundsBeginEnd_d044e : MS yJ2_checkBoundsBeginEnd_d044e cJ2_checkBoundsBeginEnd_d044e 3 none := ⟨bw_c3 (List.mem_of_getElem? (i := 219) (by decide +kernel)) rfl, bw_c1 (List.mem_of_getElem? (i := 18) (by decide +kernel)) rfl, bw_c3 (List.mem_of_getElem? (i := 220) rfl) rfl, by decide, by decide⟩
theorem pd_J7_fill_53178 : (parseMethodDescriptor yJ7_fill_53178.desc).map (fun d => d.parameters.length) = some 2 := by decide +kernel
set_option maxRecDepth 20000 in
theorem ms_J7_fill_53178 : MS yJ7_fill_53178 cJ7_fill_53178 4 none := ⟨bw_c3 (List.mem_of_getElem? (i := 20) (by decide +kernel)) rfl, bw_c1 (List.mem_of_getElem? (i := 13) (by decide +kernel)) rfl, bw_c3 (List.mem_of_getElem? (i := 21) rfl) rfl, by decide, by decide⟩
theorem pd_J3_checkIndex_8e157 : (parseMethodDescriptor yJ3_checkIndex_8e157.desc).map (fun d => d.parameters.length) = some 3 := by decide +kernel
set_option maxRecDepth 20000 in
theorem ms_J3_checkIndex_8e157 : MS yJ3_checkIndex_8e157 cJ3_checkIndex_8e157 3 (some .int) := ⟨bw_c3 (List.mem_of_getElem? (i := 159) (by decide +kernel)) rfl, bw_c1 (List.mem_of_getElem? (i := 17) (by decide +kernel)) rfl, bw_c3 (List.mem_of_getElem? (i := 160) rfl) rfl, by decide, by decide⟩
theorem pd_J3_checkFromToIndex_8c36e : (parseMethodDescriptor yJ3_checkFromToIndex_8c36e.desc).map (fun d => d.parameters.length) = some 4 := by decide +kernel
set_option maxRecDepth 20000 in
theorem ms_J3_checkFromToIndex_8c36e : MS yJ3_checkFromToIndex_8c36e cJ3_checkFromToIndex_8c36e 4 (some .int) := ⟨bw_c3 (List.mem_of_getElem? (i := 225) (by decide +kernel)) rfl, bw_c1 (List.mem_of_getElem? (i := 17) (by decide +kernel)) rfl, bw_c3 (List.mem_of_getElem? (i := 226) rfl) rfl, by decide, by decide⟩
theorem ok_0 : OK 103 0 11 := ⟨by decide, _, sh_0⟩
theorem fk_0_0 : FK 103 0 11 0 3 := ⟨by decide, _, sh_0, rfl⟩
theorem fk_0_1 : FK 103 0 11 1 5 := ⟨by decide, _, sh_0, rfl⟩
theorem fk_0_2 : FK 103 0 11 2 16 := ⟨by decide, _, sh_0, rfl⟩
theorem fk_0_3 : FK 103 0 11 3 23 := ⟨by decide, _, sh_0, rfl⟩
theorem fk_0_4 : FK 103 0 11 4 41 := ⟨by decide, _, sh_0, rfl⟩
theorem fk_0_5 : FK 103 0 11 5 53 := ⟨by decide, _, sh_0, rfl⟩
theorem fk_0_6 : FK 103 0 11 6 66 := ⟨by decide, _, sh_0, rfl⟩
theorem fk_0_7 : FK 103 0 11 7 82 := ⟨by decide, _, sh_0, rfl⟩
theorem fk_0_8 : FK 103 0 11 8 101 := ⟨by decide, _, sh_0, rfl⟩
theorem ok_1 : OK 103 1 8 := ⟨by decide, _, sh_1⟩
theorem fk_1_0 : FK 103 1 8 0 4 := ⟨by decide, _, sh_1, rfl⟩
theorem fk_1_1 : FK 103 1 8 1 0 := ⟨by decide, _, sh_1, rfl⟩
theorem ak_2 : AK 103 2 1 1000 0 := ⟨by decide, sh_2⟩
theorem ok_3 : OK 103 3 5 := ⟨by decide, _, sh_3⟩
theorem fk_3_0 : FK 103 3 5 0 6 := ⟨by decide, _, sh_3, rfl⟩
theorem fk_3_1 : FK 103 3 5 1 12 := ⟨by decide, _, sh_3, rfl⟩
theorem fk_3_2 : FK 103 3 5 2 0 := ⟨by decide, _, sh_3, rfl⟩
theorem fk_3_3 : FK 103 3 5 3 0 := ⟨by decide, _, sh_3, rfl⟩
theorem fk_3_4 : FK 103 3 5 4 0 := ⟨by decide, _, sh_3, rfl⟩
theorem fk_3_5 : FK 103 3 5 5 0 := ⟨by decide, _, sh_3, rfl⟩
theorem fk_3_6 : FK 103 3 5 6 0 := ⟨by decide, _, sh_3, rfl⟩
theorem fk_3_7 : FK 103 3 5 7 0 := ⟨by decide, _, sh_3, rfl⟩
theorem ok_4 : OK 103 4 2 := ⟨by decide, _, sh_4⟩
theorem fk_4_0 : FK 103 4 2 0 7 := ⟨by decide, _, sh_4, rfl⟩
theorem fk_4_1 : FK 103 4 2 1 0 := ⟨by decide, _, sh_4, rfl⟩
theorem fk_4_2 : FK 103 4 2 2 8 := ⟨by decide, _, sh_4, rfl⟩
theorem fk_4_3 : FK 103 4 2 3 9 := ⟨by decide, _, sh_4, rfl⟩
theorem fk_4_4 : FK 103 4 2 4 10 := ⟨by decide, _, sh_4, rfl⟩
theorem fk_4_5 : FK 103 4 2 5 11 := ⟨by decide, _, sh_4, rfl⟩
theorem fk_4_6 : FK 103 4 2 6 0 := ⟨by decide, _, sh_4, rfl⟩
theorem ak_5 : AK 103 5 0 10 0 := ⟨by decide, sh_5⟩
theorem ak_6 : AK 103 6 0 1000 0 := ⟨by decide, sh_6⟩
theorem ak_7 : AK 103 7 0 25 0 := ⟨by decide, sh_7⟩
theorem ak_8 : AK 103 8 0 25 0 := ⟨by decide, sh_8⟩
theorem ak_9 : AK 103 9 0 32 0 := ⟨by decide, sh_9⟩
theorem ok_10 : OK 103 10 9 := ⟨by decide, _, sh_10⟩
theorem fk_10_0 : FK 103 10 9 0 13 := ⟨by decide, _, sh_10, rfl⟩
theorem fk_10_1 : FK 103 10 9 1 14 := ⟨by decide, _, sh_10, rfl⟩
theorem fk_10_2 : FK 103 10 9 2 15 := ⟨by decide, _, sh_10, rfl⟩
theorem fk_10_3 : FK 103 10 9 3 3 := ⟨by decide, _, sh_10, rfl⟩
theorem fk_10_4 : FK 103 10 9 4 0 := ⟨by decide, _, sh_10, rfl⟩
theorem ak_11 : AK 103 11 0 1001 0 := ⟨by decide, sh_11⟩
theorem ak_12 : AK 103 12 0 1001 0 := ⟨by decide, sh_12⟩
theorem ak_13 : AK 103 13 0 1001 0 := ⟨by decide, sh_13⟩
theorem ok_14 : OK 103 14 4 := ⟨by decide, _, sh_14⟩
theorem fk_14_0 : FK 103 14 4 0 17 := ⟨by decide, _, sh_14, rfl⟩
theorem fk_14_1 : FK 103 14 4 1 0 := ⟨by decide, _, sh_14, rfl⟩
theorem fk_14_2 : FK 103 14 4 2 0 := ⟨by decide, _, sh_14, rfl⟩
theorem fk_14_3 : FK 103 14 4 3 0 := ⟨by decide, _, sh_14, rfl⟩
theorem fk_14_4 : FK 103 14 4 4 0 := ⟨by decide, _, sh_14, rfl⟩
theorem ok_15 : OK 103 15 2 := ⟨by decide, _, sh_15⟩
theorem fk_15_0 : FK 103 15 2 0 18 := ⟨by decide, _, sh_15, rfl⟩
theorem fk_15_1 : FK 103 15 2 1 0 := ⟨by decide, _, sh_15, rfl⟩
theorem fk_15_2 : FK 103 15 2 2 19 := ⟨by decide, _, sh_15, rfl⟩
theorem fk_15_3 : FK 103 15 2 3 20 := ⟨by decide, _, sh_15, rfl⟩
theorem fk_15_4 : FK 103 15 2 4 21 := ⟨by decide, _, sh_15, rfl⟩
theorem fk_15_5 : FK 103 15 2 5 22 := ⟨by decide, _, sh_15, rfl⟩
theorem fk_15_6 : FK 103 15 2 6 0 := ⟨by decide, _, sh_15, rfl⟩
theorem ak_16 : AK 103 16 0 10 0 := ⟨by decide, sh_16⟩
theorem ak_17 : AK 103 17 0 1000 0 := ⟨by decide, sh_17⟩
theorem ak_18 : AK 103 18 0 25 0 := ⟨by decide, sh_18⟩
theorem ak_19 : AK 103 19 0 25 0 := ⟨by decide, sh_19⟩
theorem ak_20 : AK 103 20 0 32 0 := ⟨by decide, sh_20⟩
theorem ok_21 : OK 103 21 0 := ⟨by decide, _, sh_21⟩
theorem fk_21_0 : FK 103 21 0 0 16 := ⟨by decide, _, sh_21, rfl⟩
theorem fk_21_1 : FK 103 21 0 1 24 := ⟨by decide, _, sh_21, rfl⟩
theorem fk_21_2 : FK 103 21 0 2 25 := ⟨by decide, _, sh_21, rfl⟩
theorem fk_21_3 : FK 103 21 0 3 32 := ⟨by decide, _, sh_21, rfl⟩
theorem fk_21_4 : FK 103 21 0 4 33 := ⟨by decide, _, sh_21, rfl⟩
theorem fk_21_5 : FK 103 21 0 5 34 := ⟨by decide, _, sh_21, rfl⟩
theorem fk_21_6 : FK 103 21 0 6 35 := ⟨by decide, _, sh_21, rfl⟩
theorem fk_21_7 : FK 103 21 0 7 36 := ⟨by decide, _, sh_21, rfl⟩
theorem fk_21_8 : FK 103 21 0 8 37 := ⟨by decide, _, sh_21, rfl⟩
theorem fk_21_9 : FK 103 21 0 9 38 := ⟨by decide, _, sh_21, rfl⟩
theorem fk_21_10 : FK 103 21 0 10 39 := ⟨by decide, _, sh_21, rfl⟩
theorem fk_21_11 : FK 103 21 0 11 40 := ⟨by decide, _, sh_21, rfl⟩
theorem fk_21_12 : FK 103 21 0 12 0 := ⟨by decide, _, sh_21, rfl⟩
theorem fk_21_13 : FK 103 21 0 13 0 := ⟨by decide, _, sh_21, rfl⟩
theorem ak_22 : AK 103 22 0 6 0 := ⟨by decide, sh_22⟩
theorem ak_23 : AK 103 23 4 6 24 := ⟨by decide, sh_23⟩
theorem ak_24 : AK 103 24 0 61 0 := ⟨by decide, sh_24⟩
theorem ak_25 : AK 103 25 0 61 0 := ⟨by decide, sh_25⟩
theorem ak_26 : AK 103 26 0 61 0 := ⟨by decide, sh_26⟩
theorem ak_27 : AK 103 27 0 61 0 := ⟨by decide, sh_27⟩
theorem ak_28 : AK 103 28 0 61 0 := ⟨by decide, sh_28⟩
theorem ak_29 : AK 103 29 0 61 0 := ⟨by decide, sh_29⟩
theorem ak_30 : AK 103 30 0 3072 0 := ⟨by decide, sh_30⟩
theorem ak_31 : AK 103 31 0 4096 0 := ⟨by decide, sh_31⟩
theorem ak_32 : AK 103 32 0 3072 0 := ⟨by decide, sh_32⟩
theorem ak_33 : AK 103 33 0 3072 0 := ⟨by decide, sh_33⟩
theorem ak_34 : AK 103 34 0 3072 0 := ⟨by decide, sh_34⟩
theorem ak_35 : AK 103 35 0 3072 0 := ⟨by decide, sh_35⟩
theorem ak_36 : AK 103 36 0 21504 0 := ⟨by decide, sh_36⟩
theorem ak_37 : AK 103 37 0 3072 0 := ⟨by decide, sh_37⟩
theorem ak_38 : AK 103 38 0 3072 0 := ⟨by decide, sh_38⟩
theorem ok_39 : OK 103 39 3 := ⟨by decide, _, sh_39⟩
theorem fk_39_0 : FK 103 39 3 0 0 := ⟨by decide, _, sh_39, rfl⟩
theorem fk_39_1 : FK 103 39 3 1 0 := ⟨by decide, _, sh_39, rfl⟩
theorem fk_39_2 : FK 103 39 3 2 0 := ⟨by decide, _, sh_39, rfl⟩
theorem fk_39_3 : FK 103 39 3 3 0 := ⟨by decide, _, sh_39, rfl⟩
theorem fk_39_4 : FK 103 39 3 4 23 := ⟨by decide, _, sh_39, rfl⟩
theorem fk_39_5 : FK 103 39 3 5 42 := ⟨by decide, _, sh_39, rfl⟩
theorem fk_39_6 : FK 103 39 3 6 43 := ⟨by decide, _, sh_39, rfl⟩
theorem fk_39_7 : FK 103 39 3 7 44 := ⟨by decide, _, sh_39, rfl⟩
theorem fk_39_8 : FK 103 39 3 8 45 := ⟨by decide, _, sh_39, rfl⟩
theorem fk_39_9 : FK 103 39 3 9 46 := ⟨by decide, _, sh_39, rfl⟩
theorem fk_39_10 : FK 103 39 3 10 47 := ⟨by decide, _, sh_39, rfl⟩
theorem fk_39_11 : FK 103 39 3 11 50 := ⟨by decide, _, sh_39, rfl⟩
theorem fk_39_12 : FK 103 39 3 12 0 := ⟨by decide, _, sh_39, rfl⟩
theorem fk_39_13 : FK 103 39 3 13 0 := ⟨by decide, _, sh_39, rfl⟩
theorem ak_40 : AK 103 40 0 256 0 := ⟨by decide, sh_40⟩
theorem ak_41 : AK 103 41 0 256 0 := ⟨by decide, sh_41⟩
theorem ak_42 : AK 103 42 0 3072 0 := ⟨by decide, sh_42⟩
theorem ak_43 : AK 103 43 0 3072 0 := ⟨by decide, sh_43⟩
theorem ak_44 : AK 103 44 0 3072 0 := ⟨by decide, sh_44⟩
theorem ak_45 : AK 103 45 4 2 46 := ⟨by decide, sh_45⟩
theorem ak_46 : AK 103 46 0 3072 0 := ⟨by decide, sh_46⟩
theorem ak_47 : AK 103 47 0 3072 0 := ⟨by decide, sh_47⟩
theorem ak_48 : AK 103 48 4 2 49 := ⟨by decide, sh_48⟩
theorem ak_49 : AK 103 49 0 256 0 := ⟨by decide, sh_49⟩
theorem ak_50 : AK 103 50 0 256 0 := ⟨by decide, sh_50⟩
theorem ok_51 : OK 103 51 6 := ⟨by decide, _, sh_51⟩
theorem fk_51_0 : FK 103 51 6 0 60 := ⟨by decide, _, sh_51, rfl⟩
theorem fk_51_1 : FK 103 51 6 1 54 := ⟨by decide, _, sh_51, rfl⟩
theorem fk_51_2 : FK 103 51 6 2 55 := ⟨by decide, _, sh_51, rfl⟩
theorem fk_51_3 : FK 103 51 6 3 56 := ⟨by decide, _, sh_51, rfl⟩
theorem fk_51_4 : FK 103 51 6 4 57 := ⟨by decide, _, sh_51, rfl⟩
theorem fk_51_5 : FK 103 51 6 5 58 := ⟨by decide, _, sh_51, rfl⟩
theorem fk_51_6 : FK 103 51 6 6 59 := ⟨by decide, _, sh_51, rfl⟩
theorem fk_51_7 : FK 103 51 6 7 0 := ⟨by decide, _, sh_51, rfl⟩
theorem fk_51_8 : FK 103 51 6 8 0 := ⟨by decide, _, sh_51, rfl⟩
theorem fk_51_9 : FK 103 51 6 9 0 := ⟨by decide, _, sh_51, rfl⟩
theorem fk_51_10 : FK 103 51 6 10 0 := ⟨by decide, _, sh_51, rfl⟩
theorem fk_51_11 : FK 103 51 6 11 0 := ⟨by decide, _, sh_51, rfl⟩
theorem fk_51_12 : FK 103 51 6 12 0 := ⟨by decide, _, sh_51, rfl⟩
theorem fk_51_13 : FK 103 51 6 13 0 := ⟨by decide, _, sh_51, rfl⟩
theorem fk_51_14 : FK 103 51 6 14 0 := ⟨by decide, _, sh_51, rfl⟩
theorem fk_51_15 : FK 103 51 6 15 0 := ⟨by decide, _, sh_51, rfl⟩
theorem fk_51_16 : FK 103 51 6 16 0 := ⟨by decide, _, sh_51, rfl⟩
theorem ak_52 : AK 103 52 0 24 0 := ⟨by decide, sh_52⟩
theorem ak_53 : AK 103 53 0 24 0 := ⟨by decide, sh_53⟩
theorem ak_54 : AK 103 54 0 24 0 := ⟨by decide, sh_54⟩
theorem ak_55 : AK 103 55 0 8 0 := ⟨by decide, sh_55⟩
theorem ak_56 : AK 103 56 0 8 0 := ⟨by decide, sh_56⟩
theorem ak_57 : AK 103 57 0 8 0 := ⟨by decide, sh_57⟩
theorem ok_58 : OK 103 58 2 := ⟨by decide, _, sh_58⟩
theorem fk_58_0 : FK 103 58 2 0 61 := ⟨by decide, _, sh_58, rfl⟩
theorem fk_58_1 : FK 103 58 2 1 0 := ⟨by decide, _, sh_58, rfl⟩
theorem fk_58_2 : FK 103 58 2 2 62 := ⟨by decide, _, sh_58, rfl⟩
theorem fk_58_3 : FK 103 58 2 3 63 := ⟨by decide, _, sh_58, rfl⟩
theorem fk_58_4 : FK 103 58 2 4 64 := ⟨by decide, _, sh_58, rfl⟩
theorem fk_58_5 : FK 103 58 2 5 65 := ⟨by decide, _, sh_58, rfl⟩
theorem fk_58_6 : FK 103 58 2 6 0 := ⟨by decide, _, sh_58, rfl⟩
theorem ak_59 : AK 103 59 0 10 0 := ⟨by decide, sh_59⟩
theorem ak_60 : AK 103 60 0 1000 0 := ⟨by decide, sh_60⟩
theorem ak_61 : AK 103 61 0 25 0 := ⟨by decide, sh_61⟩
theorem ak_62 : AK 103 62 0 25 0 := ⟨by decide, sh_62⟩
theorem ak_63 : AK 103 63 0 32 0 := ⟨by decide, sh_63⟩
theorem ok_64 : OK 103 64 10 := ⟨by decide, _, sh_64⟩
theorem fk_64_0 : FK 103 64 10 0 67 := ⟨by decide, _, sh_64, rfl⟩
theorem fk_64_1 : FK 103 64 10 1 68 := ⟨by decide, _, sh_64, rfl⟩
theorem fk_64_2 : FK 103 64 10 2 69 := ⟨by decide, _, sh_64, rfl⟩
theorem fk_64_3 : FK 103 64 10 3 70 := ⟨by decide, _, sh_64, rfl⟩
theorem fk_64_4 : FK 103 64 10 4 71 := ⟨by decide, _, sh_64, rfl⟩
theorem fk_64_5 : FK 103 64 10 5 72 := ⟨by decide, _, sh_64, rfl⟩
theorem fk_64_6 : FK 103 64 10 6 0 := ⟨by decide, _, sh_64, rfl⟩
theorem fk_64_7 : FK 103 64 10 7 0 := ⟨by decide, _, sh_64, rfl⟩
theorem fk_64_8 : FK 103 64 10 8 0 := ⟨by decide, _, sh_64, rfl⟩
theorem fk_64_9 : FK 103 64 10 9 53 := ⟨by decide, _, sh_64, rfl⟩
theorem fk_64_10 : FK 103 64 10 10 75 := ⟨by decide, _, sh_64, rfl⟩
theorem fk_64_11 : FK 103 64 10 11 76 := ⟨by decide, _, sh_64, rfl⟩
theorem fk_64_12 : FK 103 64 10 12 77 := ⟨by decide, _, sh_64, rfl⟩
theorem fk_64_13 : FK 103 64 10 13 78 := ⟨by decide, _, sh_64, rfl⟩
theorem fk_64_14 : FK 103 64 10 14 79 := ⟨by decide, _, sh_64, rfl⟩
theorem fk_64_15 : FK 103 64 10 15 80 := ⟨by decide, _, sh_64, rfl⟩
theorem fk_64_16 : FK 103 64 10 16 81 := ⟨by decide, _, sh_64, rfl⟩
theorem fk_64_17 : FK 103 64 10 17 0 := ⟨by decide, _, sh_64, rfl⟩
theorem fk_64_18 : FK 103 64 10 18 0 := ⟨by decide, _, sh_64, rfl⟩
theorem fk_64_19 : FK 103 64 10 19 0 := ⟨by decide, _, sh_64, rfl⟩
theorem ak_65 : AK 103 65 0 24 0 := ⟨by decide, sh_65⟩
theorem ak_66 : AK 103 66 0 24 0 := ⟨by decide, sh_66⟩
theorem ak_67 : AK 103 67 0 24 0 := ⟨by decide, sh_67⟩
theorem ak_68 : AK 103 68 0 24 0 := ⟨by decide, sh_68⟩
theorem ak_69 : AK 103 69 0 2 0 := ⟨by decide, sh_69⟩
theorem ak_70 : AK 103 70 4 2 71 := ⟨by decide, sh_70⟩
theorem ak_71 : AK 103 71 0 5 0 := ⟨by decide, sh_71⟩
theorem ak_72 : AK 103 72 0 5 0 := ⟨by decide, sh_72⟩
theorem ak_73 : AK 103 73 0 2 0 := ⟨by decide, sh_73⟩
theorem ak_74 : AK 103 74 0 2 0 := ⟨by decide, sh_74⟩
theorem ak_75 : AK 103 75 0 2 0 := ⟨by decide, sh_75⟩
theorem ak_76 : AK 103 76 0 2 0 := ⟨by decide, sh_76⟩
theorem ak_77 : AK 103 77 0 2 0 := ⟨by decide, sh_77⟩
theorem ak_78 : AK 103 78 0 6 0 := ⟨by decide, sh_78⟩
theorem ak_79 : AK 103 79 0 6 0 := ⟨by decide, sh_79⟩
theorem ok_80 : OK 103 80 1 := ⟨by decide, _, sh_80⟩
theorem fk_80_0 : FK 103 80 1 0 83 := ⟨by decide, _, sh_80, rfl⟩
theorem fk_80_1 : FK 103 80 1 1 84 := ⟨by decide, _, sh_80, rfl⟩
theorem fk_80_2 : FK 103 80 1 2 53 := ⟨by decide, _, sh_80, rfl⟩
theorem fk_80_3 : FK 103 80 1 3 85 := ⟨by decide, _, sh_80, rfl⟩
theorem fk_80_4 : FK 103 80 1 4 0 := ⟨by decide, _, sh_80, rfl⟩
theorem ak_81 : AK 103 81 0 3 0 := ⟨by decide, sh_81⟩
theorem ak_82 : AK 103 82 0 3 0 := ⟨by decide, sh_82⟩
theorem ok_83 : OK 103 83 10 := ⟨by decide, _, sh_83⟩
theorem fk_83_0 : FK 103 83 10 0 86 := ⟨by decide, _, sh_83, rfl⟩
theorem fk_83_1 : FK 103 83 10 1 87 := ⟨by decide, _, sh_83, rfl⟩
theorem fk_83_2 : FK 103 83 10 2 88 := ⟨by decide, _, sh_83, rfl⟩
theorem fk_83_3 : FK 103 83 10 3 89 := ⟨by decide, _, sh_83, rfl⟩
theorem fk_83_4 : FK 103 83 10 4 90 := ⟨by decide, _, sh_83, rfl⟩
theorem fk_83_5 : FK 103 83 10 5 91 := ⟨by decide, _, sh_83, rfl⟩
theorem fk_83_6 : FK 103 83 10 6 0 := ⟨by decide, _, sh_83, rfl⟩
theorem fk_83_7 : FK 103 83 10 7 0 := ⟨by decide, _, sh_83, rfl⟩
theorem fk_83_8 : FK 103 83 10 8 0 := ⟨by decide, _, sh_83, rfl⟩
theorem fk_83_9 : FK 103 83 10 9 53 := ⟨by decide, _, sh_83, rfl⟩
theorem fk_83_10 : FK 103 83 10 10 94 := ⟨by decide, _, sh_83, rfl⟩
theorem fk_83_11 : FK 103 83 10 11 95 := ⟨by decide, _, sh_83, rfl⟩
theorem fk_83_12 : FK 103 83 10 12 96 := ⟨by decide, _, sh_83, rfl⟩
theorem fk_83_13 : FK 103 83 10 13 97 := ⟨by decide, _, sh_83, rfl⟩
theorem fk_83_14 : FK 103 83 10 14 98 := ⟨by decide, _, sh_83, rfl⟩
theorem fk_83_15 : FK 103 83 10 15 99 := ⟨by decide, _, sh_83, rfl⟩
theorem fk_83_16 : FK 103 83 10 16 100 := ⟨by decide, _, sh_83, rfl⟩
theorem fk_83_17 : FK 103 83 10 17 0 := ⟨by decide, _, sh_83, rfl⟩
theorem fk_83_18 : FK 103 83 10 18 0 := ⟨by decide, _, sh_83, rfl⟩
theorem fk_83_19 : FK 103 83 10 19 0 := ⟨by decide, _, sh_83, rfl⟩
theorem ak_84 : AK 103 84 0 24 0 := ⟨by decide, sh_84⟩
theorem ak_85 : AK 103 85 0 24 0 := ⟨by decide, sh_85⟩
theorem ak_86 : AK 103 86 0 24 0 := ⟨by decide, sh_86⟩
theorem ak_87 : AK 103 87 0 24 0 := ⟨by decide, sh_87⟩
theorem ak_88 : AK 103 88 0 2 0 := ⟨by decide, sh_88⟩
theorem ak_89 : AK 103 89 4 2 90 := ⟨by decide, sh_89⟩
theorem ak_90 : AK 103 90 0 5 0 := ⟨by decide, sh_90⟩
theorem ak_91 : AK 103 91 0 5 0 := ⟨by decide, sh_91⟩
theorem ak_92 : AK 103 92 0 2 0 := ⟨by decide, sh_92⟩
theorem ak_93 : AK 103 93 0 2 0 := ⟨by decide, sh_93⟩
theorem ak_94 : AK 103 94 0 2 0 := ⟨by decide, sh_94⟩
theorem ak_95 : AK 103 95 0 2 0 := ⟨by decide, sh_95⟩
theorem ak_96 : AK 103 96 0 2 0 := ⟨by decide, sh_96⟩
theorem ak_97 : AK 103 97 0 6 0 := ⟨by decide, sh_97⟩
theorem ak_98 : AK 103 98 0 6 0 := ⟨by decide, sh_98⟩
theorem ok_99 : OK 103 99 7 := ⟨by decide, _, sh_99⟩
theorem fk_99_0 : FK 103 99 7 0 0 := ⟨by decide, _, sh_99, rfl⟩
theorem fk_99_1 : FK 103 99 7 1 102 := ⟨by decide, _, sh_99, rfl⟩
theorem fk_99_2 : FK 103 99 7 2 103 := ⟨by decide, _, sh_99, rfl⟩
theorem fk_99_3 : FK 103 99 7 3 104 := ⟨by decide, _, sh_99, rfl⟩
theorem fk_99_4 : FK 103 99 7 4 0 := ⟨by decide, _, sh_99, rfl⟩
theorem fk_99_5 : FK 103 99 7 5 0 := ⟨by decide, _, sh_99, rfl⟩
theorem fk_99_6 : FK 103 99 7 6 0 := ⟨by decide, _, sh_99, rfl⟩
theorem ak_100 : AK 103 100 0 40 0 := ⟨by decide, sh_100⟩
theorem ak_101 : AK 103 101 0 40 0 := ⟨by decide, sh_101⟩
theorem ak_102 : AK 103 102 0 40 0 := ⟨by decide, sh_102⟩
theorem ok_103 : OK 154 103 12 := ⟨by decide, _, sh_103⟩
theorem fk_103_0 : FK 154 103 12 0 0 := ⟨by decide, _, sh_103, rfl⟩
theorem fk_103_1 : FK 154 103 12 1 0 := ⟨by decide, _, sh_103, rfl⟩
theorem fk_103_2 : FK 154 103 12 2 0 := ⟨by decide, _, sh_103, rfl⟩
theorem fk_103_3 : FK 154 103 12 3 106 := ⟨by decide, _, sh_103, rfl⟩
theorem fk_103_4 : FK 154 103 12 4 0 := ⟨by decide, _, sh_103, rfl⟩
theorem fk_103_5 : FK 154 103 12 5 0 := ⟨by decide, _, sh_103, rfl⟩
theorem fk_103_6 : FK 154 103 12 6 0 := ⟨by decide, _, sh_103, rfl⟩
theorem fk_103_7 : FK 154 103 12 7 0 := ⟨by decide, _, sh_103, rfl⟩
theorem fk_103_8 : FK 154 103 12 8 1 := ⟨by decide, _, sh_103, rfl⟩
theorem fk_103_9 : FK 154 103 12 9 0 := ⟨by decide, _, sh_103, rfl⟩
theorem fk_103_10 : FK 154 103 12 10 0 := ⟨by decide, _, sh_103, rfl⟩
theorem fk_103_11 : FK 154 103 12 11 107 := ⟨by decide, _, sh_103, rfl⟩
theorem fk_103_12 : FK 154 103 12 12 108 := ⟨by decide, _, sh_103, rfl⟩
theorem fk_103_13 : FK 154 103 12 13 109 := ⟨by decide, _, sh_103, rfl⟩
theorem fk_103_14 : FK 154 103 12 14 110 := ⟨by decide, _, sh_103, rfl⟩
theorem fk_103_15 : FK 154 103 12 15 111 := ⟨by decide, _, sh_103, rfl⟩
theorem fk_103_16 : FK 154 103 12 16 112 := ⟨by decide, _, sh_103, rfl⟩
theorem fk_103_17 : FK 154 103 12 17 113 := ⟨by decide, _, sh_103, rfl⟩
theorem fk_103_18 : FK 154 103 12 18 0 := ⟨by decide, _, sh_103, rfl⟩
theorem fk_103_19 : FK 154 103 12 19 0 := ⟨by decide, _, sh_103, rfl⟩
theorem fk_103_20 : FK 154 103 12 20 0 := ⟨by decide, _, sh_103, rfl⟩
theorem fk_103_21 : FK 154 103 12 21 114 := ⟨by decide, _, sh_103, rfl⟩
theorem fk_103_22 : FK 154 103 12 22 115 := ⟨by decide, _, sh_103, rfl⟩
theorem fk_103_23 : FK 154 103 12 23 116 := ⟨by decide, _, sh_103, rfl⟩
theorem fk_103_24 : FK 154 103 12 24 117 := ⟨by decide, _, sh_103, rfl⟩
theorem fk_103_25 : FK 154 103 12 25 118 := ⟨by decide, _, sh_103, rfl⟩
theorem fk_103_26 : FK 154 103 12 26 119 := ⟨by decide, _, sh_103, rfl⟩
theorem fk_103_27 : FK 154 103 12 27 120 := ⟨by decide, _, sh_103, rfl⟩
theorem fk_103_28 : FK 154 103 12 28 121 := ⟨by decide, _, sh_103, rfl⟩
theorem fk_103_29 : FK 154 103 12 29 122 := ⟨by decide, _, sh_103, rfl⟩
theorem fk_103_30 : FK 154 103 12 30 123 := ⟨by decide, _, sh_103, rfl⟩
theorem fk_103_31 : FK 154 103 12 31 124 := ⟨by decide, _, sh_103, rfl⟩
theorem fk_103_32 : FK 154 103 12 32 125 := ⟨by decide, _, sh_103, rfl⟩
theorem fk_103_33 : FK 154 103 12 33 0 := ⟨by decide, _, sh_103, rfl⟩
theorem fk_103_34 : FK 154 103 12 34 0 := ⟨by decide, _, sh_103, rfl⟩
theorem fk_103_35 : FK 154 103 12 35 0 := ⟨by decide, _, sh_103, rfl⟩
theorem fk_103_36 : FK 154 103 12 36 0 := ⟨by decide, _, sh_103, rfl⟩
theorem fk_103_37 : FK 154 103 12 37 0 := ⟨by decide, _, sh_103, rfl⟩
theorem fk_103_38 : FK 154 103 12 38 0 := ⟨by decide, _, sh_103, rfl⟩
theorem fk_103_39 : FK 154 103 12 39 126 := ⟨by decide, _, sh_103, rfl⟩
theorem fk_103_40 : FK 154 103 12 40 127 := ⟨by decide, _, sh_103, rfl⟩
theorem fk_103_41 : FK 154 103 12 41 128 := ⟨by decide, _, sh_103, rfl⟩
theorem fk_103_42 : FK 154 103 12 42 129 := ⟨by decide, _, sh_103, rfl⟩
theorem fk_103_43 : FK 154 103 12 43 130 := ⟨by decide, _, sh_103, rfl⟩
theorem fk_103_44 : FK 154 103 12 44 131 := ⟨by decide, _, sh_103, rfl⟩
theorem fk_103_45 : FK 154 103 12 45 132 := ⟨by decide, _, sh_103, rfl⟩
theorem fk_103_46 : FK 154 103 12 46 0 := ⟨by decide, _, sh_103, rfl⟩
theorem fk_103_47 : FK 154 103 12 47 133 := ⟨by decide, _, sh_103, rfl⟩
theorem fk_103_48 : FK 154 103 12 48 134 := ⟨by decide, _, sh_103, rfl⟩
theorem fk_103_49 : FK 154 103 12 49 135 := ⟨by decide, _, sh_103, rfl⟩
theorem fk_103_50 : FK 154 103 12 50 0 := ⟨by decide, _, sh_103, rfl⟩
theorem fk_103_51 : FK 154 103 12 51 136 := ⟨by decide, _, sh_103, rfl⟩
theorem fk_103_52 : FK 154 103 12 52 137 := ⟨by decide, _, sh_103, rfl⟩
theorem fk_103_53 : FK 154 103 12 53 0 := ⟨by decide, _, sh_103, rfl⟩
theorem fk_103_54 : FK 154 103 12 54 0 := ⟨by decide, _, sh_103, rfl⟩
theorem fk_103_55 : FK 154 103 12 55 0 := ⟨by decide, _, sh_103, rfl⟩
theorem fk_103_56 : FK 154 103 12 56 0 := ⟨by decide, _, sh_103, rfl⟩
theorem fk_103_57 : FK 154 103 12 57 0 := ⟨by decide, _, sh_103, rfl⟩
theorem fk_103_58 : FK 154 103 12 58 138 := ⟨by decide, _, sh_103, rfl⟩
theorem fk_103_59 : FK 154 103 12 59 139 := ⟨by decide, _, sh_103, rfl⟩
theorem fk_103_60 : FK 154 103 12 60 140 := ⟨by decide, _, sh_103, rfl⟩
theorem fk_103_61 : FK 154 103 12 61 0 := ⟨by decide, _, sh_103, rfl⟩
theorem fk_103_62 : FK 154 103 12 62 141 := ⟨by decide, _, sh_103, rfl⟩
theorem fk_103_63 : FK 154 103 12 63 142 := ⟨by decide, _, sh_103, rfl⟩
theorem fk_103_64 : FK 154 103 12 64 143 := ⟨by decide, _, sh_103, rfl⟩
theorem fk_103_65 : FK 154 103 12 65 0 := ⟨by decide, _, sh_103, rfl⟩
theorem fk_103_66 : FK 154 103 12 66 144 := ⟨by decide, _, sh_103, rfl⟩
theorem fk_103_67 : FK 154 103 12 67 145 := ⟨by decide, _, sh_103, rfl⟩
theorem fk_103_68 : FK 154 103 12 68 146 := ⟨by decide, _, sh_103, rfl⟩
theorem fk_103_69 : FK 154 103 12 69 147 := ⟨by decide, _, sh_103, rfl⟩
theorem fk_103_70 : FK 154 103 12 70 148 := ⟨by decide, _, sh_103, rfl⟩
theorem fk_103_71 : FK 154 103 12 71 149 := ⟨by decide, _, sh_103, rfl⟩
theorem fk_103_72 : FK 154 103 12 72 150 := ⟨by decide, _, sh_103, rfl⟩
theorem fk_103_73 : FK 154 103 12 73 151 := ⟨by decide, _, sh_103, rfl⟩
theorem fk_103_74 : FK 154 103 12 74 0 := ⟨by decide, _, sh_103, rfl⟩
theorem fk_103_75 : FK 154 103 12 75 0 := ⟨by decide, _, sh_103, rfl⟩
theorem fk_103_76 : FK 154 103 12 76 152 := ⟨by decide, _, sh_103, rfl⟩
theorem fk_103_77 : FK 154 103 12 77 153 := ⟨by decide, _, sh_103, rfl⟩
theorem fk_103_78 : FK 154 103 12 78 154 := ⟨by decide, _, sh_103, rfl⟩
theorem fk_103_79 : FK 154 103 12 79 0 := ⟨by decide, _, sh_103, rfl⟩
theorem fk_103_80 : FK 154 103 12 80 0 := ⟨by decide, _, sh_103, rfl⟩
theorem fk_103_81 : FK 154 103 12 81 0 := ⟨by decide, _, sh_103, rfl⟩
theorem ak_104 : AK 154 104 0 1000 0 := ⟨by decide, sh_104⟩
theorem ak_105 : AK 154 105 2 26 0 := ⟨by decide, sh_105⟩
theorem ak_106 : AK 154 106 0 26 0 := ⟨by decide, sh_106⟩
theorem ak_107 : AK 154 107 0 26 0 := ⟨by decide, sh_107⟩
theorem ak_108 : AK 154 108 2 26 0 := ⟨by decide, sh_108⟩
theorem ak_109 : AK 154 109 0 26 0 := ⟨by decide, sh_109⟩
theorem ak_110 : AK 154 110 0 26 0 := ⟨by decide, sh_110⟩
theorem ak_111 : AK 154 111 0 4000 0 := ⟨by decide, sh_111⟩
theorem ak_112 : AK 154 112 0 7 0 := ⟨by decide, sh_112⟩
theorem ak_113 : AK 154 113 2 7 0 := ⟨by decide, sh_113⟩
theorem ak_114 : AK 154 114 0 7 0 := ⟨by decide, sh_114⟩
theorem ak_115 : AK 154 115 0 7 0 := ⟨by decide, sh_115⟩
theorem ak_116 : AK 154 116 0 7 0 := ⟨by decide, sh_116⟩
theorem ak_117 : AK 154 117 0 7 0 := ⟨by decide, sh_117⟩
theorem ak_118 : AK 154 118 0 7 0 := ⟨by decide, sh_118⟩
theorem ak_119 : AK 154 119 0 7 0 := ⟨by decide, sh_119⟩
theorem ak_120 : AK 154 120 0 7 0 := ⟨by decide, sh_120⟩
theorem ak_121 : AK 154 121 0 7 0 := ⟨by decide, sh_121⟩
theorem ak_122 : AK 154 122 0 7 0 := ⟨by decide, sh_122⟩
theorem ak_123 : AK 154 123 0 60 0 := ⟨by decide, sh_123⟩
theorem ak_124 : AK 154 124 0 3072 0 := ⟨by decide, sh_124⟩
theorem ak_125 : AK 154 125 0 3072 0 := ⟨by decide, sh_125⟩
theorem ak_126 : AK 154 126 0 3072 0 := ⟨by decide, sh_126⟩
theorem ak_127 : AK 154 127 0 3072 0 := ⟨by decide, sh_127⟩
theorem ak_128 : AK 154 128 2 3072 0 := ⟨by decide, sh_128⟩
theorem ak_129 : AK 154 129 0 21504 0 := ⟨by decide, sh_129⟩
theorem ak_130 : AK 154 130 0 3072 0 := ⟨by decide, sh_130⟩
theorem ak_131 : AK 154 131 0 12288 0 := ⟨by decide, sh_131⟩
theorem ak_132 : AK 154 132 0 4 0 := ⟨by decide, sh_132⟩
theorem ak_133 : AK 154 133 0 3072 0 := ⟨by decide, sh_133⟩
theorem ak_134 : AK 154 134 0 1024 0 := ⟨by decide, sh_134⟩
theorem ak_135 : AK 154 135 0 4 0 := ⟨by decide, sh_135⟩
theorem ak_136 : AK 154 136 0 24 0 := ⟨by decide, sh_136⟩
theorem ak_137 : AK 154 137 0 24 0 := ⟨by decide, sh_137⟩
theorem ak_138 : AK 154 138 0 24 0 := ⟨by decide, sh_138⟩
theorem ak_139 : AK 154 139 0 8 0 := ⟨by decide, sh_139⟩
theorem ak_140 : AK 154 140 0 8 0 := ⟨by decide, sh_140⟩
theorem ak_141 : AK 154 141 0 8 0 := ⟨by decide, sh_141⟩
theorem ak_142 : AK 154 142 0 24 0 := ⟨by decide, sh_142⟩
theorem ak_143 : AK 154 143 0 24 0 := ⟨by decide, sh_143⟩
theorem ak_144 : AK 154 144 0 24 0 := ⟨by decide, sh_144⟩
theorem ak_145 : AK 154 145 0 2 0 := ⟨by decide, sh_145⟩
theorem ak_146 : AK 154 146 0 2 0 := ⟨by decide, sh_146⟩
theorem ak_147 : AK 154 147 0 2 0 := ⟨by decide, sh_147⟩
theorem ak_148 : AK 154 148 0 10 0 := ⟨by decide, sh_148⟩
theorem ak_149 : AK 154 149 0 2 0 := ⟨by decide, sh_149⟩
theorem ak_150 : AK 154 150 0 40 0 := ⟨by decide, sh_150⟩
theorem ak_151 : AK 154 151 0 40 0 := ⟨by decide, sh_151⟩
theorem ak_152 : AK 154 152 0 40 0 := ⟨by decide, sh_152⟩
theorem ak_153 : AK 154 153 3 1 0 := ⟨by decide, sh_153⟩
