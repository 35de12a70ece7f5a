theorem gs0 {w : Cond} (i : Nat) (h : (k2_sels lw_privs)[i]? = some w) (hg : goodWord w = true) : w ∈ gtbl := List.mem_filter.mpr ⟨List.mem_append_left _ (List.mem_of_getElem? h), hg⟩
theorem gs1 {w : Cond} (i : Nat) (h : tables_1_1[i]? = some w) (hg : goodWord w = true) : w ∈ gtbl := List.mem_filter.mpr ⟨List.mem_append_right _ (List.mem_append_left _ (List.mem_of_getElem? h)), hg⟩
theorem gs2 {w : Cond} (i : Nat) (h : tables_1_2[i]? = some w) (hg : goodWord w = true) : w ∈ gtbl := List.mem_filter.mpr ⟨List.mem_append_right _ (List.mem_append_right _ (List.mem_append_left _ (List.mem_of_getElem? h))), hg⟩
theorem gs3 {w : Cond} (i : Nat) (h : tables_1_3[i]? = some w) (hg : goodWord w = true) : w ∈ gtbl := List.mem_filter.mpr ⟨List.mem_append_right _ (List.mem_append_right _ (List.mem_append_right _ (List.mem_append_left _ (List.mem_of_getElem? h)))), hg⟩
theorem gs4 {w : Cond} (i : Nat) (h : tables_1_4[i]? = some w) (hg : goodWord w = true) : w ∈ gtbl := List.mem_filter.mpr ⟨List.mem_append_right _ (List.mem_append_right _ (List.mem_append_right _ (List.mem_append_right _ (List.mem_append_left _ (List.mem_of_getElem? h))))), hg⟩
theorem gs5 {w : Cond} (i : Nat) (h : tables_1_5[i]? = some w) (hg : goodWord w = true) : w ∈ gtbl := List.mem_filter.mpr ⟨List.mem_append_right _ (List.mem_append_right _ (List.mem_append_right _ (List.mem_append_right _ (List.mem_append_right _ (List.mem_append_left _ (List.mem_of_getElem? h)))))), hg⟩
theorem gs6 {w : Cond} (i : Nat) (h : tables_1_6[i]? = some w) (hg : goodWord w = true) : w ∈ gtbl := List.mem_filter.mpr ⟨List.mem_append_right _ (List.mem_append_right _ (List.mem_append_right _ (List.mem_append_right _ (List.mem_append_right _ (List.mem_append_right _ (List.mem_of_getElem? h)))))), hg⟩
def isRf (v : Value) : Bool := match v with
  | .ref _ => true
  | _ => false
theorem nref {fs : List Value} (h : (fs.all fun v => !isRf v) = true) : ∀ v ∈ fs, ∀ k, v ≠ .ref k := by
  intro v hv k e
  have := List.all_eq_true.mp h v hv
  rw [e] at this
  cases this
theorem tt0 : Tt 0 := ⟨_, _, _, tyX0, rfl, tyX0_ok, nmX0, inX0⟩
theorem tt1 : Tt 1 := ⟨_, _, _, tyX1, rfl, tyX1_ok, nmX1, inX1⟩
theorem tt2 : Tt 2 := ⟨_, _, _, tyX2, rfl, tyX2_ok, nmX2, inX2⟩
theorem tt3 : Tt 3 := ⟨_, _, _, tyX3, rfl, tyX3_ok, nmX3, inX3⟩
theorem tt4 : Tt 4 := ⟨_, _, _, tyX4, rfl, tyX4_ok, nmX4, inX4⟩
theorem tt5 : Tt 5 := ⟨_, _, _, tyX5, rfl, tyX5_ok, nmX5, inX5⟩
theorem tt6 : Tt 6 := ⟨_, _, _, tyX6, rfl, tyX6_ok, nmX6, inX6⟩
theorem tt7 : Tt 7 := ⟨_, _, _, tyX7, rfl, tyX7_ok, nmX7, inX7⟩
theorem tt8 : Tt 8 := ⟨_, _, _, tyX8, rfl, tyX8_ok, nmX8, inX8⟩
theorem tt9 : Tt 9 := ⟨_, _, _, tyX9, rfl, tyX9_ok, nmX9, inX9⟩
theorem tt10 : Tt 10 := ⟨_, _, _, tyX10, rfl, tyX10_ok, nmX10, inX10⟩
theorem fX9_12 : Fl "SoldWithIt" 12 9 0 := ⟨_, _, _, rfl, by decide, inX9, gs2 61 rfl rfl⟩
theorem gX9_12 : Ff 9 0 "SoldWithIt" true := ⟨_, _, _, rfl, rfl, fun _ => by first | rfl | contradiction⟩
theorem fX9_21 : Fl "SoldWithIt" 21 9 1 := ⟨_, _, _, rfl, by decide, inX9, gs2 62 rfl rfl⟩
theorem gX9_21 : Ff 9 1 "SoldWithIt" true := ⟨_, _, _, rfl, rfl, fun _ => by first | rfl | contradiction⟩
theorem fX9_28 : Fl "SoldWithIt" 28 9 2 := ⟨_, _, _, rfl, by decide, inX9, gs2 63 rfl rfl⟩
theorem gX9_28 : Ff 9 2 "SoldWithIt" true := ⟨_, _, _, rfl, rfl, fun _ => by first | rfl | contradiction⟩
theorem fX9_35 : Fl "SoldWithIt" 35 9 3 := ⟨_, _, _, rfl, by decide, inX9, gs2 64 rfl rfl⟩
theorem gX9_35 : Ff 9 3 "SoldWithIt" true := ⟨_, _, _, rfl, rfl, fun _ => by first | rfl | contradiction⟩
theorem fX9_42 : Fl "SoldWithIt" 42 9 4 := ⟨_, _, _, rfl, by decide, inX9, gs2 65 rfl rfl⟩
theorem gX9_42 : Ff 9 4 "SoldWithIt" true := ⟨_, _, _, rfl, rfl, fun _ => by first | rfl | contradiction⟩
theorem fX9_49 : Fl "SoldWithIt" 49 9 5 := ⟨_, _, _, rfl, by decide, inX9, gs2 66 rfl rfl⟩
theorem gX9_49 : Ff 9 5 "SoldWithIt" true := ⟨_, _, _, rfl, rfl, fun _ => by first | rfl | contradiction⟩
theorem fX9_56 : Fl "SoldWithIt" 56 9 6 := ⟨_, _, _, rfl, by decide, inX9, gs2 67 rfl rfl⟩
theorem gX9_56 : Ff 9 6 "SoldWithIt" true := ⟨_, _, _, rfl, rfl, fun _ => by first | rfl | contradiction⟩
theorem fX9_63 : Fl "SoldWithIt" 63 9 7 := ⟨_, _, _, rfl, by decide, inX9, gs2 68 rfl rfl⟩
theorem gX9_63 : Ff 9 7 "SoldWithIt" true := ⟨_, _, _, rfl, rfl, fun _ => by first | rfl | contradiction⟩
theorem fX9_70 : Fl "SoldWithIt" 70 9 8 := ⟨_, _, _, rfl, by decide, inX9, gs2 69 rfl rfl⟩
theorem gX9_70 : Ff 9 8 "SoldWithIt" true := ⟨_, _, _, rfl, rfl, fun _ => by first | rfl | contradiction⟩
theorem fX9_74 : Fl "SoldWithIt" 74 9 9 := ⟨_, _, _, rfl, by decide, inX9, gs2 70 rfl rfl⟩
theorem gX9_74 : Ff 9 9 "SoldWithIt" false := ⟨_, _, _, rfl, rfl, fun h => by cases h⟩
theorem fX9_78 : Fl "SoldWithIt" 78 9 10 := ⟨_, _, _, rfl, by decide, inX9, gs2 71 rfl rfl⟩
theorem gX9_78 : Ff 9 10 "SoldWithIt" false := ⟨_, _, _, rfl, rfl, fun h => by cases h⟩
theorem fX9_92 : Fl "SoldWithIt" 92 8 1 := ⟨_, _, _, rfl, by decide, inX8, gs1 40 rfl rfl⟩
theorem gX9_92 : Ff 8 1 "SoldWithIt" false := ⟨_, _, _, rfl, rfl, fun h => by cases h⟩
theorem fX9_105 : Fl "SoldWithIt" 105 5 2 := ⟨_, _, _, rfl, by decide, inX5, gs1 65 rfl rfl⟩
theorem fX9_109 : Fl "SoldWithIt" 109 5 3 := ⟨_, _, _, rfl, by decide, inX5, gs1 68 rfl rfl⟩
theorem fX9_112 : Fl "SoldWithIt" 112 5 7 := ⟨_, _, _, rfl, by decide, inX5, gs1 80 rfl rfl⟩
theorem fX9_118 : Fl "SoldWithIt" 118 5 5 := ⟨_, _, _, rfl, by decide, inX5, gs1 74 rfl rfl⟩
theorem fX9_121 : Fl "SoldWithIt" 121 5 6 := ⟨_, _, _, rfl, by decide, inX5, gs1 77 rfl rfl⟩
theorem fX9_128 : Fl "SoldWithIt" 128 5 4 := ⟨_, _, _, rfl, by decide, inX5, gs1 72 rfl rfl⟩
theorem fX9_131 : Fl "SoldWithIt" 131 3 0 := ⟨_, _, _, rfl, by decide, inX3, gs1 107 rfl rfl⟩
theorem gX9_131 : Ff 3 0 "SoldWithIt" false := ⟨_, _, _, rfl, rfl, fun h => by cases h⟩
theorem fX9_143 : Fl "SoldWithIt" 143 3 1 := ⟨_, _, _, rfl, by decide, inX3, gs1 111 rfl rfl⟩
theorem gX9_143 : Ff 3 1 "SoldWithIt" false := ⟨_, _, _, rfl, rfl, fun h => by cases h⟩
theorem fX9_154 : Fl "SoldWithIt" 154 4 1 := ⟨_, _, _, rfl, by decide, inX4, gs2 51 rfl rfl⟩
theorem fX9_155 : Fl "SoldWithIt" 155 4 2 := ⟨_, _, _, rfl, by decide, inX4, gs2 53 rfl rfl⟩
theorem fX9_166 : Fl "SoldWithIt" 166 6 0 := ⟨_, _, _, rfl, by decide, inX6, gs1 133 rfl rfl⟩
theorem fX9_167 : Fl "SoldWithIt" 167 6 2 := ⟨_, _, _, rfl, by decide, inX6, gs1 138 rfl rfl⟩
theorem fX9_170 : Fl "SoldWithIt" 170 6 3 := ⟨_, _, _, rfl, by decide, inX6, gs1 140 rfl rfl⟩
theorem fX9_173 : Fl "SoldWithIt" 173 6 6 := ⟨_, _, _, rfl, by decide, inX6, gs1 145 rfl rfl⟩
theorem fX9_184 : Fl "SoldWithIt" 184 7 0 := ⟨_, _, _, rfl, by decide, inX7, gs1 168 rfl rfl⟩
theorem fX9_194 : Fl "SoldWithIt" 194 7 1 := ⟨_, _, _, rfl, by decide, inX7, gs1 170 rfl rfl⟩
theorem fX9_197 : Fl "SoldWithIt" 197 5 0 := ⟨_, _, _, rfl, by decide, inX5, gs1 57 rfl rfl⟩
theorem fX9_200 : Fl "SoldWithIt" 200 5 1 := ⟨_, _, _, rfl, by decide, inX5, gs1 62 rfl rfl⟩
theorem fX9_226 : Fl "SoldWithIt" 226 2 12 := ⟨_, _, _, rfl, by decide, inX2, gs1 197 rfl rfl⟩
theorem fX9_229 : Fl "SoldWithIt" 229 2 13 := ⟨_, _, _, rfl, by decide, inX2, gs1 199 rfl rfl⟩
theorem fX9_276 : Fl "SoldWithIt" 276 1 0 := ⟨_, _, _, rfl, by decide, inX1, gs2 29 rfl rfl⟩
theorem gX9_276 : Ff 1 0 "SoldWithIt" false := ⟨_, _, _, rfl, rfl, fun h => by cases h⟩
theorem fX9_281 : Fl "SoldWithIt" 281 2 14 := ⟨_, _, _, rfl, by decide, inX2, gs1 201 rfl rfl⟩
theorem fX9_284 : Fl "SoldWithIt" 284 2 15 := ⟨_, _, _, rfl, by decide, inX2, gs1 203 rfl rfl⟩
theorem fX9_297 : Fl "SoldWithIt" 297 4 0 := ⟨_, _, _, rfl, by decide, inX4, gs2 49 rfl rfl⟩
theorem gX9_297 : Ff 4 0 "SoldWithIt" false := ⟨_, _, _, rfl, rfl, fun h => by cases h⟩
theorem fX9_379 : Fl "SoldWithIt" 379 6 5 := ⟨_, _, _, rfl, by decide, inX6, gs1 143 rfl rfl⟩
theorem fX0_12 : Fl "SoldWithIt$Deeds" 12 0 0 := ⟨_, _, _, rfl, by decide, inX0, gs2 5 rfl rfl⟩
theorem gX0_12 : Ff 0 0 "SoldWithIt$Deeds" true := ⟨_, _, _, rfl, rfl, fun _ => by first | rfl | contradiction⟩
theorem fX0_18 : Fl "SoldWithIt$Deeds" 18 0 1 := ⟨_, _, _, rfl, by decide, inX0, gs2 6 rfl rfl⟩
theorem gX0_18 : Ff 0 1 "SoldWithIt$Deeds" false := ⟨_, _, _, rfl, rfl, fun h => by cases h⟩
theorem fX0_22 : Fl "SoldWithIt$Deeds" 22 0 2 := ⟨_, _, _, rfl, by decide, inX0, gs2 7 rfl rfl⟩
theorem gX0_22 : Ff 0 2 "SoldWithIt$Deeds" false := ⟨_, _, _, rfl, rfl, fun h => by cases h⟩
theorem fX0_25 : Fl "SoldWithIt$Deeds" 25 0 3 := ⟨_, _, _, rfl, by decide, inX0, gs2 8 rfl rfl⟩
theorem gX0_25 : Ff 0 3 "SoldWithIt$Deeds" false := ⟨_, _, _, rfl, rfl, fun h => by cases h⟩
theorem fX0_29 : Fl "SoldWithIt$Deeds" 29 0 4 := ⟨_, _, _, rfl, by decide, inX0, gs2 9 rfl rfl⟩
theorem gX0_29 : Ff 0 4 "SoldWithIt$Deeds" false := ⟨_, _, _, rfl, rfl, fun h => by cases h⟩
theorem fX0_33 : Fl "SoldWithIt$Deeds" 33 5 0 := ⟨_, _, _, rfl, by decide, inX5, gs1 55 rfl rfl⟩
theorem fX0_44 : Fl "SoldWithIt$Deeds" 44 5 2 := ⟨_, _, _, rfl, by decide, inX5, gs1 66 rfl rfl⟩
theorem fX0_64 : Fl "SoldWithIt$Deeds" 64 6 1 := ⟨_, _, _, rfl, by decide, inX6, gs1 135 rfl rfl⟩
theorem fX0_70 : Fl "SoldWithIt$Deeds" 70 5 1 := ⟨_, _, _, rfl, by decide, inX5, gs1 61 rfl rfl⟩
theorem fX0_73 : Fl "SoldWithIt$Deeds" 73 5 7 := ⟨_, _, _, rfl, by decide, inX5, gs1 81 rfl rfl⟩
theorem fX1_9 : Fl "SoldWithIt$Facts" 9 1 0 := ⟨_, _, _, rfl, by decide, inX1, gs2 27 rfl rfl⟩
theorem gX1_9 : Ff 1 0 "SoldWithIt$Facts" false := ⟨_, _, _, rfl, rfl, fun h => by cases h⟩
theorem fX1_15 : Fl "SoldWithIt$Facts" 15 1 1 := ⟨_, _, _, rfl, by decide, inX1, gs2 30 rfl rfl⟩
theorem gX1_15 : Ff 1 1 "SoldWithIt$Facts" true := ⟨_, _, _, rfl, rfl, fun _ => by first | rfl | contradiction⟩
theorem fX1_19 : Fl "SoldWithIt$Facts" 19 1 2 := ⟨_, _, _, rfl, by decide, inX1, gs2 32 rfl rfl⟩
theorem gX1_19 : Ff 1 2 "SoldWithIt$Facts" true := ⟨_, _, _, rfl, rfl, fun _ => by first | rfl | contradiction⟩
theorem fX2_12 : Fl "SoldWithIt$Rows" 12 2 0 := ⟨_, _, _, rfl, by decide, inX2, gs1 184 rfl rfl⟩
theorem gX2_12 : Ff 2 0 "SoldWithIt$Rows" true := ⟨_, _, _, rfl, rfl, fun _ => by first | rfl | contradiction⟩
theorem fX2_18 : Fl "SoldWithIt$Rows" 18 2 1 := ⟨_, _, _, rfl, by decide, inX2, gs1 185 rfl rfl⟩
theorem gX2_18 : Ff 2 1 "SoldWithIt$Rows" true := ⟨_, _, _, rfl, rfl, fun _ => by first | rfl | contradiction⟩
theorem fX2_22 : Fl "SoldWithIt$Rows" 22 2 2 := ⟨_, _, _, rfl, by decide, inX2, gs1 186 rfl rfl⟩
theorem gX2_22 : Ff 2 2 "SoldWithIt$Rows" true := ⟨_, _, _, rfl, rfl, fun _ => by first | rfl | contradiction⟩
theorem fX2_25 : Fl "SoldWithIt$Rows" 25 2 3 := ⟨_, _, _, rfl, by decide, inX2, gs1 187 rfl rfl⟩
theorem gX2_25 : Ff 2 3 "SoldWithIt$Rows" true := ⟨_, _, _, rfl, rfl, fun _ => by first | rfl | contradiction⟩
theorem fX2_28 : Fl "SoldWithIt$Rows" 28 2 4 := ⟨_, _, _, rfl, by decide, inX2, gs1 188 rfl rfl⟩
theorem gX2_28 : Ff 2 4 "SoldWithIt$Rows" true := ⟨_, _, _, rfl, rfl, fun _ => by first | rfl | contradiction⟩
theorem fX2_31 : Fl "SoldWithIt$Rows" 31 2 5 := ⟨_, _, _, rfl, by decide, inX2, gs1 189 rfl rfl⟩
theorem gX2_31 : Ff 2 5 "SoldWithIt$Rows" false := ⟨_, _, _, rfl, rfl, fun h => by cases h⟩
theorem fX2_35 : Fl "SoldWithIt$Rows" 35 2 6 := ⟨_, _, _, rfl, by decide, inX2, gs1 190 rfl rfl⟩
theorem gX2_35 : Ff 2 6 "SoldWithIt$Rows" false := ⟨_, _, _, rfl, rfl, fun h => by cases h⟩
theorem fX2_39 : Fl "SoldWithIt$Rows" 39 2 7 := ⟨_, _, _, rfl, by decide, inX2, gs1 191 rfl rfl⟩
theorem gX2_39 : Ff 2 7 "SoldWithIt$Rows" false := ⟨_, _, _, rfl, rfl, fun h => by cases h⟩
theorem fX2_42 : Fl "SoldWithIt$Rows" 42 2 8 := ⟨_, _, _, rfl, by decide, inX2, gs1 192 rfl rfl⟩
theorem gX2_42 : Ff 2 8 "SoldWithIt$Rows" false := ⟨_, _, _, rfl, rfl, fun h => by cases h⟩
theorem fX2_45 : Fl "SoldWithIt$Rows" 45 2 9 := ⟨_, _, _, rfl, by decide, inX2, gs1 193 rfl rfl⟩
theorem gX2_45 : Ff 2 9 "SoldWithIt$Rows" false := ⟨_, _, _, rfl, rfl, fun h => by cases h⟩
theorem fX2_49 : Fl "SoldWithIt$Rows" 49 2 10 := ⟨_, _, _, rfl, by decide, inX2, gs1 194 rfl rfl⟩
theorem gX2_49 : Ff 2 10 "SoldWithIt$Rows" false := ⟨_, _, _, rfl, rfl, fun h => by cases h⟩
theorem fX2_52 : Fl "SoldWithIt$Rows" 52 2 11 := ⟨_, _, _, rfl, by decide, inX2, gs1 195 rfl rfl⟩
theorem gX2_52 : Ff 2 11 "SoldWithIt$Rows" false := ⟨_, _, _, rfl, rfl, fun h => by cases h⟩
theorem fX2_55 : Fl "SoldWithIt$Rows" 55 2 12 := ⟨_, _, _, rfl, by decide, inX2, gs1 196 rfl rfl⟩
theorem gX2_55 : Ff 2 12 "SoldWithIt$Rows" false := ⟨_, _, _, rfl, rfl, fun h => by cases h⟩
theorem fX2_58 : Fl "SoldWithIt$Rows" 58 2 13 := ⟨_, _, _, rfl, by decide, inX2, gs1 198 rfl rfl⟩
theorem gX2_58 : Ff 2 13 "SoldWithIt$Rows" false := ⟨_, _, _, rfl, rfl, fun h => by cases h⟩
theorem fX2_61 : Fl "SoldWithIt$Rows" 61 2 14 := ⟨_, _, _, rfl, by decide, inX2, gs1 200 rfl rfl⟩
theorem gX2_61 : Ff 2 14 "SoldWithIt$Rows" false := ⟨_, _, _, rfl, rfl, fun h => by cases h⟩
theorem fX2_64 : Fl "SoldWithIt$Rows" 64 2 15 := ⟨_, _, _, rfl, by decide, inX2, gs1 202 rfl rfl⟩
theorem gX2_64 : Ff 2 15 "SoldWithIt$Rows" true := ⟨_, _, _, rfl, rfl, fun _ => by first | rfl | contradiction⟩
theorem fX2_82 : Fl "SoldWithIt$Rows" 82 5 1 := ⟨_, _, _, rfl, by decide, inX5, gs1 60 rfl rfl⟩
theorem fX2_92 : Fl "SoldWithIt$Rows" 92 3 1 := ⟨_, _, _, rfl, by decide, inX3, gs1 110 rfl rfl⟩
theorem fX2_106 : Fl "SoldWithIt$Rows" 106 5 0 := ⟨_, _, _, rfl, by decide, inX5, gs1 56 rfl rfl⟩
theorem fX2_109 : Fl "SoldWithIt$Rows" 109 6 2 := ⟨_, _, _, rfl, by decide, inX6, gs1 137 rfl rfl⟩
theorem fX2_112 : Fl "SoldWithIt$Rows" 112 6 0 := ⟨_, _, _, rfl, by decide, inX6, gs1 132 rfl rfl⟩
theorem fX2_115 : Fl "SoldWithIt$Rows" 115 5 3 := ⟨_, _, _, rfl, by decide, inX5, gs1 69 rfl rfl⟩
theorem fX2_140 : Fl "SoldWithIt$Rows" 140 5 5 := ⟨_, _, _, rfl, by decide, inX5, gs1 75 rfl rfl⟩
theorem fX2_146 : Fl "SoldWithIt$Rows" 146 5 6 := ⟨_, _, _, rfl, by decide, inX5, gs1 78 rfl rfl⟩
theorem fX2_164 : Fl "SoldWithIt$Rows" 164 1 0 := ⟨_, _, _, rfl, by decide, inX1, gs2 28 rfl rfl⟩
theorem fX2_167 : Fl "SoldWithIt$Rows" 167 1 1 := ⟨_, _, _, rfl, by decide, inX1, gs2 31 rfl rfl⟩
theorem fX2_170 : Fl "SoldWithIt$Rows" 170 1 2 := ⟨_, _, _, rfl, by decide, inX1, gs2 33 rfl rfl⟩
theorem fX3_9 : Fl "SoldWithIt$Sales" 9 3 0 := ⟨_, _, _, rfl, by decide, inX3, gs1 105 rfl rfl⟩
theorem gX3_9 : Ff 3 0 "SoldWithIt$Sales" false := ⟨_, _, _, rfl, rfl, fun h => by cases h⟩
theorem fX3_15 : Fl "SoldWithIt$Sales" 15 3 1 := ⟨_, _, _, rfl, by decide, inX3, gs1 108 rfl rfl⟩
theorem gX3_15 : Ff 3 1 "SoldWithIt$Sales" false := ⟨_, _, _, rfl, rfl, fun h => by cases h⟩
theorem fX3_18 : Fl "SoldWithIt$Sales" 18 3 2 := ⟨_, _, _, rfl, by decide, inX3, gs1 112 rfl rfl⟩
theorem gX3_18 : Ff 3 2 "SoldWithIt$Sales" true := ⟨_, _, _, rfl, rfl, fun _ => by first | rfl | contradiction⟩
theorem fX3_22 : Fl "SoldWithIt$Sales" 22 3 3 := ⟨_, _, _, rfl, by decide, inX3, gs1 114 rfl rfl⟩
theorem gX3_22 : Ff 3 3 "SoldWithIt$Sales" true := ⟨_, _, _, rfl, rfl, fun _ => by first | rfl | contradiction⟩
theorem fX4_9 : Fl "SoldWithIt$Sheet" 9 4 0 := ⟨_, _, _, rfl, by decide, inX4, gs2 48 rfl rfl⟩
theorem gX4_9 : Ff 4 0 "SoldWithIt$Sheet" false := ⟨_, _, _, rfl, rfl, fun h => by cases h⟩
theorem fX4_15 : Fl "SoldWithIt$Sheet" 15 4 1 := ⟨_, _, _, rfl, by decide, inX4, gs2 50 rfl rfl⟩
theorem gX4_15 : Ff 4 1 "SoldWithIt$Sheet" false := ⟨_, _, _, rfl, rfl, fun h => by cases h⟩
theorem fX4_18 : Fl "SoldWithIt$Sheet" 18 4 2 := ⟨_, _, _, rfl, by decide, inX4, gs2 52 rfl rfl⟩
theorem gX4_18 : Ff 4 2 "SoldWithIt$Sheet" true := ⟨_, _, _, rfl, rfl, fun _ => by first | rfl | contradiction⟩
theorem fX5_9 : Fl "SoldWithIt$Street" 9 5 0 := ⟨_, _, _, rfl, by decide, inX5, gs1 53 rfl rfl⟩
theorem gX5_9 : Ff 5 0 "SoldWithIt$Street" false := ⟨_, _, _, rfl, rfl, fun h => by cases h⟩
theorem fX5_15 : Fl "SoldWithIt$Street" 15 5 1 := ⟨_, _, _, rfl, by decide, inX5, gs1 58 rfl rfl⟩
theorem gX5_15 : Ff 5 1 "SoldWithIt$Street" false := ⟨_, _, _, rfl, rfl, fun h => by cases h⟩
theorem fX5_18 : Fl "SoldWithIt$Street" 18 5 2 := ⟨_, _, _, rfl, by decide, inX5, gs1 63 rfl rfl⟩
theorem gX5_18 : Ff 5 2 "SoldWithIt$Street" true := ⟨_, _, _, rfl, rfl, fun _ => by first | rfl | contradiction⟩
theorem fX5_22 : Fl "SoldWithIt$Street" 22 5 3 := ⟨_, _, _, rfl, by decide, inX5, gs1 67 rfl rfl⟩
theorem gX5_22 : Ff 5 3 "SoldWithIt$Street" true := ⟨_, _, _, rfl, rfl, fun _ => by first | rfl | contradiction⟩
theorem fX5_25 : Fl "SoldWithIt$Street" 25 5 4 := ⟨_, _, _, rfl, by decide, inX5, gs1 70 rfl rfl⟩
theorem gX5_25 : Ff 5 4 "SoldWithIt$Street" true := ⟨_, _, _, rfl, rfl, fun _ => by first | rfl | contradiction⟩
theorem fX5_28 : Fl "SoldWithIt$Street" 28 5 5 := ⟨_, _, _, rfl, by decide, inX5, gs1 73 rfl rfl⟩
theorem gX5_28 : Ff 5 5 "SoldWithIt$Street" true := ⟨_, _, _, rfl, rfl, fun _ => by first | rfl | contradiction⟩
theorem fX5_31 : Fl "SoldWithIt$Street" 31 5 6 := ⟨_, _, _, rfl, by decide, inX5, gs1 76 rfl rfl⟩
theorem gX5_31 : Ff 5 6 "SoldWithIt$Street" true := ⟨_, _, _, rfl, rfl, fun _ => by first | rfl | contradiction⟩
theorem fX5_34 : Fl "SoldWithIt$Street" 34 5 7 := ⟨_, _, _, rfl, by decide, inX5, gs1 79 rfl rfl⟩
theorem gX5_34 : Ff 5 7 "SoldWithIt$Street" true := ⟨_, _, _, rfl, rfl, fun _ => by first | rfl | contradiction⟩
theorem fX5_37 : Fl "SoldWithIt$Street" 37 8 1 := ⟨_, _, _, rfl, by decide, inX8, gs1 39 rfl rfl⟩
theorem fX5_42 : Fl "SoldWithIt$Street" 42 8 0 := ⟨_, _, _, rfl, by decide, inX8, gs1 37 rfl rfl⟩
theorem fX6_9 : Fl "SoldWithIt$Stroke" 9 6 0 := ⟨_, _, _, rfl, by decide, inX6, gs1 131 rfl rfl⟩
theorem gX6_9 : Ff 6 0 "SoldWithIt$Stroke" true := ⟨_, _, _, rfl, rfl, fun _ => by first | rfl | contradiction⟩
theorem fX6_15 : Fl "SoldWithIt$Stroke" 15 6 1 := ⟨_, _, _, rfl, by decide, inX6, gs1 134 rfl rfl⟩
theorem gX6_15 : Ff 6 1 "SoldWithIt$Stroke" true := ⟨_, _, _, rfl, rfl, fun _ => by first | rfl | contradiction⟩
theorem fX6_18 : Fl "SoldWithIt$Stroke" 18 6 2 := ⟨_, _, _, rfl, by decide, inX6, gs1 136 rfl rfl⟩
theorem gX6_18 : Ff 6 2 "SoldWithIt$Stroke" true := ⟨_, _, _, rfl, rfl, fun _ => by first | rfl | contradiction⟩
theorem fX6_21 : Fl "SoldWithIt$Stroke" 21 6 3 := ⟨_, _, _, rfl, by decide, inX6, gs1 139 rfl rfl⟩
theorem gX6_21 : Ff 6 3 "SoldWithIt$Stroke" true := ⟨_, _, _, rfl, rfl, fun _ => by first | rfl | contradiction⟩
theorem fX6_24 : Fl "SoldWithIt$Stroke" 24 6 4 := ⟨_, _, _, rfl, by decide, inX6, gs1 141 rfl rfl⟩
theorem gX6_24 : Ff 6 4 "SoldWithIt$Stroke" false := ⟨_, _, _, rfl, rfl, fun h => by cases h⟩
theorem fX6_28 : Fl "SoldWithIt$Stroke" 28 6 5 := ⟨_, _, _, rfl, by decide, inX6, gs1 142 rfl rfl⟩
theorem gX6_28 : Ff 6 5 "SoldWithIt$Stroke" false := ⟨_, _, _, rfl, rfl, fun h => by cases h⟩
theorem fX6_31 : Fl "SoldWithIt$Stroke" 31 6 6 := ⟨_, _, _, rfl, by decide, inX6, gs1 144 rfl rfl⟩
theorem gX6_31 : Ff 6 6 "SoldWithIt$Stroke" false := ⟨_, _, _, rfl, rfl, fun h => by cases h⟩
theorem fX6_34 : Fl "SoldWithIt$Stroke" 34 5 2 := ⟨_, _, _, rfl, by decide, inX5, gs1 64 rfl rfl⟩
theorem fX6_43 : Fl "SoldWithIt$Stroke" 43 5 4 := ⟨_, _, _, rfl, by decide, inX5, gs1 71 rfl rfl⟩
theorem fX6_55 : Fl "SoldWithIt$Stroke" 55 3 1 := ⟨_, _, _, rfl, by decide, inX3, gs1 109 rfl rfl⟩
theorem fX6_60 : Fl "SoldWithIt$Stroke" 60 3 2 := ⟨_, _, _, rfl, by decide, inX3, gs1 113 rfl rfl⟩
theorem fX6_63 : Fl "SoldWithIt$Stroke" 63 3 3 := ⟨_, _, _, rfl, by decide, inX3, gs1 115 rfl rfl⟩
theorem fX6_66 : Fl "SoldWithIt$Stroke" 66 5 0 := ⟨_, _, _, rfl, by decide, inX5, gs1 54 rfl rfl⟩
theorem fX6_69 : Fl "SoldWithIt$Stroke" 69 5 1 := ⟨_, _, _, rfl, by decide, inX5, gs1 59 rfl rfl⟩
theorem fX6_72 : Fl "SoldWithIt$Stroke" 72 3 0 := ⟨_, _, _, rfl, by decide, inX3, gs1 106 rfl rfl⟩
theorem fX7_9 : Fl "SoldWithIt$Tastes" 9 7 0 := ⟨_, _, _, rfl, by decide, inX7, gs1 167 rfl rfl⟩
theorem gX7_9 : Ff 7 0 "SoldWithIt$Tastes" true := ⟨_, _, _, rfl, rfl, fun _ => by first | rfl | contradiction⟩
theorem fX7_15 : Fl "SoldWithIt$Tastes" 15 7 1 := ⟨_, _, _, rfl, by decide, inX7, gs1 169 rfl rfl⟩
theorem gX7_15 : Ff 7 1 "SoldWithIt$Tastes" true := ⟨_, _, _, rfl, rfl, fun _ => by first | rfl | contradiction⟩
theorem fX8_7 : Fl "SoldWithIt$Text" 7 8 1 := ⟨_, _, _, rfl, by decide, inX8, gs1 38 rfl rfl⟩
theorem gX8_7 : Ff 8 1 "SoldWithIt$Text" false := ⟨_, _, _, rfl, rfl, fun h => by cases h⟩
theorem fX8_13 : Fl "SoldWithIt$Text" 13 8 0 := ⟨_, _, _, rfl, by decide, inX8, gs1 36 rfl rfl⟩
theorem gX8_13 : Ff 8 0 "SoldWithIt$Text" true := ⟨_, _, _, rfl, rfl, fun _ => by first | rfl | contradiction⟩
theorem fX10_7 : Fl "SoldWithItModel" 7 10 0 := ⟨_, _, _, rfl, by decide, inX10, gs4 188 rfl rfl⟩
theorem gX10_7 : Ff 10 0 "SoldWithItModel" true := ⟨_, _, _, rfl, rfl, fun _ => by first | rfl | contradiction⟩
theorem fX10_13 : Fl "SoldWithItModel" 13 10 1 := ⟨_, _, _, rfl, by decide, inX10, gs4 189 rfl rfl⟩
theorem gX10_13 : Ff 10 1 "SoldWithItModel" true := ⟨_, _, _, rfl, rfl, fun _ => by first | rfl | contradiction⟩
theorem fX10_16 : Fl "SoldWithItModel" 16 10 3 := ⟨_, _, _, rfl, by decide, inX10, gs4 191 rfl rfl⟩
theorem gX10_16 : Ff 10 3 "SoldWithItModel" true := ⟨_, _, _, rfl, rfl, fun _ => by first | rfl | contradiction⟩
theorem fX10_19 : Fl "SoldWithItModel" 19 10 4 := ⟨_, _, _, rfl, by decide, inX10, gs4 192 rfl rfl⟩
theorem gX10_19 : Ff 10 4 "SoldWithItModel" true := ⟨_, _, _, rfl, rfl, fun _ => by first | rfl | contradiction⟩
theorem fX10_22 : Fl "SoldWithItModel" 22 10 6 := ⟨_, _, _, rfl, by decide, inX10, gs4 194 rfl rfl⟩
theorem gX10_22 : Ff 10 6 "SoldWithItModel" true := ⟨_, _, _, rfl, rfl, fun _ => by first | rfl | contradiction⟩
theorem fX10_25 : Fl "SoldWithItModel" 25 10 7 := ⟨_, _, _, rfl, by decide, inX10, gs4 195 rfl rfl⟩
theorem gX10_25 : Ff 10 7 "SoldWithItModel" true := ⟨_, _, _, rfl, rfl, fun _ => by first | rfl | contradiction⟩
theorem fX10_28 : Fl "SoldWithItModel" 28 10 8 := ⟨_, _, _, rfl, by decide, inX10, gs4 196 rfl rfl⟩
theorem gX10_28 : Ff 10 8 "SoldWithItModel" true := ⟨_, _, _, rfl, rfl, fun _ => by first | rfl | contradiction⟩
theorem fX10_31 : Fl "SoldWithItModel" 31 10 10 := ⟨_, _, _, rfl, by decide, inX10, gs4 198 rfl rfl⟩
theorem gX10_31 : Ff 10 10 "SoldWithItModel" true := ⟨_, _, _, rfl, rfl, fun _ => by first | rfl | contradiction⟩
theorem fX10_34 : Fl "SoldWithItModel" 34 10 11 := ⟨_, _, _, rfl, by decide, inX10, gs4 199 rfl rfl⟩
theorem gX10_34 : Ff 10 11 "SoldWithItModel" true := ⟨_, _, _, rfl, rfl, fun _ => by first | rfl | contradiction⟩
theorem fX10_37 : Fl "SoldWithItModel" 37 10 12 := ⟨_, _, _, rfl, by decide, inX10, gs4 200 rfl rfl⟩
theorem gX10_37 : Ff 10 12 "SoldWithItModel" true := ⟨_, _, _, rfl, rfl, fun _ => by first | rfl | contradiction⟩
theorem fX10_40 : Fl "SoldWithItModel" 40 10 13 := ⟨_, _, _, rfl, by decide, inX10, gs4 201 rfl rfl⟩
theorem gX10_40 : Ff 10 13 "SoldWithItModel" true := ⟨_, _, _, rfl, rfl, fun _ => by first | rfl | contradiction⟩
theorem fX10_43 : Fl "SoldWithItModel" 43 10 14 := ⟨_, _, _, rfl, by decide, inX10, gs4 202 rfl rfl⟩
theorem gX10_43 : Ff 10 14 "SoldWithItModel" true := ⟨_, _, _, rfl, rfl, fun _ => by first | rfl | contradiction⟩
theorem fX10_46 : Fl "SoldWithItModel" 46 10 15 := ⟨_, _, _, rfl, by decide, inX10, gs4 203 rfl rfl⟩
theorem gX10_46 : Ff 10 15 "SoldWithItModel" true := ⟨_, _, _, rfl, rfl, fun _ => by first | rfl | contradiction⟩
theorem fX10_49 : Fl "SoldWithItModel" 49 10 16 := ⟨_, _, _, rfl, by decide, inX10, gs4 204 rfl rfl⟩
theorem gX10_49 : Ff 10 16 "SoldWithItModel" true := ⟨_, _, _, rfl, rfl, fun _ => by first | rfl | contradiction⟩
theorem fX10_52 : Fl "SoldWithItModel" 52 10 18 := ⟨_, _, _, rfl, by decide, inX10, gs4 206 rfl rfl⟩
theorem gX10_52 : Ff 10 18 "SoldWithItModel" true := ⟨_, _, _, rfl, rfl, fun _ => by first | rfl | contradiction⟩
theorem fX10_55 : Fl "SoldWithItModel" 55 10 19 := ⟨_, _, _, rfl, by decide, inX10, gs4 207 rfl rfl⟩
theorem gX10_55 : Ff 10 19 "SoldWithItModel" true := ⟨_, _, _, rfl, rfl, fun _ => by first | rfl | contradiction⟩
theorem fX10_58 : Fl "SoldWithItModel" 58 10 20 := ⟨_, _, _, rfl, by decide, inX10, gs4 208 rfl rfl⟩
theorem gX10_58 : Ff 10 20 "SoldWithItModel" true := ⟨_, _, _, rfl, rfl, fun _ => by first | rfl | contradiction⟩
theorem fX10_61 : Fl "SoldWithItModel" 61 10 21 := ⟨_, _, _, rfl, by decide, inX10, gs4 209 rfl rfl⟩
theorem gX10_61 : Ff 10 21 "SoldWithItModel" true := ⟨_, _, _, rfl, rfl, fun _ => by first | rfl | contradiction⟩
theorem fX10_64 : Fl "SoldWithItModel" 64 10 22 := ⟨_, _, _, rfl, by decide, inX10, gs4 210 rfl rfl⟩
theorem gX10_64 : Ff 10 22 "SoldWithItModel" true := ⟨_, _, _, rfl, rfl, fun _ => by first | rfl | contradiction⟩
theorem fX10_67 : Fl "SoldWithItModel" 67 10 24 := ⟨_, _, _, rfl, by decide, inX10, gs4 212 rfl rfl⟩
theorem gX10_67 : Ff 10 24 "SoldWithItModel" true := ⟨_, _, _, rfl, rfl, fun _ => by first | rfl | contradiction⟩
theorem fX10_70 : Fl "SoldWithItModel" 70 10 25 := ⟨_, _, _, rfl, by decide, inX10, gs4 213 rfl rfl⟩
theorem gX10_70 : Ff 10 25 "SoldWithItModel" true := ⟨_, _, _, rfl, rfl, fun _ => by first | rfl | contradiction⟩
theorem fX10_73 : Fl "SoldWithItModel" 73 10 26 := ⟨_, _, _, rfl, by decide, inX10, gs4 214 rfl rfl⟩
theorem gX10_73 : Ff 10 26 "SoldWithItModel" true := ⟨_, _, _, rfl, rfl, fun _ => by first | rfl | contradiction⟩
theorem fX10_76 : Fl "SoldWithItModel" 76 10 27 := ⟨_, _, _, rfl, by decide, inX10, gs4 215 rfl rfl⟩
theorem gX10_76 : Ff 10 27 "SoldWithItModel" true := ⟨_, _, _, rfl, rfl, fun _ => by first | rfl | contradiction⟩
theorem fX10_80 : Fl "SoldWithItModel" 80 10 28 := ⟨_, _, _, rfl, by decide, inX10, gs4 216 rfl rfl⟩
theorem gX10_80 : Ff 10 28 "SoldWithItModel" true := ⟨_, _, _, rfl, rfl, fun _ => by first | rfl | contradiction⟩
theorem fX10_83 : Fl "SoldWithItModel" 83 10 29 := ⟨_, _, _, rfl, by decide, inX10, gs4 217 rfl rfl⟩
theorem gX10_83 : Ff 10 29 "SoldWithItModel" true := ⟨_, _, _, rfl, rfl, fun _ => by first | rfl | contradiction⟩
theorem fX10_86 : Fl "SoldWithItModel" 86 10 30 := ⟨_, _, _, rfl, by decide, inX10, gs4 218 rfl rfl⟩
theorem gX10_86 : Ff 10 30 "SoldWithItModel" true := ⟨_, _, _, rfl, rfl, fun _ => by first | rfl | contradiction⟩
theorem fX10_89 : Fl "SoldWithItModel" 89 10 31 := ⟨_, _, _, rfl, by decide, inX10, gs4 219 rfl rfl⟩
theorem gX10_89 : Ff 10 31 "SoldWithItModel" true := ⟨_, _, _, rfl, rfl, fun _ => by first | rfl | contradiction⟩
theorem fX10_96 : Fl "SoldWithItModel" 96 10 2 := ⟨_, _, _, rfl, by decide, inX10, gs4 190 rfl rfl⟩
theorem gX10_96 : Ff 10 2 "SoldWithItModel" false := ⟨_, _, _, rfl, rfl, fun h => by cases h⟩
theorem fX10_104 : Fl "SoldWithItModel" 104 10 5 := ⟨_, _, _, rfl, by decide, inX10, gs4 193 rfl rfl⟩
theorem gX10_104 : Ff 10 5 "SoldWithItModel" false := ⟨_, _, _, rfl, rfl, fun h => by cases h⟩
theorem fX10_137 : Fl "SoldWithItModel" 137 10 9 := ⟨_, _, _, rfl, by decide, inX10, gs4 197 rfl rfl⟩
theorem gX10_137 : Ff 10 9 "SoldWithItModel" false := ⟨_, _, _, rfl, rfl, fun h => by cases h⟩
theorem fX10_159 : Fl "SoldWithItModel" 159 10 17 := ⟨_, _, _, rfl, by decide, inX10, gs4 205 rfl rfl⟩
theorem gX10_159 : Ff 10 17 "SoldWithItModel" false := ⟨_, _, _, rfl, rfl, fun h => by cases h⟩
theorem fX10_235 : Fl "SoldWithItModel" 235 10 23 := ⟨_, _, _, rfl, by decide, inX10, gs4 211 rfl rfl⟩
theorem gX10_235 : Ff 10 23 "SoldWithItModel" false := ⟨_, _, _, rfl, rfl, fun h => by cases h⟩
theorem fX10_241 : Fl "SoldWithItModel" 241 10 32 := ⟨_, _, _, rfl, by decide, inX10, gs4 220 rfl rfl⟩
theorem gX10_241 : Ff 10 32 "SoldWithItModel" false := ⟨_, _, _, rfl, rfl, fun h => by cases h⟩
theorem lX9_1 : Cond.methodLink "SoldWithIt" 1 objectInit ∈ gtbl := gs1 26 rfl rfl
theorem cX8_init : Cl mX8_init 1 := ⟨gs1 34 rfl rfl, gs1 2 rfl rfl, by decide +kernel⟩
theorem lX9_9 : LkI "SoldWithIt" 9 mX8_init 1 := ⟨gs1 32 rfl rfl, gs1 33 rfl rfl, rfl, rfl, cX8_init⟩
theorem cX5_init : Cl mX5_init 0 := ⟨gs1 51 rfl rfl, gs1 3 rfl rfl, by decide +kernel⟩
theorem lX9_20 : LkN "SoldWithIt" 20 mX5_init 0 := ⟨by decide +kernel, gs1 50 rfl rfl, rfl, rfl, cX5_init⟩
theorem cX3_init : Cl mX3_init 0 := ⟨gs1 103 rfl rfl, gs1 4 rfl rfl, by decide +kernel⟩
theorem lX9_27 : LkN "SoldWithIt" 27 mX3_init 0 := ⟨by decide +kernel, gs1 102 rfl rfl, rfl, rfl, cX3_init⟩
theorem cX6_init : Cl mX6_init 0 := ⟨gs1 129 rfl rfl, gs1 5 rfl rfl, by decide +kernel⟩
theorem lX9_34 : LkN "SoldWithIt" 34 mX6_init 0 := ⟨by decide +kernel, gs1 128 rfl rfl, rfl, rfl, cX6_init⟩
theorem cX7_init : Cl mX7_init 0 := ⟨gs1 165 rfl rfl, gs1 6 rfl rfl, by decide +kernel⟩
theorem lX9_41 : LkN "SoldWithIt" 41 mX7_init 0 := ⟨by decide +kernel, gs1 164 rfl rfl, rfl, rfl, cX7_init⟩
theorem cX2_init : Cl mX2_init 0 := ⟨gs1 180 rfl rfl, gs1 7 rfl rfl, by decide +kernel⟩
theorem lX9_48 : LkN "SoldWithIt" 48 mX2_init 0 := ⟨by decide +kernel, gs1 179 rfl rfl, rfl, rfl, cX2_init⟩
theorem cX0_init : Cl mX0_init 0 := ⟨gs2 1 rfl rfl, gs1 8 rfl rfl, by decide +kernel⟩
theorem lX9_55 : LkN "SoldWithIt" 55 mX0_init 0 := ⟨by decide +kernel, gs2 0 rfl rfl, rfl, rfl, cX0_init⟩
theorem cX1_init : Cl mX1_init 0 := ⟨gs2 25 rfl rfl, gs1 9 rfl rfl, by decide +kernel⟩
theorem lX9_62 : LkN "SoldWithIt" 62 mX1_init 0 := ⟨by decide +kernel, gs2 24 rfl rfl, rfl, rfl, cX1_init⟩
theorem cX4_init : Cl mX4_init 0 := ⟨gs2 46 rfl rfl, gs1 10 rfl rfl, by decide +kernel⟩
theorem lX9_69 : LkN "SoldWithIt" 69 mX4_init 0 := ⟨by decide +kernel, gs2 45 rfl rfl, rfl, rfl, cX4_init⟩
theorem cX9_noText : Cl mX9_noText 1 := ⟨gs2 101 rfl rfl, gs1 1 rfl rfl, by decide +kernel⟩
theorem lX9_82 : LkS "SoldWithIt" 82 mX9_noText 1 := ⟨gs2 99 rfl rfl, gs2 100 rfl rfl, cX9_noText⟩
theorem cX8_takes : Cl mX8_takes 1 := ⟨gs2 105 rfl rfl, gs1 2 rfl rfl, by decide +kernel⟩
theorem lX9_86 : LkV "SoldWithIt" 86 mX8_takes 1 8 := ⟨gs2 102 rfl rfl, gs2 103 rfl rfl, gs2 104 rfl rfl, ⟨_, _, rfl⟩, cX8_takes⟩
theorem cX9_retell : Cl mX9_retell 0 := ⟨gs2 109 rfl rfl, gs1 1 rfl rfl, by decide +kernel⟩
theorem lX9_89 : LkV "SoldWithIt" 89 mX9_retell 0 9 := ⟨gs2 106 rfl rfl, gs2 108 rfl rfl, gs0 0 rfl rfl, ⟨_, _, rfl⟩, cX9_retell⟩
theorem cX5_wrongHouse : Cl mX5_wrongHouse 1 := ⟨gs2 116 rfl rfl, gs1 3 rfl rfl, by decide +kernel⟩
theorem lX9_95 : LkS "SoldWithIt" 95 mX5_wrongHouse 1 := ⟨gs3 14 rfl rfl, gs2 115 rfl rfl, cX5_wrongHouse⟩
theorem cX5_wrongPerson : Cl mX5_wrongPerson 1 := ⟨gs2 122 rfl rfl, gs1 3 rfl rfl, by decide +kernel⟩
theorem lX9_99 : LkS "SoldWithIt" 99 mX5_wrongPerson 1 := ⟨gs3 15 rfl rfl, gs2 121 rfl rfl, cX5_wrongPerson⟩
theorem cX9_noHouse : Cl mX9_noHouse 1 := ⟨gs3 23 rfl rfl, gs1 1 rfl rfl, by decide +kernel⟩
theorem lX9_102 : LkV "SoldWithIt" 102 mX9_noHouse 1 9 := ⟨gs3 20 rfl rfl, gs3 22 rfl rfl, gs0 3 rfl rfl, ⟨_, _, rfl⟩, cX9_noHouse⟩
theorem cX9_nobody : Cl mX9_nobody 1 := ⟨gs3 31 rfl rfl, gs1 1 rfl rfl, by decide +kernel⟩
theorem lX9_115 : LkV "SoldWithIt" 115 mX9_nobody 1 9 := ⟨gs3 28 rfl rfl, gs3 30 rfl rfl, gs0 4 rfl rfl, ⟨_, _, rfl⟩, cX9_nobody⟩
theorem cX9_houseAt : Cl mX9_houseAt 1 := ⟨gs3 34 rfl rfl, gs1 1 rfl rfl, by decide +kernel⟩
theorem lX9_124 : LkS "SoldWithIt" 124 mX9_houseAt 1 := ⟨gs3 32 rfl rfl, gs3 33 rfl rfl, cX9_houseAt⟩
theorem cX9_recount : Cl mX9_recount 0 := ⟨gs2 223 rfl rfl, gs1 1 rfl rfl, by decide +kernel⟩
theorem lX9_134 : LkV "SoldWithIt" 134 mX9_recount 0 9 := ⟨gs2 220 rfl rfl, gs2 222 rfl rfl, gs0 2 rfl rfl, ⟨_, _, rfl⟩, cX9_recount⟩
theorem cX9_noNumber : Cl mX9_noNumber 1 := ⟨gs3 45 rfl rfl, gs1 1 rfl rfl, by decide +kernel⟩
theorem lX9_137 : LkS "SoldWithIt" 137 mX9_noNumber 1 := ⟨gs3 43 rfl rfl, gs3 44 rfl rfl, cX9_noNumber⟩
theorem cX3_takes : Cl mX3_takes 2 := ⟨gs3 49 rfl rfl, gs1 4 rfl rfl, by decide +kernel⟩
theorem lX9_140 : LkV "SoldWithIt" 140 mX3_takes 2 3 := ⟨gs3 46 rfl rfl, gs3 47 rfl rfl, gs3 48 rfl rfl, ⟨_, _, rfl⟩, cX3_takes⟩
theorem cX9_noSheet : Cl mX9_noSheet 1 := ⟨gs3 56 rfl rfl, gs1 1 rfl rfl, by decide +kernel⟩
theorem lX9_144 : LkS "SoldWithIt" 144 mX9_noSheet 1 := ⟨gs3 54 rfl rfl, gs3 55 rfl rfl, cX9_noSheet⟩
theorem cX4_isLost : Cl mX4_isLost 0 := ⟨gs3 60 rfl rfl, gs1 10 rfl rfl, by decide +kernel⟩
theorem lX9_147 : LkV "SoldWithIt" 147 mX4_isLost 0 4 := ⟨gs3 57 rfl rfl, gs3 58 rfl rfl, gs3 59 rfl rfl, ⟨_, _, rfl⟩, cX4_isLost⟩
theorem cX9_found : Cl mX9_found 1 := ⟨gs3 64 rfl rfl, gs1 1 rfl rfl, by decide +kernel⟩
theorem lX9_151 : LkV "SoldWithIt" 151 mX9_found 1 9 := ⟨gs3 61 rfl rfl, gs3 63 rfl rfl, gs0 5 rfl rfl, ⟨_, _, rfl⟩, cX9_found⟩
theorem cX9_sale : Cl mX9_sale 2 := ⟨gs3 42 rfl rfl, gs1 1 rfl rfl, by decide +kernel⟩
theorem lX9_158 : LkV "SoldWithIt" 158 mX9_sale 2 9 := ⟨gs3 65 rfl rfl, gs3 40 rfl rfl, gs3 41 rfl rfl, ⟨_, _, rfl⟩, cX9_sale⟩
theorem cX9_behind : Cl mX9_behind 1 := ⟨gs3 77 rfl rfl, gs1 1 rfl rfl, by decide +kernel⟩
theorem lX9_162 : LkV "SoldWithIt" 162 mX9_behind 1 9 := ⟨gs3 74 rfl rfl, gs3 76 rfl rfl, gs0 6 rfl rfl, ⟨_, _, rfl⟩, cX9_behind⟩
theorem cX9_noTaste : Cl mX9_noTaste 3 := ⟨gs3 132 rfl rfl, gs1 1 rfl rfl, by decide +kernel⟩
theorem lX9_176 : LkS "SoldWithIt" 176 mX9_noTaste 3 := ⟨gs3 130 rfl rfl, gs3 131 rfl rfl, cX9_noTaste⟩
theorem cX2_forgetBest : Cl mX2_forgetBest 0 := ⟨gs2 231 rfl rfl, gs1 7 rfl rfl, by decide +kernel⟩
theorem lX9_181 : LkV "SoldWithIt" 181 mX2_forgetBest 0 2 := ⟨gs3 134 rfl rfl, gs2 229 rfl rfl, gs2 230 rfl rfl, ⟨_, _, rfl⟩, cX2_forgetBest⟩
theorem cX7_swap : Cl mX7_swap 4 := ⟨gs3 137 rfl rfl, gs1 6 rfl rfl, by decide +kernel⟩
theorem lX9_187 : LkS "SoldWithIt" 187 mX7_swap 4 := ⟨gs3 135 rfl rfl, gs3 136 rfl rfl, cX7_swap⟩
theorem cX2_forgetRest : Cl mX2_forgetRest 0 := ⟨gs2 236 rfl rfl, gs1 7 rfl rfl, by decide +kernel⟩
theorem lX9_191 : LkV "SoldWithIt" 191 mX2_forgetRest 0 2 := ⟨gs3 142 rfl rfl, gs2 234 rfl rfl, gs2 235 rfl rfl, ⟨_, _, rfl⟩, cX2_forgetRest⟩
theorem cX7_worthOf : Cl mX7_worthOf 2 := ⟨gs3 150 rfl rfl, gs1 6 rfl rfl, by decide +kernel⟩
theorem lX9_203 : LkV "SoldWithIt" 203 mX7_worthOf 2 7 := ⟨gs3 147 rfl rfl, gs3 148 rfl rfl, gs3 149 rfl rfl, ⟨_, _, rfl⟩, cX7_worthOf⟩
theorem cX2_fill : Cl mX2_fill 2 := ⟨gs3 159 rfl rfl, gs1 7 rfl rfl, by decide +kernel⟩
theorem lX9_207 : LkV "SoldWithIt" 207 mX2_fill 2 2 := ⟨gs3 156 rfl rfl, gs3 157 rfl rfl, gs3 158 rfl rfl, ⟨_, _, rfl⟩, cX2_fill⟩
theorem cX2_bestRow : Cl mX2_bestRow 2 := ⟨gs3 177 rfl rfl, gs1 7 rfl rfl, by decide +kernel⟩
theorem lX9_211 : LkV "SoldWithIt" 211 mX2_bestRow 2 2 := ⟨gs3 174 rfl rfl, gs3 175 rfl rfl, gs3 176 rfl rfl, ⟨_, _, rfl⟩, cX2_bestRow⟩
theorem cX2_gainBy : Cl mX2_gainBy 3 := ⟨gs3 181 rfl rfl, gs1 7 rfl rfl, by decide +kernel⟩
theorem lX9_215 : LkV "SoldWithIt" 215 mX2_gainBy 3 2 := ⟨gs3 190 rfl rfl, gs3 179 rfl rfl, gs3 180 rfl rfl, ⟨_, _, rfl⟩, cX2_gainBy⟩
theorem cX2_spotIn : Cl mX2_spotIn 2 := ⟨gs3 194 rfl rfl, gs1 7 rfl rfl, by decide +kernel⟩
theorem lX9_219 : LkV "SoldWithIt" 219 mX2_spotIn 2 2 := ⟨gs3 191 rfl rfl, gs3 192 rfl rfl, gs3 193 rfl rfl, ⟨_, _, rfl⟩, cX2_spotIn⟩
theorem cX2_findRest : Cl mX2_findRest 2 := ⟨gs3 203 rfl rfl, gs1 7 rfl rfl, by decide +kernel⟩
theorem lX9_222 : LkV "SoldWithIt" 222 mX2_findRest 2 2 := ⟨gs3 200 rfl rfl, gs3 201 rfl rfl, gs3 202 rfl rfl, ⟨_, _, rfl⟩, cX2_findRest⟩
theorem cX3_toldHouses : Cl mX3_toldHouses 0 := ⟨gs3 225 rfl rfl, gs1 4 rfl rfl, by decide +kernel⟩
theorem lX9_233 : LkV "SoldWithIt" 233 mX3_toldHouses 0 3 := ⟨gs3 222 rfl rfl, gs3 223 rfl rfl, gs3 224 rfl rfl, ⟨_, _, rfl⟩, cX3_toldHouses⟩
theorem cJ9_min_7cf53 : Cl mJ9_min_7cf53 2 := ⟨gs2 160 rfl rfl, gs1 14 rfl rfl, by decide +kernel⟩
theorem lX9_237 : LkS "SoldWithIt" 237 mJ9_min_7cf53 2 := ⟨gs3 226 rfl rfl, gs2 159 rfl rfl, cJ9_min_7cf53⟩
theorem cJ9_abs_0f7a4 : Cl mJ9_abs_0f7a4 1 := ⟨gs3 229 rfl rfl, gs1 14 rfl rfl, by decide +kernel⟩
theorem lX9_242 : LkS "SoldWithIt" 242 mJ9_abs_0f7a4 1 := ⟨gs3 227 rfl rfl, gs3 228 rfl rfl, cJ9_abs_0f7a4⟩
theorem cX9_valueTo : Cl mX9_valueTo 2 := ⟨gs3 237 rfl rfl, gs1 1 rfl rfl, by decide +kernel⟩
theorem lX9_245 : LkV "SoldWithIt" 245 mX9_valueTo 2 9 := ⟨gs3 234 rfl rfl, gs3 236 rfl rfl, gs0 16 rfl rfl, ⟨_, _, rfl⟩, cX9_valueTo⟩
theorem cX9_change : Cl mX9_change 2 := ⟨gs4 1 rfl rfl, gs1 1 rfl rfl, by decide +kernel⟩
theorem lX9_248 : LkV "SoldWithIt" 248 mX9_change 2 9 := ⟨gs4 6 rfl rfl, gs3 239 rfl rfl, gs4 0 rfl rfl, ⟨_, _, rfl⟩, cX9_change⟩
theorem cX0_withOwner : Cl mX0_withOwner 3 := ⟨gs4 13 rfl rfl, gs1 8 rfl rfl, by decide +kernel⟩
theorem lX9_251 : LkS "SoldWithIt" 251 mX0_withOwner 3 := ⟨gs4 11 rfl rfl, gs4 12 rfl rfl, cX0_withOwner⟩
theorem cX0_fill : Cl mX0_fill 2 := ⟨gs4 17 rfl rfl, gs1 8 rfl rfl, by decide +kernel⟩
theorem lX9_255 : LkV "SoldWithIt" 255 mX0_fill 2 0 := ⟨gs4 14 rfl rfl, gs4 15 rfl rfl, gs4 16 rfl rfl, ⟨_, _, rfl⟩, cX0_fill⟩
theorem cX0_fewestTo : Cl mX0_fewestTo 1 := ⟨gs4 39 rfl rfl, gs1 8 rfl rfl, by decide +kernel⟩
theorem lX9_258 : LkV "SoldWithIt" 258 mX0_fewestTo 1 0 := ⟨gs4 36 rfl rfl, gs4 37 rfl rfl, gs4 38 rfl rfl, ⟨_, _, rfl⟩, cX0_fewestTo⟩
theorem cX9_everybody : Cl mX9_everybody 0 := ⟨gs4 48 rfl rfl, gs1 1 rfl rfl, by decide +kernel⟩
theorem lX9_261 : LkV "SoldWithIt" 261 mX9_everybody 0 9 := ⟨gs4 45 rfl rfl, gs4 47 rfl rfl, gs0 19 rfl rfl, ⟨_, _, rfl⟩, cX9_everybody⟩
theorem cX9_comers : Cl mX9_comers 2 := ⟨gs4 52 rfl rfl, gs1 1 rfl rfl, by decide +kernel⟩
theorem lX9_264 : LkV "SoldWithIt" 264 mX9_comers 2 9 := ⟨gs4 49 rfl rfl, gs4 51 rfl rfl, gs0 20 rfl rfl, ⟨_, _, rfl⟩, cX9_comers⟩
theorem cJ6_bitCount_0f7a4 : Cl mJ6_bitCount_0f7a4 1 := ⟨gs3 98 rfl rfl, gs1 20 rfl rfl, by decide +kernel⟩
theorem lX9_267 : LkS "SoldWithIt" 267 mJ6_bitCount_0f7a4 1 := ⟨gs4 62 rfl rfl, gs3 97 rfl rfl, cJ6_bitCount_0f7a4⟩
theorem cX1_takes : Cl mX1_takes 2 := ⟨gs4 70 rfl rfl, gs1 9 rfl rfl, by decide +kernel⟩
theorem lX9_272 : LkV "SoldWithIt" 272 mX1_takes 2 1 := ⟨gs4 67 rfl rfl, gs4 68 rfl rfl, gs4 69 rfl rfl, ⟨_, _, rfl⟩, cX1_takes⟩
theorem cX2_forgetWays : Cl mX2_forgetWays 0 := ⟨gs3 0 rfl rfl, gs1 7 rfl rfl, by decide +kernel⟩
theorem lX9_273 : LkV "SoldWithIt" 273 mX2_forgetWays 0 2 := ⟨gs4 71 rfl rfl, gs2 238 rfl rfl, gs2 239 rfl rfl, ⟨_, _, rfl⟩, cX2_forgetWays⟩
theorem cX2_findWays : Cl mX2_findWays 1 := ⟨gs4 83 rfl rfl, gs1 7 rfl rfl, by decide +kernel⟩
theorem lX9_277 : LkV "SoldWithIt" 277 mX2_findWays 1 2 := ⟨gs4 80 rfl rfl, gs4 81 rfl rfl, gs4 82 rfl rfl, ⟨_, _, rfl⟩, cX2_findWays⟩
theorem cX2_spotBit : Cl mX2_spotBit 1 := ⟨gs4 90 rfl rfl, gs1 7 rfl rfl, by decide +kernel⟩
theorem lX9_287 : LkS "SoldWithIt" 287 mX2_spotBit 1 := ⟨gs4 95 rfl rfl, gs4 89 rfl rfl, cX2_spotBit⟩
theorem cX9_noForm : Cl mX9_noForm 1 := ⟨gs4 102 rfl rfl, gs1 1 rfl rfl, by decide +kernel⟩
theorem lX9_290 : LkS "SoldWithIt" 290 mX9_noForm 1 := ⟨gs4 100 rfl rfl, gs4 101 rfl rfl, cX9_noForm⟩
theorem cX4_renew : Cl mX4_renew 2 := ⟨gs4 106 rfl rfl, gs1 10 rfl rfl, by decide +kernel⟩
theorem lX9_293 : LkV "SoldWithIt" 293 mX4_renew 2 4 := ⟨gs4 103 rfl rfl, gs4 104 rfl rfl, gs4 105 rfl rfl, ⟨_, _, rfl⟩, cX4_renew⟩
theorem cX4_findingAt : Cl mX4_findingAt 2 := ⟨gs4 119 rfl rfl, gs1 10 rfl rfl, by decide +kernel⟩
theorem lX9_300 : LkV "SoldWithIt" 300 mX4_findingAt 2 4 := ⟨gs4 116 rfl rfl, gs4 117 rfl rfl, gs4 118 rfl rfl, ⟨_, _, rfl⟩, cX4_findingAt⟩
theorem cX4_store : Cl mX4_store 2 := ⟨gs4 124 rfl rfl, gs1 10 rfl rfl, by decide +kernel⟩
theorem lX9_303 : LkV "SoldWithIt" 303 mX4_store 2 4 := ⟨gs4 121 rfl rfl, gs4 122 rfl rfl, gs4 123 rfl rfl, ⟨_, _, rfl⟩, cX4_store⟩
theorem cX4_holds : Cl mX4_holds 2 := ⟨gs4 137 rfl rfl, gs1 10 rfl rfl, by decide +kernel⟩
theorem lX9_307 : LkV "SoldWithIt" 307 mX4_holds 2 4 := ⟨gs4 134 rfl rfl, gs4 135 rfl rfl, gs4 136 rfl rfl, ⟨_, _, rfl⟩, cX4_holds⟩
theorem lX9_310 : Cond.methodLink "SoldWithIt" 310 arraycopyName ∈ gtbl := gs4 138 rfl rfl
theorem cX9_allSold : Cl mX9_allSold 0 := ⟨gs4 150 rfl rfl, gs1 1 rfl rfl, by decide +kernel⟩
theorem lX9_316 : LkV "SoldWithIt" 316 mX9_allSold 0 9 := ⟨gs4 147 rfl rfl, gs4 149 rfl rfl, gs0 23 rfl rfl, ⟨_, _, rfl⟩, cX9_allSold⟩
theorem cX9_lockedIn : Cl mX9_lockedIn 0 := ⟨gs4 154 rfl rfl, gs1 1 rfl rfl, by decide +kernel⟩
theorem lX9_319 : LkV "SoldWithIt" 319 mX9_lockedIn 0 9 := ⟨gs4 151 rfl rfl, gs4 153 rfl rfl, gs0 24 rfl rfl, ⟨_, _, rfl⟩, cX9_lockedIn⟩
theorem cX9_count : Cl mX9_count 1 := ⟨gs4 146 rfl rfl, gs1 1 rfl rfl, by decide +kernel⟩
theorem lX9_326 : LkV "SoldWithIt" 326 mX9_count 1 9 := ⟨gs4 161 rfl rfl, gs4 144 rfl rfl, gs4 145 rfl rfl, ⟨_, _, rfl⟩, cX9_count⟩
theorem cX9_fault : Cl mX9_fault 1 := ⟨gs3 13 rfl rfl, gs1 1 rfl rfl, by decide +kernel⟩
theorem lX9_329 : LkV "SoldWithIt" 329 mX9_fault 1 9 := ⟨gs4 162 rfl rfl, gs3 11 rfl rfl, gs3 12 rfl rfl, ⟨_, _, rfl⟩, cX9_fault⟩
theorem cX9_withHouse : Cl mX9_withHouse 2 := ⟨gs4 166 rfl rfl, gs1 1 rfl rfl, by decide +kernel⟩
theorem lX9_332 : LkV "SoldWithIt" 332 mX9_withHouse 2 9 := ⟨gs4 163 rfl rfl, gs4 165 rfl rfl, gs0 25 rfl rfl, ⟨_, _, rfl⟩, cX9_withHouse⟩
theorem cX9_withPerson : Cl mX9_withPerson 2 := ⟨gs4 173 rfl rfl, gs1 1 rfl rfl, by decide +kernel⟩
theorem lX9_336 : LkV "SoldWithIt" 336 mX9_withPerson 2 9 := ⟨gs4 170 rfl rfl, gs4 172 rfl rfl, gs0 26 rfl rfl, ⟨_, _, rfl⟩, cX9_withPerson⟩
theorem cX9_length : Cl mX9_length 1 := ⟨gs3 125 rfl rfl, gs1 1 rfl rfl, by decide +kernel⟩
theorem lX9_339 : LkV "SoldWithIt" 339 mX9_length 1 9 := ⟨gs4 180 rfl rfl, gs3 123 rfl rfl, gs3 124 rfl rfl, ⟨_, _, rfl⟩, cX9_length⟩
theorem cX9_changes : Cl mX9_changes 0 := ⟨gs4 5 rfl rfl, gs1 1 rfl rfl, by decide +kernel⟩
theorem lX9_342 : LkV "SoldWithIt" 342 mX9_changes 0 9 := ⟨gs4 181 rfl rfl, gs4 3 rfl rfl, gs4 4 rfl rfl, ⟨_, _, rfl⟩, cX9_changes⟩
theorem cX9_house : Cl mX9_house 2 := ⟨gs3 19 rfl rfl, gs1 1 rfl rfl, by decide +kernel⟩
theorem lX9_345 : LkV "SoldWithIt" 345 mX9_house 2 9 := ⟨gs4 167 rfl rfl, gs3 17 rfl rfl, gs3 18 rfl rfl, ⟨_, _, rfl⟩, cX9_house⟩
theorem cX9_whose : Cl mX9_whose 2 := ⟨gs3 73 rfl rfl, gs1 1 rfl rfl, by decide +kernel⟩
theorem lX9_348 : LkV "SoldWithIt" 348 mX9_whose 2 9 := ⟨gs4 168 rfl rfl, gs3 71 rfl rfl, gs3 72 rfl rfl, ⟨_, _, rfl⟩, cX9_whose⟩
theorem cX9_value : Cl mX9_value 2 := ⟨gs3 233 rfl rfl, gs1 1 rfl rfl, by decide +kernel⟩
theorem lX9_351 : LkV "SoldWithIt" 351 mX9_value 2 9 := ⟨gs4 169 rfl rfl, gs3 231 rfl rfl, gs3 232 rfl rfl, ⟨_, _, rfl⟩, cX9_value⟩
theorem cX9_person : Cl mX9_person 2 := ⟨gs3 27 rfl rfl, gs1 1 rfl rfl, by decide +kernel⟩
theorem lX9_354 : LkV "SoldWithIt" 354 mX9_person 2 9 := ⟨gs4 174 rfl rfl, gs3 25 rfl rfl, gs3 26 rfl rfl, ⟨_, _, rfl⟩, cX9_person⟩
theorem cX9_keeper : Cl mX9_keeper 2 := ⟨gs3 117 rfl rfl, gs1 1 rfl rfl, by decide +kernel⟩
theorem lX9_357 : LkV "SoldWithIt" 357 mX9_keeper 2 9 := ⟨gs4 175 rfl rfl, gs3 115 rfl rfl, gs3 116 rfl rfl, ⟨_, _, rfl⟩, cX9_keeper⟩
theorem cX9_sold : Cl mX9_sold 2 := ⟨gs3 121 rfl rfl, gs1 1 rfl rfl, by decide +kernel⟩
theorem lX9_359 : LkV "SoldWithIt" 359 mX9_sold 2 9 := ⟨gs4 176 rfl rfl, gs3 119 rfl rfl, gs3 120 rfl rfl, ⟨_, _, rfl⟩, cX9_sold⟩
theorem cX9_gain : Cl mX9_gain 1 := ⟨gs3 146 rfl rfl, gs1 1 rfl rfl, by decide +kernel⟩
theorem lX9_362 : LkV "SoldWithIt" 362 mX9_gain 1 9 := ⟨gs4 177 rfl rfl, gs3 144 rfl rfl, gs3 145 rfl rfl, ⟨_, _, rfl⟩, cX9_gain⟩
theorem cX9_out : Cl mX9_out 1 := ⟨gs3 221 rfl rfl, gs1 1 rfl rfl, by decide +kernel⟩
theorem lX9_365 : LkV "SoldWithIt" 365 mX9_out 1 9 := ⟨gs4 178 rfl rfl, gs3 219 rfl rfl, gs3 220 rfl rfl, ⟨_, _, rfl⟩, cX9_out⟩
theorem cX9_come : Cl mX9_come 2 := ⟨gs4 44 rfl rfl, gs1 1 rfl rfl, by decide +kernel⟩
theorem lX9_368 : LkV "SoldWithIt" 368 mX9_come 2 9 := ⟨gs4 179 rfl rfl, gs4 42 rfl rfl, gs4 43 rfl rfl, ⟨_, _, rfl⟩, cX9_come⟩
theorem cX5_tell : Cl mX5_tell 2 := ⟨gs2 113 rfl rfl, gs1 3 rfl rfl, by decide +kernel⟩
theorem lX9_371 : LkV "SoldWithIt" 371 mX5_tell 2 5 := ⟨gs2 110 rfl rfl, gs2 111 rfl rfl, gs2 112 rfl rfl, ⟨_, _, rfl⟩, cX5_tell⟩
theorem cX2_forgetAll : Cl mX2_forgetAll 0 := ⟨gs2 227 rfl rfl, gs1 7 rfl rfl, by decide +kernel⟩
theorem lX9_375 : LkV "SoldWithIt" 375 mX2_forgetAll 0 2 := ⟨gs2 224 rfl rfl, gs2 225 rfl rfl, gs2 226 rfl rfl, ⟨_, _, rfl⟩, cX2_forgetAll⟩
theorem cX0_forgetAll : Cl mX0_forgetAll 0 := ⟨gs3 4 rfl rfl, gs1 8 rfl rfl, by decide +kernel⟩
theorem lX9_378 : LkV "SoldWithIt" 378 mX0_forgetAll 0 0 := ⟨gs3 1 rfl rfl, gs3 2 rfl rfl, gs3 3 rfl rfl, ⟨_, _, rfl⟩, cX0_forgetAll⟩
theorem cX6_begin : Cl mX6_begin 1 := ⟨gs3 81 rfl rfl, gs1 5 rfl rfl, by decide +kernel⟩
theorem lX9_382 : LkV "SoldWithIt" 382 mX6_begin 1 6 := ⟨gs3 78 rfl rfl, gs3 79 rfl rfl, gs3 80 rfl rfl, ⟨_, _, rfl⟩, cX6_begin⟩
theorem cX6_next : Cl mX6_next 3 := ⟨gs3 91 rfl rfl, gs1 5 rfl rfl, by decide +kernel⟩
theorem lX9_386 : LkV "SoldWithIt" 386 mX6_next 3 6 := ⟨gs3 88 rfl rfl, gs3 89 rfl rfl, gs3 90 rfl rfl, ⟨_, _, rfl⟩, cX6_next⟩
theorem cX9_likingAt : Cl mX9_likingAt 3 := ⟨gs4 56 rfl rfl, gs1 1 rfl rfl, by decide +kernel⟩
theorem lX9_390 : LkV "SoldWithIt" 390 mX9_likingAt 3 9 := ⟨gs4 53 rfl rfl, gs4 55 rfl rfl, gs0 21 rfl rfl, ⟨_, _, rfl⟩, cX9_likingAt⟩
theorem cX7_likingOf : Cl mX7_likingOf 2 := ⟨gs3 216 rfl rfl, gs1 6 rfl rfl, by decide +kernel⟩
theorem lX9_393 : LkV "SoldWithIt" 393 mX7_likingOf 2 7 := ⟨gs4 57 rfl rfl, gs3 214 rfl rfl, gs3 215 rfl rfl, ⟨_, _, rfl⟩, cX7_likingOf⟩
theorem lX0_3 : Cond.methodLink "SoldWithIt$Deeds" 3 objectInit ∈ gtbl := gs2 2 rfl rfl
theorem lX0_11 : LkN "SoldWithIt$Deeds" 11 mX6_init 0 := ⟨by decide +kernel, gs1 128 rfl rfl, rfl, rfl, cX6_init⟩
theorem cJ7_fill_fb410 : Cl mJ7_fill_fb410 2 := ⟨gs4 20 rfl rfl, gs1 18 rfl rfl, by decide +kernel⟩
theorem lX0_38 : LkS "SoldWithIt$Deeds" 38 mJ7_fill_fb410 2 := ⟨gs4 18 rfl rfl, gs4 19 rfl rfl, cJ7_fill_fb410⟩
theorem lX0_48 : LkS "SoldWithIt$Deeds" 48 mX0_withOwner 3 := ⟨gs4 21 rfl rfl, gs4 12 rfl rfl, cX0_withOwner⟩
theorem cX0_reach : Cl mX0_reach 2 := ⟨gs4 25 rfl rfl, gs1 8 rfl rfl, by decide +kernel⟩
theorem lX0_52 : LkV "SoldWithIt$Deeds" 52 mX0_reach 2 0 := ⟨gs4 22 rfl rfl, gs4 24 rfl rfl, gs0 17 rfl rfl, ⟨_, _, rfl⟩, cX0_reach⟩
theorem lX0_56 : LkV "SoldWithIt$Deeds" 56 mX6_begin 1 6 := ⟨gs4 26 rfl rfl, gs3 79 rfl rfl, gs3 80 rfl rfl, ⟨_, _, rfl⟩, cX6_begin⟩
theorem cX0_sellFrom : Cl mX0_sellFrom 3 := ⟨gs4 30 rfl rfl, gs1 8 rfl rfl, by decide +kernel⟩
theorem lX0_60 : LkV "SoldWithIt$Deeds" 60 mX0_sellFrom 3 0 := ⟨gs4 27 rfl rfl, gs4 29 rfl rfl, gs0 18 rfl rfl, ⟨_, _, rfl⟩, cX0_sellFrom⟩
theorem cJ7_fill_53178 : Cl mJ7_fill_53178 2 := ⟨gs2 215 rfl rfl, gs1 18 rfl rfl, by decide +kernel⟩
theorem lX0_67 : LkS "SoldWithIt$Deeds" 67 mJ7_fill_53178 2 := ⟨gs4 31 rfl rfl, gs2 214 rfl rfl, cJ7_fill_53178⟩
theorem cX6_goneWith : Cl mX6_goneWith 4 := ⟨gs3 95 rfl rfl, gs1 5 rfl rfl, by decide +kernel⟩
theorem lX0_76 : LkV "SoldWithIt$Deeds" 76 mX6_goneWith 4 6 := ⟨gs4 32 rfl rfl, gs3 93 rfl rfl, gs3 94 rfl rfl, ⟨_, _, rfl⟩, cX6_goneWith⟩
theorem cX0_handedOver : Cl mX0_handedOver 3 := ⟨gs4 35 rfl rfl, gs1 8 rfl rfl, by decide +kernel⟩
theorem lX0_80 : LkS "SoldWithIt$Deeds" 80 mX0_handedOver 3 := ⟨gs4 33 rfl rfl, gs4 34 rfl rfl, cX0_handedOver⟩
theorem lX1_3 : Cond.methodLink "SoldWithIt$Facts" 3 objectInit ∈ gtbl := gs2 26 rfl rfl
theorem lX2_3 : Cond.methodLink "SoldWithIt$Rows" 3 objectInit ∈ gtbl := gs1 181 rfl rfl
theorem lX2_11 : LkN "SoldWithIt$Rows" 11 mX6_init 0 := ⟨by decide +kernel, gs1 128 rfl rfl, rfl, rfl, cX6_init⟩
theorem lX2_67 : LkV "SoldWithIt$Rows" 67 mX2_forgetBest 0 2 := ⟨gs2 228 rfl rfl, gs2 229 rfl rfl, gs2 230 rfl rfl, ⟨_, _, rfl⟩, cX2_forgetBest⟩
theorem lX2_70 : LkV "SoldWithIt$Rows" 70 mX2_forgetRest 0 2 := ⟨gs2 233 rfl rfl, gs2 234 rfl rfl, gs2 235 rfl rfl, ⟨_, _, rfl⟩, cX2_forgetRest⟩
theorem lX2_73 : LkV "SoldWithIt$Rows" 73 mX2_forgetWays 0 2 := ⟨gs2 237 rfl rfl, gs2 238 rfl rfl, gs2 239 rfl rfl, ⟨_, _, rfl⟩, cX2_forgetWays⟩
theorem lX2_76 : LkS "SoldWithIt$Rows" 76 mJ7_fill_53178 2 := ⟨gs2 232 rfl rfl, gs2 214 rfl rfl, cJ7_fill_53178⟩
theorem cX2_toFirst : Cl mX2_toFirst 1 := ⟨gs3 163 rfl rfl, gs1 7 rfl rfl, by decide +kernel⟩
theorem lX2_85 : LkV "SoldWithIt$Rows" 85 mX2_toFirst 1 2 := ⟨gs3 160 rfl rfl, gs3 162 rfl rfl, gs0 10 rfl rfl, ⟨_, _, rfl⟩, cX2_toFirst⟩
theorem lX2_89 : LkV "SoldWithIt$Rows" 89 mX6_begin 1 6 := ⟨gs3 164 rfl rfl, gs3 79 rfl rfl, gs3 80 rfl rfl, ⟨_, _, rfl⟩, cX6_begin⟩
theorem lX2_95 : LkV "SoldWithIt$Rows" 95 mX6_next 3 6 := ⟨gs3 165 rfl rfl, gs3 89 rfl rfl, gs3 90 rfl rfl, ⟨_, _, rfl⟩, cX6_next⟩
theorem cX2_endOf : Cl mX2_endOf 1 := ⟨gs3 169 rfl rfl, gs1 7 rfl rfl, by decide +kernel⟩
theorem lX2_99 : LkV "SoldWithIt$Rows" 99 mX2_endOf 1 2 := ⟨gs3 166 rfl rfl, gs3 168 rfl rfl, gs0 11 rfl rfl, ⟨_, _, rfl⟩, cX2_endOf⟩
theorem cX2_toNext : Cl mX2_toNext 0 := ⟨gs3 173 rfl rfl, gs1 7 rfl rfl, by decide +kernel⟩
theorem lX2_103 : LkV "SoldWithIt$Rows" 103 mX2_toNext 0 2 := ⟨gs3 170 rfl rfl, gs3 172 rfl rfl, gs0 12 rfl rfl, ⟨_, _, rfl⟩, cX2_toNext⟩
theorem cX2_endAt : Cl mX2_endAt 1 := ⟨gs3 185 rfl rfl, gs1 7 rfl rfl, by decide +kernel⟩
theorem lX2_118 : LkV "SoldWithIt$Rows" 118 mX2_endAt 1 2 := ⟨gs3 182 rfl rfl, gs3 184 rfl rfl, gs0 13 rfl rfl, ⟨_, _, rfl⟩, cX2_endAt⟩
theorem cX2_keeperBy : Cl mX2_keeperBy 2 := ⟨gs3 188 rfl rfl, gs1 7 rfl rfl, by decide +kernel⟩
theorem lX2_122 : LkS "SoldWithIt$Rows" 122 mX2_keeperBy 2 := ⟨gs3 186 rfl rfl, gs3 187 rfl rfl, cX2_keeperBy⟩
theorem lX2_126 : LkV "SoldWithIt$Rows" 126 mX7_worthOf 2 7 := ⟨gs3 189 rfl rfl, gs3 148 rfl rfl, gs3 149 rfl rfl, ⟨_, _, rfl⟩, cX7_worthOf⟩
theorem lX2_132 : LkV "SoldWithIt$Rows" 132 mX2_gainBy 3 2 := ⟨gs3 178 rfl rfl, gs3 179 rfl rfl, gs3 180 rfl rfl, ⟨_, _, rfl⟩, cX2_gainBy⟩
theorem cX2_allRest : Cl mX2_allRest 3 := ⟨gs3 207 rfl rfl, gs1 7 rfl rfl, by decide +kernel⟩
theorem lX2_136 : LkV "SoldWithIt$Rows" 136 mX2_allRest 3 2 := ⟨gs3 204 rfl rfl, gs3 206 rfl rfl, gs0 14 rfl rfl, ⟨_, _, rfl⟩, cX2_allRest⟩
theorem lX2_143 : LkV "SoldWithIt$Rows" 143 mX2_spotIn 2 2 := ⟨gs3 208 rfl rfl, gs3 192 rfl rfl, gs3 193 rfl rfl, ⟨_, _, rfl⟩, cX2_spotIn⟩
theorem cX2_wouldWalk : Cl mX2_wouldWalk 3 := ⟨gs3 212 rfl rfl, gs1 7 rfl rfl, by decide +kernel⟩
theorem lX2_149 : LkV "SoldWithIt$Rows" 149 mX2_wouldWalk 3 2 := ⟨gs3 209 rfl rfl, gs3 211 rfl rfl, gs0 15 rfl rfl, ⟨_, _, rfl⟩, cX2_wouldWalk⟩
theorem lX2_153 : LkV "SoldWithIt$Rows" 153 mX7_likingOf 2 7 := ⟨gs3 213 rfl rfl, gs3 214 rfl rfl, gs3 215 rfl rfl, ⟨_, _, rfl⟩, cX7_likingOf⟩
theorem cX2_allSo : Cl mX2_allSo 2 := ⟨gs4 87 rfl rfl, gs1 7 rfl rfl, by decide +kernel⟩
theorem lX2_156 : LkV "SoldWithIt$Rows" 156 mX2_allSo 2 2 := ⟨gs4 84 rfl rfl, gs4 86 rfl rfl, gs0 22 rfl rfl, ⟨_, _, rfl⟩, cX2_allSo⟩
theorem lX2_160 : LkS "SoldWithIt$Rows" 160 mX2_spotBit 1 := ⟨gs4 88 rfl rfl, gs4 89 rfl rfl, cX2_spotBit⟩
theorem lX3_3 : Cond.methodLink "SoldWithIt$Sales" 3 objectInit ∈ gtbl := gs1 104 rfl rfl
theorem lX4_3 : Cond.methodLink "SoldWithIt$Sheet" 3 objectInit ∈ gtbl := gs2 47 rfl rfl
theorem lX4_22 : LkS "SoldWithIt$Sheet" 22 mJ7_fill_53178 2 := ⟨gs4 107 rfl rfl, gs2 214 rfl rfl, cJ7_fill_53178⟩
theorem lX4_28 : LkV "SoldWithIt$Sheet" 28 mX4_isLost 0 4 := ⟨gs4 120 rfl rfl, gs3 58 rfl rfl, gs3 59 rfl rfl, ⟨_, _, rfl⟩, cX4_isLost⟩
theorem lX5_3 : Cond.methodLink "SoldWithIt$Street" 3 objectInit ∈ gtbl := gs1 52 rfl rfl
theorem cX5_fitsHouse : Cl mX5_fitsHouse 2 := ⟨gs2 119 rfl rfl, gs1 3 rfl rfl, by decide +kernel⟩
theorem lX5_45 : LkS "SoldWithIt$Street" 45 mX5_fitsHouse 2 := ⟨gs2 117 rfl rfl, gs2 118 rfl rfl, cX5_fitsHouse⟩
theorem cX5_fitsPerson : Cl mX5_fitsPerson 2 := ⟨gs2 125 rfl rfl, gs1 3 rfl rfl, by decide +kernel⟩
theorem lX5_49 : LkS "SoldWithIt$Street" 49 mX5_fitsPerson 2 := ⟨gs2 123 rfl rfl, gs2 124 rfl rfl, cX5_fitsPerson⟩
theorem cJ0_indexOf_0f7a4 : Cl mJ0_indexOf_0f7a4 1 := ⟨gs2 130 rfl rfl, gs1 12 rfl rfl, by decide +kernel⟩
theorem lX5_60 : LkS "SoldWithIt$Street" 60 mX5_wrongHouse 1 := ⟨gs2 114 rfl rfl, gs2 115 rfl rfl, cX5_wrongHouse⟩
theorem lX5_64 : LkS "SoldWithIt$Street" 64 mX5_wrongPerson 1 := ⟨gs2 120 rfl rfl, gs2 121 rfl rfl, cX5_wrongPerson⟩
theorem lX5_67 : LkS "SoldWithIt$Street" 67 mJ7_fill_53178 2 := ⟨gs2 213 rfl rfl, gs2 214 rfl rfl, cJ7_fill_53178⟩
theorem cX5_spotOf : Cl mX5_spotOf 1 := ⟨gs2 219 rfl rfl, gs1 3 rfl rfl, by decide +kernel⟩
theorem lX5_73 : LkV "SoldWithIt$Street" 73 mX5_spotOf 1 5 := ⟨gs2 216 rfl rfl, gs2 218 rfl rfl, gs0 1 rfl rfl, ⟨_, _, rfl⟩, cX5_spotOf⟩
theorem lX6_3 : Cond.methodLink "SoldWithIt$Stroke" 3 objectInit ∈ gtbl := gs1 130 rfl rfl
theorem lX6_37 : Cond.methodLink "SoldWithIt$Stroke" 37 arraycopyName ∈ gtbl := gs3 82 rfl rfl
theorem lX6_49 : LkS "SoldWithIt$Stroke" 49 mJ7_fill_53178 2 := ⟨gs3 87 rfl rfl, gs2 214 rfl rfl, cJ7_fill_53178⟩
theorem lX6_75 : LkV "SoldWithIt$Stroke" 75 mX6_goneWith 4 6 := ⟨gs3 92 rfl rfl, gs3 93 rfl rfl, gs3 94 rfl rfl, ⟨_, _, rfl⟩, cX6_goneWith⟩
theorem cX6_handOver : Cl mX6_handOver 2 := ⟨gs3 109 rfl rfl, gs1 5 rfl rfl, by decide +kernel⟩
theorem lX6_79 : LkV "SoldWithIt$Stroke" 79 mX6_handOver 2 6 := ⟨gs3 106 rfl rfl, gs3 108 rfl rfl, gs0 8 rfl rfl, ⟨_, _, rfl⟩, cX6_handOver⟩
theorem cX6_keep : Cl mX6_keep 2 := ⟨gs3 113 rfl rfl, gs1 5 rfl rfl, by decide +kernel⟩
theorem lX6_83 : LkV "SoldWithIt$Stroke" 83 mX6_keep 2 6 := ⟨gs3 110 rfl rfl, gs3 112 rfl rfl, gs0 9 rfl rfl, ⟨_, _, rfl⟩, cX6_keep⟩
theorem lX6_86 : LkS "SoldWithIt$Stroke" 86 mJ6_bitCount_0f7a4 1 := ⟨gs3 96 rfl rfl, gs3 97 rfl rfl, cJ6_bitCount_0f7a4⟩
theorem cX6_ownedBy : Cl mX6_ownedBy 1 := ⟨gs3 105 rfl rfl, gs1 5 rfl rfl, by decide +kernel⟩
theorem lX6_92 : LkV "SoldWithIt$Stroke" 92 mX6_ownedBy 1 6 := ⟨gs3 102 rfl rfl, gs3 104 rfl rfl, gs0 7 rfl rfl, ⟨_, _, rfl⟩, cX6_ownedBy⟩
theorem lX7_3 : Cond.methodLink "SoldWithIt$Tastes" 3 objectInit ∈ gtbl := gs1 166 rfl rfl
theorem lX8_1 : Cond.methodLink "SoldWithIt$Text" 1 objectInit ∈ gtbl := gs1 35 rfl rfl
theorem cX9_init : Cl mX9_init 0 := ⟨gs1 25 rfl rfl, gs1 1 rfl rfl, by decide +kernel⟩
theorem lL_9 : LkI "SoldWithItLaw" 9 mX9_init 0 := ⟨gs1 23 rfl rfl, gs1 24 rfl rfl, rfl, rfl, cX9_init⟩
theorem cX10_init : Cl mX10_init 0 := ⟨gs4 186 rfl rfl, gs1 11 rfl rfl, by decide +kernel⟩
theorem lL_12 : LkI "SoldWithItLaw" 12 mX10_init 0 := ⟨gs4 184 rfl rfl, gs4 185 rfl rfl, rfl, rfl, cX10_init⟩
theorem cX9_type : Cl mX9_type 2 := ⟨gs2 98 rfl rfl, gs1 1 rfl rfl, by decide +kernel⟩
theorem lL_13 : LkV "SoldWithItLaw" 13 mX9_type 2 9 := ⟨gs2 95 rfl rfl, gs2 96 rfl rfl, gs2 97 rfl rfl, ⟨_, _, rfl⟩, cX9_type⟩
theorem cX10_type : Cl mX10_type 2 := ⟨gs5 52 rfl rfl, gs1 11 rfl rfl, by decide +kernel⟩
theorem lL_17 : LkV "SoldWithItLaw" 17 mX10_type 2 10 := ⟨gs5 49 rfl rfl, gs5 50 rfl rfl, gs5 51 rfl rfl, ⟨_, _, rfl⟩, cX10_type⟩
theorem cX9_wipe : Cl mX9_wipe 1 := ⟨gs3 9 rfl rfl, gs1 1 rfl rfl, by decide +kernel⟩
theorem lL_18 : LkV "SoldWithItLaw" 18 mX9_wipe 1 9 := ⟨gs3 6 rfl rfl, gs3 7 rfl rfl, gs3 8 rfl rfl, ⟨_, _, rfl⟩, cX9_wipe⟩
theorem cX10_wipe : Cl mX10_wipe 1 := ⟨gs5 59 rfl rfl, gs1 11 rfl rfl, by decide +kernel⟩
theorem lL_22 : LkV "SoldWithItLaw" 22 mX10_wipe 1 10 := ⟨gs5 56 rfl rfl, gs5 57 rfl rfl, gs5 58 rfl rfl, ⟨_, _, rfl⟩, cX10_wipe⟩
theorem lL_23 : LkV "SoldWithItLaw" 23 mX9_fault 1 9 := ⟨gs3 10 rfl rfl, gs3 11 rfl rfl, gs3 12 rfl rfl, ⟨_, _, rfl⟩, cX9_fault⟩
theorem cX10_fault : Cl mX10_fault 1 := ⟨gs5 63 rfl rfl, gs1 11 rfl rfl, by decide +kernel⟩
theorem lL_26 : LkV "SoldWithItLaw" 26 mX10_fault 1 10 := ⟨gs5 60 rfl rfl, gs5 61 rfl rfl, gs5 62 rfl rfl, ⟨_, _, rfl⟩, cX10_fault⟩
theorem lL_27 : LkV "SoldWithItLaw" 27 mX9_house 2 9 := ⟨gs3 16 rfl rfl, gs3 17 rfl rfl, gs3 18 rfl rfl, ⟨_, _, rfl⟩, cX9_house⟩
theorem cX10_house : Cl mX10_house 2 := ⟨gs5 83 rfl rfl, gs1 11 rfl rfl, by decide +kernel⟩
theorem lL_30 : LkV "SoldWithItLaw" 30 mX10_house 2 10 := ⟨gs5 80 rfl rfl, gs5 81 rfl rfl, gs5 82 rfl rfl, ⟨_, _, rfl⟩, cX10_house⟩
theorem lL_31 : LkV "SoldWithItLaw" 31 mX9_person 2 9 := ⟨gs3 24 rfl rfl, gs3 25 rfl rfl, gs3 26 rfl rfl, ⟨_, _, rfl⟩, cX9_person⟩
theorem cX10_person : Cl mX10_person 2 := ⟨gs5 99 rfl rfl, gs1 11 rfl rfl, by decide +kernel⟩
theorem lL_34 : LkV "SoldWithItLaw" 34 mX10_person 2 10 := ⟨gs5 96 rfl rfl, gs5 97 rfl rfl, gs5 98 rfl rfl, ⟨_, _, rfl⟩, cX10_person⟩
theorem cX9_law : Cl mX9_law 2 := ⟨gs3 38 rfl rfl, gs1 1 rfl rfl, by decide +kernel⟩
theorem lL_35 : LkV "SoldWithItLaw" 35 mX9_law 2 9 := ⟨gs3 35 rfl rfl, gs3 36 rfl rfl, gs3 37 rfl rfl, ⟨_, _, rfl⟩, cX9_law⟩
theorem cX10_law : Cl mX10_law 2 := ⟨gs5 111 rfl rfl, gs1 11 rfl rfl, by decide +kernel⟩
theorem lL_38 : LkV "SoldWithItLaw" 38 mX10_law 2 10 := ⟨gs5 108 rfl rfl, gs5 109 rfl rfl, gs5 110 rfl rfl, ⟨_, _, rfl⟩, cX10_law⟩
theorem lL_39 : LkV "SoldWithItLaw" 39 mX9_sale 2 9 := ⟨gs3 39 rfl rfl, gs3 40 rfl rfl, gs3 41 rfl rfl, ⟨_, _, rfl⟩, cX9_sale⟩
theorem cX10_sale : Cl mX10_sale 2 := ⟨gs5 115 rfl rfl, gs1 11 rfl rfl, by decide +kernel⟩
theorem lL_42 : LkV "SoldWithItLaw" 42 mX10_sale 2 10 := ⟨gs5 112 rfl rfl, gs5 113 rfl rfl, gs5 114 rfl rfl, ⟨_, _, rfl⟩, cX10_sale⟩
theorem cX9_read : Cl mX9_read 1 := ⟨gs3 53 rfl rfl, gs1 1 rfl rfl, by decide +kernel⟩
theorem lL_43 : LkV "SoldWithItLaw" 43 mX9_read 1 9 := ⟨gs3 50 rfl rfl, gs3 51 rfl rfl, gs3 52 rfl rfl, ⟨_, _, rfl⟩, cX9_read⟩
theorem cX10_read : Cl mX10_read 1 := ⟨gs5 126 rfl rfl, gs1 11 rfl rfl, by decide +kernel⟩
theorem lL_46 : LkV "SoldWithItLaw" 46 mX10_read 1 10 := ⟨gs5 123 rfl rfl, gs5 124 rfl rfl, gs5 125 rfl rfl, ⟨_, _, rfl⟩, cX10_read⟩
theorem cX9_undo : Cl mX9_undo 0 := ⟨gs3 69 rfl rfl, gs1 1 rfl rfl, by decide +kernel⟩
theorem lL_47 : LkV "SoldWithItLaw" 47 mX9_undo 0 9 := ⟨gs3 66 rfl rfl, gs3 67 rfl rfl, gs3 68 rfl rfl, ⟨_, _, rfl⟩, cX9_undo⟩
theorem cX10_undo : Cl mX10_undo 0 := ⟨gs5 137 rfl rfl, gs1 11 rfl rfl, by decide +kernel⟩
theorem lL_51 : LkV "SoldWithItLaw" 51 mX10_undo 0 10 := ⟨gs5 134 rfl rfl, gs5 135 rfl rfl, gs5 136 rfl rfl, ⟨_, _, rfl⟩, cX10_undo⟩
theorem lL_52 : LkV "SoldWithItLaw" 52 mX9_whose 2 9 := ⟨gs3 70 rfl rfl, gs3 71 rfl rfl, gs3 72 rfl rfl, ⟨_, _, rfl⟩, cX9_whose⟩
theorem cX10_whose : Cl mX10_whose 2 := ⟨gs5 141 rfl rfl, gs1 11 rfl rfl, by decide +kernel⟩
theorem lL_55 : LkV "SoldWithItLaw" 55 mX10_whose 2 10 := ⟨gs5 138 rfl rfl, gs5 139 rfl rfl, gs5 140 rfl rfl, ⟨_, _, rfl⟩, cX10_whose⟩
theorem lL_56 : LkV "SoldWithItLaw" 56 mX9_keeper 2 9 := ⟨gs3 114 rfl rfl, gs3 115 rfl rfl, gs3 116 rfl rfl, ⟨_, _, rfl⟩, cX9_keeper⟩
theorem cX10_keeper : Cl mX10_keeper 2 := ⟨gs5 164 rfl rfl, gs1 11 rfl rfl, by decide +kernel⟩
theorem lL_59 : LkV "SoldWithItLaw" 59 mX10_keeper 2 10 := ⟨gs5 161 rfl rfl, gs5 162 rfl rfl, gs5 163 rfl rfl, ⟨_, _, rfl⟩, cX10_keeper⟩
theorem lL_60 : LkV "SoldWithItLaw" 60 mX9_sold 2 9 := ⟨gs3 118 rfl rfl, gs3 119 rfl rfl, gs3 120 rfl rfl, ⟨_, _, rfl⟩, cX9_sold⟩
theorem cX10_sold : Cl mX10_sold 2 := ⟨gs5 172 rfl rfl, gs1 11 rfl rfl, by decide +kernel⟩
theorem lL_63 : LkV "SoldWithItLaw" 63 mX10_sold 2 10 := ⟨gs5 169 rfl rfl, gs5 170 rfl rfl, gs5 171 rfl rfl, ⟨_, _, rfl⟩, cX10_sold⟩
theorem lL_64 : LkV "SoldWithItLaw" 64 mX9_length 1 9 := ⟨gs3 122 rfl rfl, gs3 123 rfl rfl, gs3 124 rfl rfl, ⟨_, _, rfl⟩, cX9_length⟩
theorem cX10_length : Cl mX10_length 1 := ⟨gs5 180 rfl rfl, gs1 11 rfl rfl, by decide +kernel⟩
theorem lL_67 : LkV "SoldWithItLaw" 67 mX10_length 1 10 := ⟨gs5 177 rfl rfl, gs5 178 rfl rfl, gs5 179 rfl rfl, ⟨_, _, rfl⟩, cX10_length⟩
theorem cX9_worth : Cl mX9_worth 3 := ⟨gs3 129 rfl rfl, gs1 1 rfl rfl, by decide +kernel⟩
theorem lL_68 : LkV "SoldWithItLaw" 68 mX9_worth 3 9 := ⟨gs3 126 rfl rfl, gs3 127 rfl rfl, gs3 128 rfl rfl, ⟨_, _, rfl⟩, cX9_worth⟩
theorem cX10_worth : Cl mX10_worth 3 := ⟨gs5 188 rfl rfl, gs1 11 rfl rfl, by decide +kernel⟩
theorem lL_72 : LkV "SoldWithItLaw" 72 mX10_worth 3 10 := ⟨gs5 185 rfl rfl, gs5 186 rfl rfl, gs5 187 rfl rfl, ⟨_, _, rfl⟩, cX10_worth⟩
theorem cX9_like : Cl mX9_like 3 := ⟨gs3 141 rfl rfl, gs1 1 rfl rfl, by decide +kernel⟩
theorem lL_73 : LkV "SoldWithItLaw" 73 mX9_like 3 9 := ⟨gs3 138 rfl rfl, gs3 139 rfl rfl, gs3 140 rfl rfl, ⟨_, _, rfl⟩, cX9_like⟩
theorem cX10_like : Cl mX10_like 3 := ⟨gs5 193 rfl rfl, gs1 11 rfl rfl, by decide +kernel⟩
theorem lL_76 : LkV "SoldWithItLaw" 76 mX10_like 3 10 := ⟨gs5 190 rfl rfl, gs5 191 rfl rfl, gs5 192 rfl rfl, ⟨_, _, rfl⟩, cX10_like⟩
theorem lL_77 : LkV "SoldWithItLaw" 77 mX9_gain 1 9 := ⟨gs3 143 rfl rfl, gs3 144 rfl rfl, gs3 145 rfl rfl, ⟨_, _, rfl⟩, cX9_gain⟩
theorem cX10_gain : Cl mX10_gain 1 := ⟨gs5 197 rfl rfl, gs1 11 rfl rfl, by decide +kernel⟩
theorem lL_80 : LkV "SoldWithItLaw" 80 mX10_gain 1 10 := ⟨gs5 194 rfl rfl, gs5 195 rfl rfl, gs5 196 rfl rfl, ⟨_, _, rfl⟩, cX10_gain⟩
theorem cX9_best : Cl mX9_best 2 := ⟨gs3 154 rfl rfl, gs1 1 rfl rfl, by decide +kernel⟩
theorem lL_81 : LkV "SoldWithItLaw" 81 mX9_best 2 9 := ⟨gs3 151 rfl rfl, gs3 152 rfl rfl, gs3 153 rfl rfl, ⟨_, _, rfl⟩, cX9_best⟩
theorem cX10_best : Cl mX10_best 2 := ⟨gs5 209 rfl rfl, gs1 11 rfl rfl, by decide +kernel⟩
theorem lL_84 : LkV "SoldWithItLaw" 84 mX10_best 2 10 := ⟨gs5 206 rfl rfl, gs5 207 rfl rfl, gs5 208 rfl rfl, ⟨_, _, rfl⟩, cX10_best⟩
theorem cX9_rest : Cl mX9_rest 1 := ⟨gs3 199 rfl rfl, gs1 1 rfl rfl, by decide +kernel⟩
theorem lL_85 : LkV "SoldWithItLaw" 85 mX9_rest 1 9 := ⟨gs3 196 rfl rfl, gs3 197 rfl rfl, gs3 198 rfl rfl, ⟨_, _, rfl⟩, cX9_rest⟩
theorem cX10_rest : Cl mX10_rest 1 := ⟨gs5 226 rfl rfl, gs1 11 rfl rfl, by decide +kernel⟩
theorem lL_88 : LkV "SoldWithItLaw" 88 mX10_rest 1 10 := ⟨gs5 223 rfl rfl, gs5 224 rfl rfl, gs5 225 rfl rfl, ⟨_, _, rfl⟩, cX10_rest⟩
theorem lL_89 : LkV "SoldWithItLaw" 89 mX9_out 1 9 := ⟨gs3 218 rfl rfl, gs3 219 rfl rfl, gs3 220 rfl rfl, ⟨_, _, rfl⟩, cX9_out⟩
theorem cX10_out : Cl mX10_out 1 := ⟨gs5 239 rfl rfl, gs1 11 rfl rfl, by decide +kernel⟩
theorem lL_92 : LkV "SoldWithItLaw" 92 mX10_out 1 10 := ⟨gs5 236 rfl rfl, gs5 237 rfl rfl, gs5 238 rfl rfl, ⟨_, _, rfl⟩, cX10_out⟩
theorem lL_93 : LkV "SoldWithItLaw" 93 mX9_value 2 9 := ⟨gs3 230 rfl rfl, gs3 231 rfl rfl, gs3 232 rfl rfl, ⟨_, _, rfl⟩, cX9_value⟩
theorem cX10_value : Cl mX10_value 2 := ⟨gs6 11 rfl rfl, gs1 11 rfl rfl, by decide +kernel⟩
theorem lL_96 : LkV "SoldWithItLaw" 96 mX10_value 2 10 := ⟨gs6 8 rfl rfl, gs6 9 rfl rfl, gs6 10 rfl rfl, ⟨_, _, rfl⟩, cX10_value⟩
theorem lL_97 : LkV "SoldWithItLaw" 97 mX9_change 2 9 := ⟨gs3 238 rfl rfl, gs3 239 rfl rfl, gs4 0 rfl rfl, ⟨_, _, rfl⟩, cX9_change⟩
theorem cX10_change : Cl mX10_change 2 := ⟨gs6 19 rfl rfl, gs1 11 rfl rfl, by decide +kernel⟩
theorem lL_100 : LkV "SoldWithItLaw" 100 mX10_change 2 10 := ⟨gs6 16 rfl rfl, gs6 17 rfl rfl, gs6 18 rfl rfl, ⟨_, _, rfl⟩, cX10_change⟩
theorem lL_101 : LkV "SoldWithItLaw" 101 mX9_changes 0 9 := ⟨gs4 2 rfl rfl, gs4 3 rfl rfl, gs4 4 rfl rfl, ⟨_, _, rfl⟩, cX9_changes⟩
theorem cX10_changes : Cl mX10_changes 0 := ⟨gs6 27 rfl rfl, gs1 11 rfl rfl, by decide +kernel⟩
theorem lL_104 : LkV "SoldWithItLaw" 104 mX10_changes 0 10 := ⟨gs6 24 rfl rfl, gs6 25 rfl rfl, gs6 26 rfl rfl, ⟨_, _, rfl⟩, cX10_changes⟩
theorem cX9_should : Cl mX9_should 1 := ⟨gs4 10 rfl rfl, gs1 1 rfl rfl, by decide +kernel⟩
theorem lL_105 : LkV "SoldWithItLaw" 105 mX9_should 1 9 := ⟨gs4 7 rfl rfl, gs4 8 rfl rfl, gs4 9 rfl rfl, ⟨_, _, rfl⟩, cX9_should⟩
theorem cX10_should : Cl mX10_should 1 := ⟨gs6 35 rfl rfl, gs1 11 rfl rfl, by decide +kernel⟩
theorem lL_108 : LkV "SoldWithItLaw" 108 mX10_should 1 10 := ⟨gs6 32 rfl rfl, gs6 33 rfl rfl, gs6 34 rfl rfl, ⟨_, _, rfl⟩, cX10_should⟩
theorem lL_109 : LkV "SoldWithItLaw" 109 mX9_come 2 9 := ⟨gs4 41 rfl rfl, gs4 42 rfl rfl, gs4 43 rfl rfl, ⟨_, _, rfl⟩, cX9_come⟩
theorem cX10_come : Cl mX10_come 2 := ⟨gs6 51 rfl rfl, gs1 11 rfl rfl, by decide +kernel⟩
theorem lL_112 : LkV "SoldWithItLaw" 112 mX10_come 2 10 := ⟨gs6 48 rfl rfl, gs6 49 rfl rfl, gs6 50 rfl rfl, ⟨_, _, rfl⟩, cX10_come⟩
theorem cX9_invite : Cl mX9_invite 2 := ⟨gs4 61 rfl rfl, gs1 1 rfl rfl, by decide +kernel⟩
theorem lL_113 : LkV "SoldWithItLaw" 113 mX9_invite 2 9 := ⟨gs4 58 rfl rfl, gs4 59 rfl rfl, gs4 60 rfl rfl, ⟨_, _, rfl⟩, cX9_invite⟩
theorem cX10_invite : Cl mX10_invite 2 := ⟨gs6 59 rfl rfl, gs1 11 rfl rfl, by decide +kernel⟩
theorem lL_116 : LkV "SoldWithItLaw" 116 mX10_invite 2 10 := ⟨gs6 56 rfl rfl, gs6 57 rfl rfl, gs6 58 rfl rfl, ⟨_, _, rfl⟩, cX10_invite⟩
theorem cX9_fact : Cl mX9_fact 2 := ⟨gs4 66 rfl rfl, gs1 1 rfl rfl, by decide +kernel⟩
theorem lL_117 : LkV "SoldWithItLaw" 117 mX9_fact 2 9 := ⟨gs4 63 rfl rfl, gs4 64 rfl rfl, gs4 65 rfl rfl, ⟨_, _, rfl⟩, cX9_fact⟩
theorem cX10_fact : Cl mX10_fact 2 := ⟨gs6 70 rfl rfl, gs1 11 rfl rfl, by decide +kernel⟩
theorem lL_120 : LkV "SoldWithItLaw" 120 mX10_fact 2 10 := ⟨gs6 67 rfl rfl, gs6 68 rfl rfl, gs6 69 rfl rfl, ⟨_, _, rfl⟩, cX10_fact⟩
theorem cX9_forget : Cl mX9_forget 0 := ⟨gs4 75 rfl rfl, gs1 1 rfl rfl, by decide +kernel⟩
theorem lL_121 : LkV "SoldWithItLaw" 121 mX9_forget 0 9 := ⟨gs4 72 rfl rfl, gs4 73 rfl rfl, gs4 74 rfl rfl, ⟨_, _, rfl⟩, cX9_forget⟩
theorem cX10_forget : Cl mX10_forget 0 := ⟨gs6 74 rfl rfl, gs1 11 rfl rfl, by decide +kernel⟩
theorem lL_124 : LkV "SoldWithItLaw" 124 mX10_forget 0 10 := ⟨gs6 71 rfl rfl, gs6 72 rfl rfl, gs6 73 rfl rfl, ⟨_, _, rfl⟩, cX10_forget⟩
theorem cX9_were : Cl mX9_were 1 := ⟨gs4 79 rfl rfl, gs1 1 rfl rfl, by decide +kernel⟩
theorem lL_125 : LkV "SoldWithItLaw" 125 mX9_were 1 9 := ⟨gs4 76 rfl rfl, gs4 77 rfl rfl, gs4 78 rfl rfl, ⟨_, _, rfl⟩, cX9_were⟩
theorem cX10_were : Cl mX10_were 1 := ⟨gs6 78 rfl rfl, gs1 11 rfl rfl, by decide +kernel⟩
theorem lL_128 : LkV "SoldWithItLaw" 128 mX10_were 1 10 := ⟨gs6 75 rfl rfl, gs6 76 rfl rfl, gs6 77 rfl rfl, ⟨_, _, rfl⟩, cX10_were⟩
theorem cX9_bed : Cl mX9_bed 0 := ⟨gs4 94 rfl rfl, gs1 1 rfl rfl, by decide +kernel⟩
theorem lL_129 : LkV "SoldWithItLaw" 129 mX9_bed 0 9 := ⟨gs4 91 rfl rfl, gs4 92 rfl rfl, gs4 93 rfl rfl, ⟨_, _, rfl⟩, cX9_bed⟩
theorem cX10_bed : Cl mX10_bed 0 := ⟨gs6 86 rfl rfl, gs1 11 rfl rfl, by decide +kernel⟩
theorem lL_132 : LkV "SoldWithItLaw" 132 mX10_bed 0 10 := ⟨gs6 83 rfl rfl, gs6 84 rfl rfl, gs6 85 rfl rfl, ⟨_, _, rfl⟩, cX10_bed⟩
theorem cX9_sheet : Cl mX9_sheet 3 := ⟨gs4 99 rfl rfl, gs1 1 rfl rfl, by decide +kernel⟩
theorem lL_133 : LkV "SoldWithItLaw" 133 mX9_sheet 3 9 := ⟨gs4 96 rfl rfl, gs4 97 rfl rfl, gs4 98 rfl rfl, ⟨_, _, rfl⟩, cX9_sheet⟩
theorem cX10_sheet : Cl mX10_sheet 3 := ⟨gs6 90 rfl rfl, gs1 11 rfl rfl, by decide +kernel⟩
theorem lL_136 : LkV "SoldWithItLaw" 136 mX10_sheet 3 10 := ⟨gs6 87 rfl rfl, gs6 88 rfl rfl, gs6 89 rfl rfl, ⟨_, _, rfl⟩, cX10_sheet⟩
theorem cX9_lose : Cl mX9_lose 1 := ⟨gs4 111 rfl rfl, gs1 1 rfl rfl, by decide +kernel⟩
theorem lL_137 : LkV "SoldWithItLaw" 137 mX9_lose 1 9 := ⟨gs4 108 rfl rfl, gs4 109 rfl rfl, gs4 110 rfl rfl, ⟨_, _, rfl⟩, cX9_lose⟩
theorem cX10_lose : Cl mX10_lose 1 := ⟨gs6 94 rfl rfl, gs1 11 rfl rfl, by decide +kernel⟩
theorem lL_140 : LkV "SoldWithItLaw" 140 mX10_lose 1 10 := ⟨gs6 91 rfl rfl, gs6 92 rfl rfl, gs6 93 rfl rfl, ⟨_, _, rfl⟩, cX10_lose⟩
theorem cX9_put : Cl mX9_put 4 := ⟨gs4 115 rfl rfl, gs1 1 rfl rfl, by decide +kernel⟩
theorem lL_141 : LkV "SoldWithItLaw" 141 mX9_put 4 9 := ⟨gs4 112 rfl rfl, gs4 113 rfl rfl, gs4 114 rfl rfl, ⟨_, _, rfl⟩, cX9_put⟩
theorem cX10_put : Cl mX10_put 4 := ⟨gs6 98 rfl rfl, gs1 11 rfl rfl, by decide +kernel⟩
theorem lL_145 : LkV "SoldWithItLaw" 145 mX10_put 4 10 := ⟨gs6 95 rfl rfl, gs6 96 rfl rfl, gs6 97 rfl rfl, ⟨_, _, rfl⟩, cX10_put⟩
theorem cX9_get : Cl mX9_get 3 := ⟨gs4 128 rfl rfl, gs1 1 rfl rfl, by decide +kernel⟩
theorem lL_146 : LkV "SoldWithItLaw" 146 mX9_get 3 9 := ⟨gs4 125 rfl rfl, gs4 126 rfl rfl, gs4 127 rfl rfl, ⟨_, _, rfl⟩, cX9_get⟩
theorem cX10_get : Cl mX10_get 3 := ⟨gs6 110 rfl rfl, gs1 11 rfl rfl, by decide +kernel⟩
theorem lL_149 : LkV "SoldWithItLaw" 149 mX10_get 3 10 := ⟨gs6 107 rfl rfl, gs6 108 rfl rfl, gs6 109 rfl rfl, ⟨_, _, rfl⟩, cX10_get⟩
theorem cX9_copy : Cl mX9_copy 5 := ⟨gs4 133 rfl rfl, gs1 1 rfl rfl, by decide +kernel⟩
theorem lL_150 : LkV "SoldWithItLaw" 150 mX9_copy 5 9 := ⟨gs4 130 rfl rfl, gs4 131 rfl rfl, gs4 132 rfl rfl, ⟨_, _, rfl⟩, cX9_copy⟩
theorem cX10_copy : Cl mX10_copy 5 := ⟨gs6 115 rfl rfl, gs1 11 rfl rfl, by decide +kernel⟩
theorem lL_154 : LkV "SoldWithItLaw" 154 mX10_copy 5 10 := ⟨gs6 112 rfl rfl, gs6 113 rfl rfl, gs6 114 rfl rfl, ⟨_, _, rfl⟩, cX10_copy⟩
theorem cX9_write : Cl mX9_write 1 := ⟨gs4 142 rfl rfl, gs1 1 rfl rfl, by decide +kernel⟩
theorem lL_155 : LkV "SoldWithItLaw" 155 mX9_write 1 9 := ⟨gs4 139 rfl rfl, gs4 140 rfl rfl, gs4 141 rfl rfl, ⟨_, _, rfl⟩, cX9_write⟩
theorem cX10_write : Cl mX10_write 1 := ⟨gs6 119 rfl rfl, gs1 11 rfl rfl, by decide +kernel⟩
theorem lL_158 : LkV "SoldWithItLaw" 158 mX10_write 1 10 := ⟨gs6 116 rfl rfl, gs6 117 rfl rfl, gs6 118 rfl rfl, ⟨_, _, rfl⟩, cX10_write⟩
theorem lL_159 : LkV "SoldWithItLaw" 159 mX9_count 1 9 := ⟨gs4 143 rfl rfl, gs4 144 rfl rfl, gs4 145 rfl rfl, ⟨_, _, rfl⟩, cX9_count⟩
theorem cX10_count : Cl mX10_count 1 := ⟨gs6 123 rfl rfl, gs1 11 rfl rfl, by decide +kernel⟩
theorem lL_162 : LkV "SoldWithItLaw" 162 mX10_count 1 10 := ⟨gs6 120 rfl rfl, gs6 121 rfl rfl, gs6 122 rfl rfl, ⟨_, _, rfl⟩, cX10_count⟩
theorem cX9_digest : Cl mX9_digest 0 := ⟨gs4 158 rfl rfl, gs1 1 rfl rfl, by decide +kernel⟩
theorem lL_163 : LkV "SoldWithItLaw" 163 mX9_digest 0 9 := ⟨gs4 155 rfl rfl, gs4 156 rfl rfl, gs4 157 rfl rfl, ⟨_, _, rfl⟩, cX9_digest⟩
theorem cX10_digest : Cl mX10_digest 0 := ⟨gs6 131 rfl rfl, gs1 11 rfl rfl, by decide +kernel⟩
theorem lL_167 : LkV "SoldWithItLaw" 167 mX10_digest 0 10 := ⟨gs6 128 rfl rfl, gs6 129 rfl rfl, gs6 130 rfl rfl, ⟨_, _, rfl⟩, cX10_digest⟩
theorem lX10_1 : Cond.methodLink "SoldWithItModel" 1 objectInit ∈ gtbl := gs4 187 rfl rfl
theorem cX10_in : Cl mX10_in 3 := ⟨gs5 55 rfl rfl, gs1 11 rfl rfl, by decide +kernel⟩
theorem lX10_92 : LkS "SoldWithItModel" 92 mX10_in 3 := ⟨gs5 53 rfl rfl, gs5 54 rfl rfl, cX10_in⟩
theorem cX10_byteAt : Cl mX10_byteAt 2 := ⟨gs5 75 rfl rfl, gs1 11 rfl rfl, by decide +kernel⟩
theorem lX10_100 : LkV "SoldWithItModel" 100 mX10_byteAt 2 10 := ⟨gs5 72 rfl rfl, gs5 74 rfl rfl, gs0 29 rfl rfl, ⟨_, _, rfl⟩, cX10_byteAt⟩
theorem cX10_readsHouses : Cl mX10_readsHouses 0 := ⟨gs5 71 rfl rfl, gs1 11 rfl rfl, by decide +kernel⟩
theorem lX10_107 : LkV "SoldWithItModel" 107 mX10_readsHouses 0 10 := ⟨gs5 68 rfl rfl, gs5 70 rfl rfl, gs0 28 rfl rfl, ⟨_, _, rfl⟩, cX10_readsHouses⟩
theorem cX10_readsPeople : Cl mX10_readsPeople 0 := ⟨gs5 79 rfl rfl, gs1 11 rfl rfl, by decide +kernel⟩
theorem lX10_111 : LkV "SoldWithItModel" 111 mX10_readsPeople 0 10 := ⟨gs5 76 rfl rfl, gs5 78 rfl rfl, gs0 30 rfl rfl, ⟨_, _, rfl⟩, cX10_readsPeople⟩
theorem cX10_faultOf : Cl mX10_faultOf 1 := ⟨gs5 67 rfl rfl, gs1 11 rfl rfl, by decide +kernel⟩
theorem lX10_114 : LkV "SoldWithItModel" 114 mX10_faultOf 1 10 := ⟨gs5 64 rfl rfl, gs5 66 rfl rfl, gs0 27 rfl rfl, ⟨_, _, rfl⟩, cX10_faultOf⟩
theorem cX10_reads : Cl mX10_reads 0 := ⟨gs5 91 rfl rfl, gs1 11 rfl rfl, by decide +kernel⟩
theorem lX10_118 : LkV "SoldWithItModel" 118 mX10_reads 0 10 := ⟨gs5 88 rfl rfl, gs5 90 rfl rfl, gs0 32 rfl rfl, ⟨_, _, rfl⟩, cX10_reads⟩
theorem cX10_isHouse : Cl mX10_isHouse 1 := ⟨gs5 87 rfl rfl, gs1 11 rfl rfl, by decide +kernel⟩
theorem lX10_121 : LkV "SoldWithItModel" 121 mX10_isHouse 1 10 := ⟨gs5 84 rfl rfl, gs5 86 rfl rfl, gs0 31 rfl rfl, ⟨_, _, rfl⟩, cX10_isHouse⟩
theorem cX10_houseOf : Cl mX10_houseOf 2 := ⟨gs5 95 rfl rfl, gs1 11 rfl rfl, by decide +kernel⟩
theorem lX10_125 : LkV "SoldWithItModel" 125 mX10_houseOf 2 10 := ⟨gs5 92 rfl rfl, gs5 94 rfl rfl, gs0 33 rfl rfl, ⟨_, _, rfl⟩, cX10_houseOf⟩
theorem cX10_isPerson : Cl mX10_isPerson 1 := ⟨gs5 103 rfl rfl, gs1 11 rfl rfl, by decide +kernel⟩
theorem lX10_128 : LkV "SoldWithItModel" 128 mX10_isPerson 1 10 := ⟨gs5 100 rfl rfl, gs5 102 rfl rfl, gs0 34 rfl rfl, ⟨_, _, rfl⟩, cX10_isPerson⟩
theorem cX10_personOf : Cl mX10_personOf 2 := ⟨gs5 107 rfl rfl, gs1 11 rfl rfl, by decide +kernel⟩
theorem lX10_131 : LkV "SoldWithItModel" 131 mX10_personOf 2 10 := ⟨gs5 104 rfl rfl, gs5 106 rfl rfl, gs0 35 rfl rfl, ⟨_, _, rfl⟩, cX10_personOf⟩
theorem cX10_isEight : Cl mX10_isEight 1 := ⟨gs5 122 rfl rfl, gs1 11 rfl rfl, by decide +kernel⟩
theorem lX10_134 : LkS "SoldWithItModel" 134 mX10_isEight 1 := ⟨gs5 120 rfl rfl, gs5 121 rfl rfl, cX10_isEight⟩
theorem cX10_saleMore : Cl mX10_saleMore 2 := ⟨gs5 119 rfl rfl, gs1 11 rfl rfl, by decide +kernel⟩
theorem lX10_140 : LkV "SoldWithItModel" 140 mX10_saleMore 2 10 := ⟨gs5 116 rfl rfl, gs5 118 rfl rfl, gs0 36 rfl rfl, ⟨_, _, rfl⟩, cX10_saleMore⟩
theorem cX10_isSheet : Cl mX10_isSheet 1 := ⟨gs5 129 rfl rfl, gs1 11 rfl rfl, by decide +kernel⟩
theorem lX10_143 : LkS "SoldWithItModel" 143 mX10_isSheet 1 := ⟨gs5 127 rfl rfl, gs5 128 rfl rfl, cX10_isSheet⟩
theorem cX10_meets : Cl mX10_meets 1 := ⟨gs5 133 rfl rfl, gs1 11 rfl rfl, by decide +kernel⟩
theorem lX10_146 : LkV "SoldWithItModel" 146 mX10_meets 1 10 := ⟨gs5 130 rfl rfl, gs5 132 rfl rfl, gs0 37 rfl rfl, ⟨_, _, rfl⟩, cX10_meets⟩
theorem cX10_isIn : Cl mX10_isIn 2 := ⟨gs5 160 rfl rfl, gs1 11 rfl rfl, by decide +kernel⟩
theorem lX10_149 : LkS "SoldWithItModel" 149 mX10_isIn 2 := ⟨gs5 158 rfl rfl, gs5 159 rfl rfl, cX10_isIn⟩
theorem cX10_begins : Cl mX10_begins 0 := ⟨gs5 153 rfl rfl, gs1 11 rfl rfl, by decide +kernel⟩
theorem lX10_153 : LkV "SoldWithItModel" 153 mX10_begins 0 10 := ⟨gs5 150 rfl rfl, gs5 152 rfl rfl, gs0 40 rfl rfl, ⟨_, _, rfl⟩, cX10_begins⟩
theorem cX10_sells : Cl mX10_sells 2 := ⟨gs5 157 rfl rfl, gs1 11 rfl rfl, by decide +kernel⟩
theorem lX10_156 : LkV "SoldWithItModel" 156 mX10_sells 2 10 := ⟨gs5 154 rfl rfl, gs5 156 rfl rfl, gs0 41 rfl rfl, ⟨_, _, rfl⟩, cX10_sells⟩
theorem cX10_runs : Cl mX10_runs 1 := ⟨gs5 149 rfl rfl, gs1 11 rfl rfl, by decide +kernel⟩
theorem lX10_162 : LkV "SoldWithItModel" 162 mX10_runs 1 10 := ⟨gs5 146 rfl rfl, gs5 148 rfl rfl, gs0 39 rfl rfl, ⟨_, _, rfl⟩, cX10_runs⟩
theorem cX10_lays : Cl mX10_lays 1 := ⟨gs5 145 rfl rfl, gs1 11 rfl rfl, by decide +kernel⟩
theorem lX10_166 : LkV "SoldWithItModel" 166 mX10_lays 1 10 := ⟨gs5 142 rfl rfl, gs5 144 rfl rfl, gs0 38 rfl rfl, ⟨_, _, rfl⟩, cX10_lays⟩
theorem cX10_keeperOf : Cl mX10_keeperOf 2 := ⟨gs5 168 rfl rfl, gs1 11 rfl rfl, by decide +kernel⟩
theorem lX10_169 : LkV "SoldWithItModel" 169 mX10_keeperOf 2 10 := ⟨gs5 165 rfl rfl, gs5 167 rfl rfl, gs0 42 rfl rfl, ⟨_, _, rfl⟩, cX10_keeperOf⟩
theorem cX10_soldOf : Cl mX10_soldOf 2 := ⟨gs5 176 rfl rfl, gs1 11 rfl rfl, by decide +kernel⟩
theorem lX10_172 : LkV "SoldWithItModel" 172 mX10_soldOf 2 10 := ⟨gs5 173 rfl rfl, gs5 175 rfl rfl, gs0 43 rfl rfl, ⟨_, _, rfl⟩, cX10_soldOf⟩
theorem cX10_lengthOf : Cl mX10_lengthOf 1 := ⟨gs5 184 rfl rfl, gs1 11 rfl rfl, by decide +kernel⟩
theorem lX10_175 : LkV "SoldWithItModel" 175 mX10_lengthOf 1 10 := ⟨gs5 181 rfl rfl, gs5 183 rfl rfl, gs0 44 rfl rfl, ⟨_, _, rfl⟩, cX10_lengthOf⟩
theorem cX10_gainBy : Cl mX10_gainBy 1 := ⟨gs5 205 rfl rfl, gs1 11 rfl rfl, by decide +kernel⟩
theorem lX10_179 : LkV "SoldWithItModel" 179 mX10_gainBy 1 10 := ⟨gs5 202 rfl rfl, gs5 204 rfl rfl, gs0 46 rfl rfl, ⟨_, _, rfl⟩, cX10_gainBy⟩
theorem cX10_gainOf : Cl mX10_gainOf 1 := ⟨gs5 201 rfl rfl, gs1 11 rfl rfl, by decide +kernel⟩
theorem lX10_182 : LkV "SoldWithItModel" 182 mX10_gainOf 1 10 := ⟨gs5 198 rfl rfl, gs5 200 rfl rfl, gs0 45 rfl rfl, ⟨_, _, rfl⟩, cX10_gainOf⟩
theorem cX10_rows : Cl mX10_rows 0 := ⟨gs5 218 rfl rfl, gs1 11 rfl rfl, by decide +kernel⟩
theorem lX10_186 : LkV "SoldWithItModel" 186 mX10_rows 0 10 := ⟨gs5 215 rfl rfl, gs5 217 rfl rfl, gs0 48 rfl rfl, ⟨_, _, rfl⟩, cX10_rows⟩
theorem cX10_places : Cl mX10_places 1 := ⟨gs5 222 rfl rfl, gs1 11 rfl rfl, by decide +kernel⟩
theorem lX10_189 : LkV "SoldWithItModel" 189 mX10_places 1 10 := ⟨gs5 219 rfl rfl, gs5 221 rfl rfl, gs0 49 rfl rfl, ⟨_, _, rfl⟩, cX10_places⟩
theorem cX10_bestOf : Cl mX10_bestOf 2 := ⟨gs5 213 rfl rfl, gs1 11 rfl rfl, by decide +kernel⟩
theorem lX10_192 : LkV "SoldWithItModel" 192 mX10_bestOf 2 10 := ⟨gs5 210 rfl rfl, gs5 212 rfl rfl, gs0 47 rfl rfl, ⟨_, _, rfl⟩, cX10_bestOf⟩
theorem cX10_restNow : Cl mX10_restNow 1 := ⟨gs5 230 rfl rfl, gs1 11 rfl rfl, by decide +kernel⟩
theorem lX10_196 : LkV "SoldWithItModel" 196 mX10_restNow 1 10 := ⟨gs5 227 rfl rfl, gs5 229 rfl rfl, gs0 50 rfl rfl, ⟨_, _, rfl⟩, cX10_restNow⟩
theorem cX10_restOf : Cl mX10_restOf 1 := ⟨gs5 234 rfl rfl, gs1 11 rfl rfl, by decide +kernel⟩
theorem lX10_199 : LkV "SoldWithItModel" 199 mX10_restOf 1 10 := ⟨gs5 231 rfl rfl, gs5 233 rfl rfl, gs0 51 rfl rfl, ⟨_, _, rfl⟩, cX10_restOf⟩
theorem cX10_isTold : Cl mX10_isTold 1 := ⟨gs6 7 rfl rfl, gs1 11 rfl rfl, by decide +kernel⟩
theorem lX10_202 : LkV "SoldWithItModel" 202 mX10_isTold 1 10 := ⟨gs6 4 rfl rfl, gs6 6 rfl rfl, gs0 53 rfl rfl, ⟨_, _, rfl⟩, cX10_isTold⟩
theorem cX10_outOf : Cl mX10_outOf 1 := ⟨gs6 3 rfl rfl, gs1 11 rfl rfl, by decide +kernel⟩
theorem lX10_205 : LkV "SoldWithItModel" 205 mX10_outOf 1 10 := ⟨gs6 0 rfl rfl, gs6 2 rfl rfl, gs0 52 rfl rfl, ⟨_, _, rfl⟩, cX10_outOf⟩
theorem cX10_valueOf : Cl mX10_valueOf 2 := ⟨gs6 15 rfl rfl, gs1 11 rfl rfl, by decide +kernel⟩
theorem lX10_208 : LkV "SoldWithItModel" 208 mX10_valueOf 2 10 := ⟨gs6 12 rfl rfl, gs6 14 rfl rfl, gs0 54 rfl rfl, ⟨_, _, rfl⟩, cX10_valueOf⟩
theorem cX10_isChange : Cl mX10_isChange 2 := ⟨gs6 23 rfl rfl, gs1 11 rfl rfl, by decide +kernel⟩
theorem lX10_211 : LkV "SoldWithItModel" 211 mX10_isChange 2 10 := ⟨gs6 20 rfl rfl, gs6 22 rfl rfl, gs0 55 rfl rfl, ⟨_, _, rfl⟩, cX10_isChange⟩
theorem cX10_changesNow : Cl mX10_changesNow 0 := ⟨gs6 31 rfl rfl, gs1 11 rfl rfl, by decide +kernel⟩
theorem lX10_214 : LkV "SoldWithItModel" 214 mX10_changesNow 0 10 := ⟨gs6 28 rfl rfl, gs6 30 rfl rfl, gs0 56 rfl rfl, ⟨_, _, rfl⟩, cX10_changesNow⟩
theorem cX10_stateNow : Cl mX10_stateNow 0 := ⟨gs6 43 rfl rfl, gs1 11 rfl rfl, by decide +kernel⟩
theorem lX10_217 : LkV "SoldWithItModel" 217 mX10_stateNow 0 10 := ⟨gs6 40 rfl rfl, gs6 42 rfl rfl, gs0 58 rfl rfl, ⟨_, _, rfl⟩, cX10_stateNow⟩
theorem cX10_ownsBy : Cl mX10_ownsBy 1 := ⟨gs6 47 rfl rfl, gs1 11 rfl rfl, by decide +kernel⟩
theorem lX10_220 : LkV "SoldWithItModel" 220 mX10_ownsBy 1 10 := ⟨gs6 44 rfl rfl, gs6 46 rfl rfl, gs0 59 rfl rfl, ⟨_, _, rfl⟩, cX10_ownsBy⟩
theorem cX10_shouldOf : Cl mX10_shouldOf 1 := ⟨gs6 39 rfl rfl, gs1 11 rfl rfl, by decide +kernel⟩
theorem lX10_223 : LkV "SoldWithItModel" 223 mX10_shouldOf 1 10 := ⟨gs6 36 rfl rfl, gs6 38 rfl rfl, gs0 57 rfl rfl, ⟨_, _, rfl⟩, cX10_shouldOf⟩
theorem cX10_comeOf : Cl mX10_comeOf 2 := ⟨gs6 55 rfl rfl, gs1 11 rfl rfl, by decide +kernel⟩
theorem lX10_226 : LkV "SoldWithItModel" 226 mX10_comeOf 2 10 := ⟨gs6 52 rfl rfl, gs6 54 rfl rfl, gs0 60 rfl rfl, ⟨_, _, rfl⟩, cX10_comeOf⟩
theorem cX10_ones : Cl mX10_ones 1 := ⟨gs6 66 rfl rfl, gs1 11 rfl rfl, by decide +kernel⟩
theorem lX10_229 : LkS "SoldWithItModel" 229 mX10_ones 1 := ⟨gs6 64 rfl rfl, gs6 65 rfl rfl, cX10_ones⟩
theorem cX10_inviteOf : Cl mX10_inviteOf 2 := ⟨gs6 63 rfl rfl, gs1 11 rfl rfl, by decide +kernel⟩
theorem lX10_232 : LkV "SoldWithItModel" 232 mX10_inviteOf 2 10 := ⟨gs6 60 rfl rfl, gs6 62 rfl rfl, gs0 61 rfl rfl, ⟨_, _, rfl⟩, cX10_inviteOf⟩
theorem cX10_waysNow : Cl mX10_waysNow 0 := ⟨gs6 82 rfl rfl, gs1 11 rfl rfl, by decide +kernel⟩
theorem lX10_238 : LkV "SoldWithItModel" 238 mX10_waysNow 0 10 := ⟨gs6 79 rfl rfl, gs6 81 rfl rfl, gs0 62 rfl rfl, ⟨_, _, rfl⟩, cX10_waysNow⟩
theorem cX10_lacks : Cl mX10_lacks 3 := ⟨gs6 102 rfl rfl, gs1 11 rfl rfl, by decide +kernel⟩
theorem lX10_244 : LkV "SoldWithItModel" 244 mX10_lacks 3 10 := ⟨gs6 99 rfl rfl, gs6 101 rfl rfl, gs0 63 rfl rfl, ⟨_, _, rfl⟩, cX10_lacks⟩
theorem cX10_keep : Cl mX10_keep 3 := ⟨gs6 106 rfl rfl, gs1 11 rfl rfl, by decide +kernel⟩
theorem lX10_248 : LkV "SoldWithItModel" 248 mX10_keep 3 10 := ⟨gs6 103 rfl rfl, gs6 105 rfl rfl, gs0 64 rfl rfl, ⟨_, _, rfl⟩, cX10_keep⟩
theorem cX10_sumOf : Cl mX10_sumOf 1 := ⟨gs6 127 rfl rfl, gs1 11 rfl rfl, by decide +kernel⟩
theorem lX10_253 : LkV "SoldWithItModel" 253 mX10_sumOf 1 10 := ⟨gs6 124 rfl rfl, gs6 126 rfl rfl, gs0 65 rfl rfl, ⟨_, _, rfl⟩, cX10_sumOf⟩
theorem lX10_260 : LkV "SoldWithItModel" 260 mX10_count 1 10 := ⟨gs6 134 rfl rfl, gs6 121 rfl rfl, gs6 122 rfl rfl, ⟨_, _, rfl⟩, cX10_count⟩
theorem cJ0_coder_7d493 : Cl mJ0_coder_7d493 0 := ⟨gs2 148 rfl rfl, gs1 12 rfl rfl, by decide +kernel⟩
theorem cJ0_isLatin1_aae02 : Cl mJ0_isLatin1_aae02 0 := ⟨gs2 138 rfl rfl, gs1 12 rfl rfl, by decide +kernel⟩
theorem cJ0_length_8abf5 : Cl mJ0_length_8abf5 0 := ⟨gs2 144 rfl rfl, gs1 12 rfl rfl, by decide +kernel⟩
theorem cJ0_indexOf_7cf53 : Cl mJ0_indexOf_7cf53 2 := ⟨gs2 134 rfl rfl, gs1 12 rfl rfl, by decide +kernel⟩
theorem cJ1_indexOf_4cfef : Cl mJ1_indexOf_4cfef 4 := ⟨gs2 151 rfl rfl, gs1 13 rfl rfl, by decide +kernel⟩
theorem lJ0_637 : LkS "java/lang/String" 637 mJ1_indexOf_4cfef 4 := ⟨gs2 149 rfl rfl, gs2 150 rfl rfl, cJ1_indexOf_4cfef⟩
theorem cJ2_indexOf_4cfef : Cl mJ2_indexOf_4cfef 4 := ⟨gs2 166 rfl rfl, gs1 15 rfl rfl, by decide +kernel⟩
theorem lJ0_640 : LkS "java/lang/String" 640 mJ2_indexOf_4cfef 4 := ⟨gs2 164 rfl rfl, gs2 165 rfl rfl, cJ2_indexOf_4cfef⟩
theorem cJ3_checkFromToIndex_8c36e : Cl mJ3_checkFromToIndex_8c36e 4 := ⟨gs2 186 rfl rfl, gs1 16 rfl rfl, by decide +kernel⟩
theorem lJ0_1062 : LkS "java/lang/String" 1062 mJ3_checkFromToIndex_8c36e 4 := ⟨gs2 184 rfl rfl, gs2 185 rfl rfl, cJ3_checkFromToIndex_8c36e⟩
theorem lJ1_38 : LkS "java/lang/StringLatin1" 38 mJ9_min_7cf53 2 := ⟨gs2 158 rfl rfl, gs2 159 rfl rfl, cJ9_min_7cf53⟩
theorem cJ1_canEncode_9a6ad : Cl mJ1_canEncode_9a6ad 1 := ⟨gs2 154 rfl rfl, gs1 13 rfl rfl, by decide +kernel⟩
theorem lJ1_88 : LkS "java/lang/StringLatin1" 88 mJ1_canEncode_9a6ad 1 := ⟨gs2 152 rfl rfl, gs2 153 rfl rfl, cJ1_canEncode_9a6ad⟩
theorem cJ9_max_7cf53 : Cl mJ9_max_7cf53 2 := ⟨gs2 157 rfl rfl, gs1 14 rfl rfl, by decide +kernel⟩
theorem lJ1_92 : LkS "java/lang/StringLatin1" 92 mJ9_max_7cf53 2 := ⟨gs2 155 rfl rfl, gs2 156 rfl rfl, cJ9_max_7cf53⟩
theorem cJ1_indexOfChar_4cfef : Cl mJ1_indexOfChar_4cfef 4 := ⟨gs2 163 rfl rfl, gs1 13 rfl rfl, by decide +kernel⟩
theorem lJ1_95 : LkS "java/lang/StringLatin1" 95 mJ1_indexOfChar_4cfef 4 := ⟨gs2 161 rfl rfl, gs2 162 rfl rfl, cJ1_indexOfChar_4cfef⟩
theorem cJ2_length_9d52b : Cl mJ2_length_9d52b 1 := ⟨gs2 178 rfl rfl, gs1 15 rfl rfl, by decide +kernel⟩
theorem lJ2_48 : LkS "java/lang/StringUTF16" 48 mJ2_length_9d52b 1 := ⟨gs2 176 rfl rfl, gs2 177 rfl rfl, cJ2_length_9d52b⟩
theorem cJ2_getChar_3b067 : Cl mJ2_getChar_3b067 2 := ⟨gs2 192 rfl rfl, gs1 15 rfl rfl, by decide +kernel⟩
theorem lJ2_71 : LkS "java/lang/StringUTF16" 71 mJ2_getChar_3b067 2 := ⟨gs2 190 rfl rfl, gs2 191 rfl rfl, cJ2_getChar_3b067⟩
theorem cJ2_checkBoundsBeginEnd_d044e : Cl mJ2_checkBoundsBeginEnd_d044e 3 := ⟨gs2 175 rfl rfl, gs1 15 rfl rfl, by decide +kernel⟩
theorem lJ2_96 : LkS "java/lang/StringUTF16" 96 mJ2_checkBoundsBeginEnd_d044e 3 := ⟨gs2 173 rfl rfl, gs2 174 rfl rfl, cJ2_checkBoundsBeginEnd_d044e⟩
theorem cJ11_highSurrogate_5068e : Cl mJ11_highSurrogate_5068e 1 := ⟨gs2 207 rfl rfl, gs1 17 rfl rfl, by decide +kernel⟩
theorem lJ2_157 : LkS "java/lang/StringUTF16" 157 mJ11_highSurrogate_5068e 1 := ⟨gs2 205 rfl rfl, gs2 206 rfl rfl, cJ11_highSurrogate_5068e⟩
theorem cJ11_lowSurrogate_5068e : Cl mJ11_lowSurrogate_5068e 1 := ⟨gs2 211 rfl rfl, gs1 17 rfl rfl, by decide +kernel⟩
theorem lJ2_161 : LkS "java/lang/StringUTF16" 161 mJ11_lowSurrogate_5068e 1 := ⟨gs2 209 rfl rfl, gs2 210 rfl rfl, cJ11_lowSurrogate_5068e⟩
theorem cJ11_isValidCodePoint_9a6ad : Cl mJ11_isValidCodePoint_9a6ad 1 := ⟨gs2 204 rfl rfl, gs1 17 rfl rfl, by decide +kernel⟩
theorem lJ2_164 : LkS "java/lang/StringUTF16" 164 mJ11_isValidCodePoint_9a6ad 1 := ⟨gs2 202 rfl rfl, gs2 203 rfl rfl, cJ11_isValidCodePoint_9a6ad⟩
theorem lJ2_183 : LkS "java/lang/StringUTF16" 183 mJ9_min_7cf53 2 := ⟨gs2 168 rfl rfl, gs2 159 rfl rfl, cJ9_min_7cf53⟩
theorem lJ2_224 : LkS "java/lang/StringUTF16" 224 mJ9_max_7cf53 2 := ⟨gs2 167 rfl rfl, gs2 156 rfl rfl, cJ9_max_7cf53⟩
theorem cJ2_indexOfChar_4cfef : Cl mJ2_indexOfChar_4cfef 4 := ⟨gs2 172 rfl rfl, gs1 15 rfl rfl, by decide +kernel⟩
theorem lJ2_228 : LkS "java/lang/StringUTF16" 228 mJ2_indexOfChar_4cfef 4 := ⟨gs2 170 rfl rfl, gs2 171 rfl rfl, cJ2_indexOfChar_4cfef⟩
theorem cJ2_indexOfSupplementary_4cfef : Cl mJ2_indexOfSupplementary_4cfef 4 := ⟨gs2 201 rfl rfl, gs1 15 rfl rfl, by decide +kernel⟩
theorem lJ2_232 : LkS "java/lang/StringUTF16" 232 mJ2_indexOfSupplementary_4cfef 4 := ⟨gs2 199 rfl rfl, gs2 200 rfl rfl, cJ2_indexOfSupplementary_4cfef⟩
theorem cJ0_checkBoundsBeginEnd_23922 : Cl mJ0_checkBoundsBeginEnd_23922 3 := ⟨gs2 181 rfl rfl, gs1 12 rfl rfl, by decide +kernel⟩
theorem lJ2_241 : LkS "java/lang/StringUTF16" 241 mJ0_checkBoundsBeginEnd_23922 3 := ⟨gs2 179 rfl rfl, gs2 180 rfl rfl, cJ0_checkBoundsBeginEnd_23922⟩
theorem cJ2_indexOfCharUnsafe_4cfef : Cl mJ2_indexOfCharUnsafe_4cfef 4 := ⟨gs2 189 rfl rfl, gs1 15 rfl rfl, by decide +kernel⟩
theorem lJ2_244 : LkS "java/lang/StringUTF16" 244 mJ2_indexOfCharUnsafe_4cfef 4 := ⟨gs2 187 rfl rfl, gs2 188 rfl rfl, cJ2_indexOfCharUnsafe_4cfef⟩
theorem naX9_7 : Cond.classLink "SoldWithIt" 7 "SoldWithIt$Text" ∈ gtbl := gs1 29 rfl rfl
theorem nX9_7 : Nw "SoldWithIt" 7 8 [.null, .int 0] := ⟨_, _, _, tyX8, rfl, inX8, tyX8_ok, gs1 29 rfl rfl, gs1 31 rfl rfl, gs1 2 rfl rfl, by decide +kernel, rfl, nref rfl⟩
theorem nX9_18 : Nw "SoldWithIt" 18 5 [.int 0, .int 0, .null, .null, .null, .null, .null, .null] := ⟨_, _, _, tyX5, rfl, inX5, tyX5_ok, gs1 47 rfl rfl, gs1 48 rfl rfl, gs1 3 rfl rfl, by decide +kernel, rfl, nref rfl⟩
theorem nX9_25 : Nw "SoldWithIt" 25 3 [.int 0, .int 0, .null, .null] := ⟨_, _, _, tyX3, rfl, inX3, tyX3_ok, gs1 99 rfl rfl, gs1 100 rfl rfl, gs1 4 rfl rfl, by decide +kernel, rfl, nref rfl⟩
theorem nX9_32 : Nw "SoldWithIt" 32 6 [.null, .null, .null, .null, .int 0, .int 0, .int 0] := ⟨_, _, _, tyX6, rfl, inX6, tyX6_ok, gs1 125 rfl rfl, gs1 126 rfl rfl, gs1 5 rfl rfl, by decide +kernel, rfl, nref rfl⟩
theorem nX9_39 : Nw "SoldWithIt" 39 7 [.null, .null] := ⟨_, _, _, tyX7, rfl, inX7, tyX7_ok, gs1 161 rfl rfl, gs1 162 rfl rfl, gs1 6 rfl rfl, by decide +kernel, rfl, nref rfl⟩
theorem nX9_46 : Nw "SoldWithIt" 46 2 [.null, .null, .null, .null, .null, .null, .int 0, .int 0, .int 0, .int 0, .int 0, .int 0, .int 0, .int 0, .int 0, .null] := ⟨_, _, _, tyX2, rfl, inX2, tyX2_ok, gs1 176 rfl rfl, gs1 177 rfl rfl, gs1 7 rfl rfl, by decide +kernel, rfl, nref rfl⟩
theorem nX9_53 : Nw "SoldWithIt" 53 0 [.null, .null, .null, .int 0, .int 0] := ⟨_, _, _, tyX0, rfl, inX0, tyX0_ok, gs1 237 rfl rfl, gs1 238 rfl rfl, gs1 8 rfl rfl, by decide +kernel, rfl, nref rfl⟩
theorem nX9_60 : Nw "SoldWithIt" 60 1 [.int 0, .null, .null] := ⟨_, _, _, tyX1, rfl, inX1, tyX1_ok, gs2 21 rfl rfl, gs2 22 rfl rfl, gs1 9 rfl rfl, by decide +kernel, rfl, nref rfl⟩
theorem naX9_67 : Cond.classLink "SoldWithIt" 67 "SoldWithIt$Sheet" ∈ gtbl := gs2 41 rfl rfl
theorem nX9_67 : Nw "SoldWithIt" 67 4 [.int 0, .int 0, .null] := ⟨_, _, _, tyX4, rfl, inX4, tyX4_ok, gs2 41 rfl rfl, gs2 43 rfl rfl, gs1 10 rfl rfl, by decide +kernel, rfl, nref rfl⟩
theorem nX0_9 : Nw "SoldWithIt$Deeds" 9 6 [.null, .null, .null, .null, .int 0, .int 0, .int 0] := ⟨_, _, _, tyX6, rfl, inX6, tyX6_ok, gs2 3 rfl rfl, gs1 126 rfl rfl, gs1 5 rfl rfl, by decide +kernel, rfl, nref rfl⟩
theorem nX2_9 : Nw "SoldWithIt$Rows" 9 6 [.null, .null, .null, .null, .int 0, .int 0, .int 0] := ⟨_, _, _, tyX6, rfl, inX6, tyX6_ok, gs1 182 rfl rfl, gs1 126 rfl rfl, gs1 5 rfl rfl, by decide +kernel, rfl, nref rfl⟩
theorem nL_7 : Nw "SoldWithItLaw" 7 9 [.null, .null, .null, .null, .null, .null, .null, .null, .null, .int 0, .int 0] := ⟨_, _, _, tyX9, rfl, inX9, tyX9_ok, gs1 21 rfl rfl, gs1 22 rfl rfl, gs1 1 rfl rfl, by decide +kernel, rfl, nref rfl⟩
theorem nL_10 : Nw "SoldWithItLaw" 10 10 [.null, .null, .int 0, .null, .null, .int 0, .null, .null, .null, .int 0, .null, .null, .null, .null, .null, .null, .null, .int 0, .null, .null, .null, .null, .null, .int 0, .null, .null, .null, .null, .null, .null, .null, .null, .int 0] := ⟨_, _, _, tyX10, rfl, inX10, tyX10_ok, gs4 182 rfl rfl, gs4 183 rfl rfl, gs1 11 rfl rfl, by decide +kernel, rfl, nref rfl⟩
theorem kJ2_227 : Cond.constant "java/lang/StringUTF16" 227 (65536) ∈ gtbl := gs2 169 rfl rfl
theorem kJ11_110 : Cond.constant "java/lang/Character" 110 (55232) ∈ gtbl := gs2 208 rfl rfl
theorem kJ11_76 : Cond.constant "java/lang/Character" 76 (56320) ∈ gtbl := gs2 212 rfl rfl
theorem kJ6_265 : Cond.constant "java/lang/Integer" 265 (1431655765) ∈ gtbl := gs3 99 rfl rfl
theorem kJ6_266 : Cond.constant "java/lang/Integer" 266 (858993459) ∈ gtbl := gs3 100 rfl rfl
theorem kJ6_267 : Cond.constant "java/lang/Integer" 267 (252645135) ∈ gtbl := gs3 101 rfl rfl
theorem kX9_180 : Cond.constant "SoldWithIt" 180 (-100002) ∈ gtbl := gs3 133 rfl rfl
theorem kX9_206 : Cond.constant "SoldWithIt" 206 (-100004) ∈ gtbl := gs3 155 rfl rfl
theorem kX9_232 : Cond.constant "SoldWithIt" 232 (-100003) ∈ gtbl := gs3 217 rfl rfl
theorem kX9_306 : Cond.constant "SoldWithIt" 306 (-2147483648) ∈ gtbl := gs4 129 rfl rfl
theorem kX9_322 : Cond.constantLong "SoldWithIt" 322 (17) ∈ gtbl := gs4 159 rfl rfl
theorem kX9_324 : Cond.constantLong "SoldWithIt" 324 (31) ∈ gtbl := gs4 160 rfl rfl
theorem kX10_178 : Cond.constant "SoldWithItModel" 178 (-100002) ∈ gtbl := gs5 189 rfl rfl
theorem kX10_185 : Cond.constant "SoldWithItModel" 185 (-100004) ∈ gtbl := gs5 214 rfl rfl
theorem kX10_195 : Cond.constant "SoldWithItModel" 195 (-100003) ∈ gtbl := gs5 235 rfl rfl
theorem kX10_252 : Cond.constant "SoldWithItModel" 252 (-2147483648) ∈ gtbl := gs6 111 rfl rfl
theorem kX10_256 : Cond.constantLong "SoldWithItModel" 256 (17) ∈ gtbl := gs6 132 rfl rfl
theorem kX10_258 : Cond.constantLong "SoldWithItModel" 258 (31) ∈ gtbl := gs6 133 rfl rfl
