abbrev GW (w : Cond) : Prop := w ∈ lw_tbl ∧ ((w.onTables && w.keeps) = true ∨ ∃ ty, w = .arrayClass ty)
theorem gw_c {w : Cond} {l : List Cond} (h : GW w) (t : GoodIn lw_tbl l) : GoodIn lw_tbl (w :: l) := fun x hx => (List.mem_cons.mp hx).elim (fun e => by rw [e]; exact h) (t x)
theorem gw_n : GoodIn lw_tbl ([] : List Cond) := fun _ h => nomatch h
theorem tk_0 : ∀ w ∈ k2_sels lw_privs, w ∈ lw_tbl := fun w h => List.mem_append_left _ h
theorem tk_1 : ∀ w ∈ tables_1_1, w ∈ lw_tbl := fun w h => List.mem_append_right _ (show w ∈ tables_1 from List.mem_append_left _ h)
theorem tk_2 : ∀ w ∈ tables_1_2, w ∈ lw_tbl := fun w h => List.mem_append_right _ (show w ∈ tables_1 from List.mem_append_right _ (List.mem_append_left _ h))
theorem tk_3 : ∀ w ∈ tables_1_3, w ∈ lw_tbl := fun w h => List.mem_append_right _ (show w ∈ tables_1 from List.mem_append_right _ (List.mem_append_right _ (List.mem_append_left _ h)))
theorem tk_4 : ∀ w ∈ tables_1_4, w ∈ lw_tbl := fun w h => List.mem_append_right _ (show w ∈ tables_1 from List.mem_append_right _ (List.mem_append_right _ (List.mem_append_right _ (List.mem_append_left _ h))))
theorem tk_5 : ∀ w ∈ tables_1_5, w ∈ lw_tbl := fun w h => List.mem_append_right _ (show w ∈ tables_1 from List.mem_append_right _ (List.mem_append_right _ (List.mem_append_right _ (List.mem_append_right _ (List.mem_append_left _ h)))))
theorem tk_6 : ∀ w ∈ tables_1_6, w ∈ lw_tbl := fun w h => List.mem_append_right _ (show w ∈ tables_1 from List.mem_append_right _ (List.mem_append_right _ (List.mem_append_right _ (List.mem_append_right _ (List.mem_append_right _ (List.mem_append_left _ h))))))
theorem tk_7 : ∀ w ∈ tables_1_7, w ∈ lw_tbl := fun w h => List.mem_append_right _ (show w ∈ tables_1 from List.mem_append_right _ (List.mem_append_right _ (List.mem_append_right _ (List.mem_append_right _ (List.mem_append_right _ (List.mem_append_right _ (List.mem_append_left _ h)))))))
theorem tk_8 : ∀ w ∈ tables_1_8, w ∈ lw_tbl := fun w h => List.mem_append_right _ (show w ∈ tables_1 from List.mem_append_right _ (List.mem_append_right _ (List.mem_append_right _ (List.mem_append_right _ (List.mem_append_right _ (List.mem_append_right _ (List.mem_append_right _ (List.mem_append_left _ h))))))))
theorem tk_9 : ∀ w ∈ tables_1_9, w ∈ lw_tbl := fun w h => List.mem_append_right _ (show w ∈ tables_1 from List.mem_append_right _ (List.mem_append_right _ (List.mem_append_right _ (List.mem_append_right _ (List.mem_append_right _ (List.mem_append_right _ (List.mem_append_right _ (List.mem_append_right _ (h)))))))))
theorem hw_0 : GW (Cond.codeWith yL_street cL_street 4 (some .int) [(0, 9, 12, 13)]) := ⟨tk_3 _ (List.mem_of_getElem? (l := tables_1_3) (i := 44) rfl), Or.inl rfl⟩
theorem hw_1 : GW (Cond.classLink RL 13 "java/lang/IllegalArgumentException") := ⟨tk_3 _ (List.mem_of_getElem? (l := tables_1_3) (i := 45) rfl), Or.inl rfl⟩
theorem hw_2 : GW (Cond.methodLink RL 7 yX10_street) := ⟨tk_3 _ (List.mem_of_getElem? (l := tables_1_3) (i := 46) rfl), Or.inl rfl⟩
theorem hw_3 : GW (Cond.instanceMethod yX10_street) := ⟨tk_3 _ (List.mem_of_getElem? (l := tables_1_3) (i := 47) rfl), Or.inl rfl⟩
theorem hw_4 : GW (Cond.selects RX10 yX10_street yX10_street) := ⟨tk_3 _ (List.mem_of_getElem? (l := tables_1_3) (i := 48) rfl), Or.inl rfl⟩
theorem hw_5 : GW (Cond.initialized RX10) := ⟨tk_1 _ (List.mem_of_getElem? (l := tables_1_1) (i := 1) rfl), Or.inl rfl⟩
theorem hw_6 : GW (Cond.code yX10_street cX10_street 4 (some .int)) := ⟨tk_3 _ (List.mem_of_getElem? (l := tables_1_3) (i := 49) rfl), Or.inl rfl⟩
theorem hw_7 : GW (Cond.fieldLink RX10 23 "PaneDays" "spareStreet" "LPaneDays$Street;") := ⟨tk_2 _ (List.mem_of_getElem? (l := tables_1_2) (i := 141) rfl), Or.inl rfl⟩
theorem hw_8 : GW (Cond.fieldLink RX10 10 "PaneDays" "tape" "LPaneDays$Tape;") := ⟨tk_2 _ (List.mem_of_getElem? (l := tables_1_2) (i := 139) rfl), Or.inl rfl⟩
theorem hw_9 : GW (Cond.fieldLink RX10 103 "PaneDays$Tape" "count" "I") := ⟨tk_1 _ (List.mem_of_getElem? (l := tables_1_1) (i := 43) rfl), Or.inl rfl⟩
theorem hw_10 : GW (Cond.fieldLink RX10 115 "PaneDays$Tape" "fault" "I") := ⟨tk_1 _ (List.mem_of_getElem? (l := tables_1_1) (i := 55) rfl), Or.inl rfl⟩
theorem hw_11 : GW (Cond.fieldLink RX10 19 "PaneDays" "street" "LPaneDays$Street;") := ⟨tk_2 _ (List.mem_of_getElem? (l := tables_1_2) (i := 140) rfl), Or.inl rfl⟩
theorem hw_12 : GW (Cond.fieldLink RX10 29 "PaneDays" "law" "LPaneDays$Law;") := ⟨tk_2 _ (List.mem_of_getElem? (l := tables_1_2) (i := 142) rfl), Or.inl rfl⟩
theorem hw_13 : GW (Cond.fieldLink RX10 39 "PaneDays" "book" "LPaneDays$Book;") := ⟨tk_2 _ (List.mem_of_getElem? (l := tables_1_2) (i := 144) rfl), Or.inl rfl⟩
theorem hw_14 : GW (Cond.fieldLink RX10 63 "PaneDays" "past" "LPaneDays$Past;") := ⟨tk_2 _ (List.mem_of_getElem? (l := tables_1_2) (i := 148) rfl), Or.inl rfl⟩
theorem hw_15 : GW (Cond.fieldLink RX10 123 "PaneDays" "imageCount" "I") := ⟨tk_2 _ (List.mem_of_getElem? (l := tables_1_2) (i := 152) rfl), Or.inl rfl⟩
theorem hw_16 : GW (Cond.fieldLink RX10 126 "PaneDays" "refusedSteps" "I") := ⟨tk_2 _ (List.mem_of_getElem? (l := tables_1_2) (i := 153) rfl), Or.inl rfl⟩
theorem hw_17 : GW (Cond.fieldLink RX10 129 "PaneDays$Street" "panes" "I") := ⟨tk_1 _ (List.mem_of_getElem? (l := tables_1_1) (i := 94) rfl), Or.inl rfl⟩
theorem hw_18 : GW (Cond.methodLink RX10 107 yX10_beginText) := ⟨tk_3 _ (List.mem_of_getElem? (l := tables_1_3) (i := 50) rfl), Or.inl rfl⟩
theorem hw_19 : GW (Cond.instanceMethod yX10_beginText) := ⟨tk_3 _ (List.mem_of_getElem? (l := tables_1_3) (i := 52) rfl), Or.inl rfl⟩
theorem hw_20 : GW (Cond.selects RX10 yX10_beginText yX10_beginText) := ⟨tk_0 _ (List.mem_of_getElem? (l := k2_sels lw_privs) (i := 3) (by decide +kernel)), Or.inl rfl⟩
theorem hw_21 : GW (Cond.code yX10_beginText cX10_beginText 3 none) := ⟨tk_3 _ (List.mem_of_getElem? (l := tables_1_3) (i := 53) rfl), Or.inl rfl⟩
theorem hw_22 : GW (Cond.methodLink RX10 223 yX10_need) := ⟨tk_3 _ (List.mem_of_getElem? (l := tables_1_3) (i := 54) rfl), Or.inl rfl⟩
theorem hw_23 : GW (Cond.instanceMethod yX10_need) := ⟨tk_3 _ (List.mem_of_getElem? (l := tables_1_3) (i := 56) rfl), Or.inl rfl⟩
theorem hw_24 : GW (Cond.selects RX10 yX10_need yX10_need) := ⟨tk_0 _ (List.mem_of_getElem? (l := k2_sels lw_privs) (i := 4) (by decide +kernel)), Or.inl rfl⟩
theorem hw_25 : GW (Cond.code yX10_need cX10_need 2 none) := ⟨tk_3 _ (List.mem_of_getElem? (l := tables_1_3) (i := 57) rfl), Or.inl rfl⟩
theorem hw_26 : GW (Cond.classLink RX10 384 "java/lang/IllegalArgumentException") := ⟨tk_3 _ (List.mem_of_getElem? (l := tables_1_3) (i := 58) rfl), Or.inl rfl⟩
theorem hw_27 : GW (Cond.initialized "java/lang/IllegalArgumentException") := ⟨tk_1 _ (List.mem_of_getElem? (l := tables_1_1) (i := 17) rfl), Or.inl rfl⟩
theorem hw_28 : GW (Cond.fieldLink RX10 91 "PaneDays" "refusedCalls" "[I") := ⟨tk_2 _ (List.mem_of_getElem? (l := tables_1_2) (i := 154) rfl), Or.inl rfl⟩
theorem hw_29 : GW (Cond.methodLink RX10 378 yX7_begin) := ⟨tk_3 _ (List.mem_of_getElem? (l := tables_1_3) (i := 121) rfl), Or.inl rfl⟩
theorem hw_30 : GW (Cond.instanceMethod yX7_begin) := ⟨tk_3 _ (List.mem_of_getElem? (l := tables_1_3) (i := 122) rfl), Or.inl rfl⟩
theorem hw_31 : GW (Cond.selects RX7 yX7_begin yX7_begin) := ⟨tk_3 _ (List.mem_of_getElem? (l := tables_1_3) (i := 123) rfl), Or.inl rfl⟩
theorem hw_32 : GW (Cond.initialized RX7) := ⟨tk_1 _ (List.mem_of_getElem? (l := tables_1_1) (i := 2) rfl), Or.inl rfl⟩
theorem hw_33 : GW (Cond.code yX7_begin cX7_begin 2 none) := ⟨tk_3 _ (List.mem_of_getElem? (l := tables_1_3) (i := 124) rfl), Or.inl rfl⟩
theorem hw_34 : GW (Cond.fieldLink RX7 22 "PaneDays$Tape" "length" "I") := ⟨tk_1 _ (List.mem_of_getElem? (l := tables_1_1) (i := 44) rfl), Or.inl rfl⟩
theorem hw_35 : GW (Cond.fieldLink RX7 25 "PaneDays$Tape" "to" "I") := ⟨tk_1 _ (List.mem_of_getElem? (l := tables_1_1) (i := 51) rfl), Or.inl rfl⟩
theorem hw_36 : GW (Cond.fieldLink RX7 28 "PaneDays$Tape" "fault" "I") := ⟨tk_1 _ (List.mem_of_getElem? (l := tables_1_1) (i := 56) rfl), Or.inl rfl⟩
theorem hw_37 : GW (Cond.fieldLink RX7 15 "PaneDays$Tape" "place" "I") := ⟨tk_1 _ (List.mem_of_getElem? (l := tables_1_1) (i := 58) rfl), Or.inl rfl⟩
theorem hw_38 : GW (Cond.methodLink RX7 31 yX7_step) := ⟨tk_3 _ (List.mem_of_getElem? (l := tables_1_3) (i := 125) rfl), Or.inl rfl⟩
theorem hw_39 : GW (Cond.instanceMethod yX7_step) := ⟨tk_3 _ (List.mem_of_getElem? (l := tables_1_3) (i := 126) rfl), Or.inl rfl⟩
theorem hw_40 : GW (Cond.selects RX7 yX7_step yX7_step) := ⟨tk_3 _ (List.mem_of_getElem? (l := tables_1_3) (i := 127) rfl), Or.inl rfl⟩
theorem hw_41 : GW (Cond.code yX7_step cX7_step 1 none) := ⟨tk_3 _ (List.mem_of_getElem? (l := tables_1_3) (i := 128) rfl), Or.inl rfl⟩
theorem hw_42 : GW (Cond.fieldLink RX7 34 "PaneDays$Tape" "from" "I") := ⟨tk_1 _ (List.mem_of_getElem? (l := tables_1_1) (i := 50) rfl), Or.inl rfl⟩
theorem hw_43 : GW (Cond.fieldLink RX7 11 "PaneDays$Tape" "bytes" "[B") := ⟨tk_1 _ (List.mem_of_getElem? (l := tables_1_1) (i := 41) rfl), Or.inl rfl⟩
theorem hw_44 : GW (Cond.fieldLink RX7 40 "PaneDays$Tape" "value" "I") := ⟨tk_1 _ (List.mem_of_getElem? (l := tables_1_1) (i := 53) rfl), Or.inl rfl⟩
theorem hw_45 : GW (Cond.constant RX7 43 (1000000)) := ⟨tk_3 _ (List.mem_of_getElem? (l := tables_1_3) (i := 129) rfl), Or.inl rfl⟩
theorem hw_46 : GW (Cond.fieldLink RX7 37 "PaneDays$Tape" "kind" "I") := ⟨tk_1 _ (List.mem_of_getElem? (l := tables_1_1) (i := 48) rfl), Or.inl rfl⟩
theorem hw_47 : GW (Cond.methodLink RX7 44 Lib.Math.max.name) := ⟨tk_3 _ (List.mem_of_getElem? (l := tables_1_3) (i := 130) rfl), Or.inl rfl⟩
theorem hw_48 : GW (Cond.static Lib.Math.max.name) := ⟨tk_3 _ (List.mem_of_getElem? (l := tables_1_3) (i := 131) rfl), Or.inl rfl⟩
theorem hw_49 : GW (Cond.initialized "java/lang/Math") := ⟨tk_1 _ (List.mem_of_getElem? (l := tables_1_1) (i := 18) rfl), Or.inl rfl⟩
theorem hw_50 : GW (Cond.code Lib.Math.max.name Lib.Math.max.code 2 (some .int)) := ⟨tk_3 _ (List.mem_of_getElem? (l := tables_1_3) (i := 132) rfl), Or.inl rfl⟩
theorem hw_51 : GW (Cond.methodLink RX10 111 yX6_read) := ⟨tk_3 _ (List.mem_of_getElem? (l := tables_1_3) (i := 133) rfl), Or.inl rfl⟩
theorem hw_52 : GW (Cond.instanceMethod yX6_read) := ⟨tk_3 _ (List.mem_of_getElem? (l := tables_1_3) (i := 134) rfl), Or.inl rfl⟩
theorem hw_53 : GW (Cond.selects RX6 yX6_read yX6_read) := ⟨tk_3 _ (List.mem_of_getElem? (l := tables_1_3) (i := 135) rfl), Or.inl rfl⟩
theorem hw_54 : GW (Cond.initialized RX6) := ⟨tk_1 _ (List.mem_of_getElem? (l := tables_1_1) (i := 3) rfl), Or.inl rfl⟩
theorem hw_55 : GW (Cond.code yX6_read cX6_read 3 (some .boolean)) := ⟨tk_3 _ (List.mem_of_getElem? (l := tables_1_3) (i := 136) rfl), Or.inl rfl⟩
theorem hw_56 : GW (Cond.fieldLink RX6 40 "PaneDays$Tape" "fault" "I") := ⟨tk_1 _ (List.mem_of_getElem? (l := tables_1_1) (i := 57) rfl), Or.inl rfl⟩
theorem hw_57 : GW (Cond.fieldLink RX6 46 "PaneDays$Tape" "kind" "I") := ⟨tk_1 _ (List.mem_of_getElem? (l := tables_1_1) (i := 47) rfl), Or.inl rfl⟩
theorem hw_58 : GW (Cond.methodLink RX6 33 yX6_forget) := ⟨tk_1 _ (List.mem_of_getElem? (l := tables_1_1) (i := 86) rfl), Or.inl rfl⟩
theorem hw_59 : GW (Cond.instanceMethod yX6_forget) := ⟨tk_1 _ (List.mem_of_getElem? (l := tables_1_1) (i := 88) rfl), Or.inl rfl⟩
theorem hw_60 : GW (Cond.selects RX6 yX6_forget yX6_forget) := ⟨tk_0 _ (List.mem_of_getElem? (l := k2_sels lw_privs) (i := 0) (by decide +kernel)), Or.inl rfl⟩
theorem hw_61 : GW (Cond.code yX6_forget cX6_forget 1 none) := ⟨tk_1 _ (List.mem_of_getElem? (l := tables_1_1) (i := 89) rfl), Or.inl rfl⟩
theorem hw_62 : GW (Cond.fieldLink RX6 57 "PaneDays$Street" "panes" "I") := ⟨tk_1 _ (List.mem_of_getElem? (l := tables_1_1) (i := 95) rfl), Or.inl rfl⟩
theorem hw_63 : GW (Cond.fieldLink RX6 60 "PaneDays$Street" "rains" "I") := ⟨tk_1 _ (List.mem_of_getElem? (l := tables_1_1) (i := 114) rfl), Or.inl rfl⟩
theorem hw_64 : GW (Cond.fieldLink RX6 63 "PaneDays$Street" "orders" "I") := ⟨tk_1 _ (List.mem_of_getElem? (l := tables_1_1) (i := 120) rfl), Or.inl rfl⟩
theorem hw_65 : GW (Cond.fieldLink RX6 66 "PaneDays$Street" "stepMinutes" "I") := ⟨tk_1 _ (List.mem_of_getElem? (l := tables_1_1) (i := 123) rfl), Or.inl rfl⟩
theorem hw_66 : GW (Cond.fieldLink RX6 69 "PaneDays$Street" "floorMinutes" "I") := ⟨tk_1 _ (List.mem_of_getElem? (l := tables_1_1) (i := 125) rfl), Or.inl rfl⟩
theorem hw_67 : GW (Cond.fieldLink RX6 72 "PaneDays$Street" "hold" "I") := ⟨tk_1 _ (List.mem_of_getElem? (l := tables_1_1) (i := 128) rfl), Or.inl rfl⟩
theorem hw_68 : GW (Cond.fieldLink RX6 27 "PaneDays$Street" "rainOn" "[I") := ⟨tk_1 _ (List.mem_of_getElem? (l := tables_1_1) (i := 116) rfl), Or.inl rfl⟩
theorem hw_69 : GW (Cond.methodLink RX6 75 yJ7_fill_53178) := ⟨tk_1 _ (List.mem_of_getElem? (l := tables_1_1) (i := 90) rfl), Or.inl rfl⟩
theorem hw_70 : GW (Cond.static yJ7_fill_53178) := ⟨tk_1 _ (List.mem_of_getElem? (l := tables_1_1) (i := 91) rfl), Or.inl rfl⟩
theorem hw_71 : GW (Cond.initialized RJ7) := ⟨tk_1 _ (List.mem_of_getElem? (l := tables_1_1) (i := 4) rfl), Or.inl rfl⟩
theorem hw_72 : GW (Cond.code yJ7_fill_53178 cJ7_fill_53178 4 none) := ⟨tk_1 _ (List.mem_of_getElem? (l := tables_1_1) (i := 92) rfl), Or.inl rfl⟩
theorem hw_73 : GW (Cond.methodLink RX6 49 yX6_readClause) := ⟨tk_3 _ (List.mem_of_getElem? (l := tables_1_3) (i := 137) rfl), Or.inl rfl⟩
theorem hw_74 : GW (Cond.instanceMethod yX6_readClause) := ⟨tk_3 _ (List.mem_of_getElem? (l := tables_1_3) (i := 139) rfl), Or.inl rfl⟩
theorem hw_75 : GW (Cond.selects RX6 yX6_readClause yX6_readClause) := ⟨tk_0 _ (List.mem_of_getElem? (l := k2_sels lw_privs) (i := 6) (by decide +kernel)), Or.inl rfl⟩
theorem hw_76 : GW (Cond.code yX6_readClause cX6_readClause 4 none) := ⟨tk_3 _ (List.mem_of_getElem? (l := tables_1_3) (i := 140) rfl), Or.inl rfl⟩
theorem hw_77 : GW (Cond.methodLink RX6 81 yX6_clauseOf) := ⟨tk_3 _ (List.mem_of_getElem? (l := tables_1_3) (i := 141) rfl), Or.inl rfl⟩
theorem hw_78 : GW (Cond.static yX6_clauseOf) := ⟨tk_3 _ (List.mem_of_getElem? (l := tables_1_3) (i := 142) rfl), Or.inl rfl⟩
theorem hw_79 : GW (Cond.code yX6_clauseOf cX6_clauseOf 1 (some .int)) := ⟨tk_3 _ (List.mem_of_getElem? (l := tables_1_3) (i := 143) rfl), Or.inl rfl⟩
theorem hw_80 : GW (Cond.methodLink RX6 105 yX7_isWord) := ⟨tk_3 _ (List.mem_of_getElem? (l := tables_1_3) (i := 145) rfl), Or.inl rfl⟩
theorem hw_81 : GW (Cond.instanceMethod yX7_isWord) := ⟨tk_3 _ (List.mem_of_getElem? (l := tables_1_3) (i := 146) rfl), Or.inl rfl⟩
theorem hw_82 : GW (Cond.selects RX7 yX7_isWord yX7_isWord) := ⟨tk_3 _ (List.mem_of_getElem? (l := tables_1_3) (i := 147) rfl), Or.inl rfl⟩
theorem hw_83 : GW (Cond.code yX7_isWord cX7_isWord 3 (some .boolean)) := ⟨tk_3 _ (List.mem_of_getElem? (l := tables_1_3) (i := 148) rfl), Or.inl rfl⟩
theorem hw_84 : GW (Cond.methodLink RX7 50 yJ0_length_8abf5) := ⟨tk_3 _ (List.mem_of_getElem? (l := tables_1_3) (i := 149) rfl), Or.inl rfl⟩
theorem hw_85 : GW (Cond.instanceMethod yJ0_length_8abf5) := ⟨tk_3 _ (List.mem_of_getElem? (l := tables_1_3) (i := 150) rfl), Or.inl rfl⟩
theorem hw_86 : GW (Cond.selects RJ0 yJ0_length_8abf5 yJ0_length_8abf5) := ⟨tk_3 _ (List.mem_of_getElem? (l := tables_1_3) (i := 151) rfl), Or.inl rfl⟩
theorem hw_87 : GW (Cond.initialized RJ0) := ⟨tk_1 _ (List.mem_of_getElem? (l := tables_1_1) (i := 19) rfl), Or.inl rfl⟩
theorem hw_88 : GW (Cond.code yJ0_length_8abf5 cJ0_length_8abf5 1 (some .int)) := ⟨tk_3 _ (List.mem_of_getElem? (l := tables_1_3) (i := 152) rfl), Or.inl rfl⟩
theorem hw_89 : GW (Cond.fieldLink RJ0 9 "java/lang/String" "value" "[B") := ⟨tk_9 _ (List.mem_of_getElem? (l := tables_1_9) (i := 47) rfl), Or.inl rfl⟩
theorem hw_90 : GW (Cond.methodLink RJ0 335 yJ0_coder_7d493) := ⟨tk_3 _ (List.mem_of_getElem? (l := tables_1_3) (i := 153) rfl), Or.inl rfl⟩
theorem hw_91 : GW (Cond.instanceMethod yJ0_coder_7d493) := ⟨tk_3 _ (List.mem_of_getElem? (l := tables_1_3) (i := 154) rfl), Or.inl rfl⟩
theorem hw_92 : GW (Cond.selects RJ0 yJ0_coder_7d493 yJ0_coder_7d493) := ⟨tk_3 _ (List.mem_of_getElem? (l := tables_1_3) (i := 155) rfl), Or.inl rfl⟩
theorem hw_93 : GW (Cond.code yJ0_coder_7d493 cJ0_coder_7d493 1 (some .byte)) := ⟨tk_3 _ (List.mem_of_getElem? (l := tables_1_3) (i := 156) rfl), Or.inl rfl⟩
theorem hw_94 : GW (Cond.fieldLink RJ0 38 "java/lang/String" "COMPACT_STRINGS" "Z") := ⟨tk_3 _ (List.mem_of_getElem? (l := tables_1_3) (i := 157) rfl), Or.inl rfl⟩
theorem hw_95 : GW (Cond.fieldLink RJ0 15 "java/lang/String" "coder" "B") := ⟨tk_9 _ (List.mem_of_getElem? (l := tables_1_9) (i := 48) rfl), Or.inl rfl⟩
theorem hw_96 : GW (Cond.methodLink RX7 55 yJ0_charAt_5068e) := ⟨tk_3 _ (List.mem_of_getElem? (l := tables_1_3) (i := 159) rfl), Or.inl rfl⟩
theorem hw_97 : GW (Cond.instanceMethod yJ0_charAt_5068e) := ⟨tk_3 _ (List.mem_of_getElem? (l := tables_1_3) (i := 160) rfl), Or.inl rfl⟩
theorem hw_98 : GW (Cond.selects RJ0 yJ0_charAt_5068e yJ0_charAt_5068e) := ⟨tk_3 _ (List.mem_of_getElem? (l := tables_1_3) (i := 161) rfl), Or.inl rfl⟩
theorem hw_99 : GW (Cond.code yJ0_charAt_5068e cJ0_charAt_5068e 2 (some .char)) := ⟨tk_3 _ (List.mem_of_getElem? (l := tables_1_3) (i := 162) rfl), Or.inl rfl⟩
theorem hw_100 : GW (Cond.methodLink RJ0 492 yJ0_isLatin1_aae02) := ⟨tk_3 _ (List.mem_of_getElem? (l := tables_1_3) (i := 163) rfl), Or.inl rfl⟩
theorem hw_101 : GW (Cond.instanceMethod yJ0_isLatin1_aae02) := ⟨tk_3 _ (List.mem_of_getElem? (l := tables_1_3) (i := 164) rfl), Or.inl rfl⟩
theorem hw_102 : GW (Cond.selects RJ0 yJ0_isLatin1_aae02 yJ0_isLatin1_aae02) := ⟨tk_3 _ (List.mem_of_getElem? (l := tables_1_3) (i := 165) rfl), Or.inl rfl⟩
theorem hw_103 : GW (Cond.code yJ0_isLatin1_aae02 cJ0_isLatin1_aae02 1 (some .boolean)) := ⟨tk_3 _ (List.mem_of_getElem? (l := tables_1_3) (i := 166) rfl), Or.inl rfl⟩
theorem hw_104 : GW (Cond.methodLink RJ0 495 yJ1_charAt_3b067) := ⟨tk_3 _ (List.mem_of_getElem? (l := tables_1_3) (i := 167) rfl), Or.inl rfl⟩
theorem hw_105 : GW (Cond.static yJ1_charAt_3b067) := ⟨tk_3 _ (List.mem_of_getElem? (l := tables_1_3) (i := 168) rfl), Or.inl rfl⟩
theorem hw_106 : GW (Cond.initialized RJ1) := ⟨tk_1 _ (List.mem_of_getElem? (l := tables_1_1) (i := 20) rfl), Or.inl rfl⟩
theorem hw_107 : GW (Cond.code yJ1_charAt_3b067 cJ1_charAt_3b067 2 (some .char)) := ⟨tk_3 _ (List.mem_of_getElem? (l := tables_1_3) (i := 169) rfl), Or.inl rfl⟩
theorem hw_108 : GW (Cond.methodLink RJ1 9 yJ0_checkIndex_df160) := ⟨tk_3 _ (List.mem_of_getElem? (l := tables_1_3) (i := 170) rfl), Or.inl rfl⟩
theorem hw_109 : GW (Cond.static yJ0_checkIndex_df160) := ⟨tk_3 _ (List.mem_of_getElem? (l := tables_1_3) (i := 171) rfl), Or.inl rfl⟩
theorem hw_110 : GW (Cond.code yJ0_checkIndex_df160 cJ0_checkIndex_df160 2 none) := ⟨tk_3 _ (List.mem_of_getElem? (l := tables_1_3) (i := 172) rfl), Or.inl rfl⟩
theorem hw_111 : GW (Cond.fieldLink RJ0 1053 "jdk/internal/util/Preconditions" "SIOOBE_FORMATTER" "Ljava/util/function/BiFunction;") := ⟨tk_3 _ (List.mem_of_getElem? (l := tables_1_3) (i := 173) rfl), Or.inl rfl⟩
theorem hw_112 : GW (Cond.methodLink RJ0 1059 yJ3_checkIndex_8e157) := ⟨tk_3 _ (List.mem_of_getElem? (l := tables_1_3) (i := 175) rfl), Or.inl rfl⟩
theorem hw_113 : GW (Cond.static yJ3_checkIndex_8e157) := ⟨tk_3 _ (List.mem_of_getElem? (l := tables_1_3) (i := 176) rfl), Or.inl rfl⟩
theorem hw_114 : GW (Cond.initialized RJ3) := ⟨tk_1 _ (List.mem_of_getElem? (l := tables_1_1) (i := 21) rfl), Or.inl rfl⟩
theorem hw_115 : GW (Cond.code yJ3_checkIndex_8e157 cJ3_checkIndex_8e157 3 (some .int)) := ⟨tk_3 _ (List.mem_of_getElem? (l := tables_1_3) (i := 177) rfl), Or.inl rfl⟩
theorem hw_116 : GW (Cond.methodLink RJ0 498 yJ2_charAt_3b067) := ⟨tk_3 _ (List.mem_of_getElem? (l := tables_1_3) (i := 178) rfl), Or.inl rfl⟩
theorem hw_117 : GW (Cond.static yJ2_charAt_3b067) := ⟨tk_3 _ (List.mem_of_getElem? (l := tables_1_3) (i := 179) rfl), Or.inl rfl⟩
theorem hw_118 : GW (Cond.initialized RJ2) := ⟨tk_1 _ (List.mem_of_getElem? (l := tables_1_1) (i := 22) rfl), Or.inl rfl⟩
theorem hw_119 : GW (Cond.code yJ2_charAt_3b067 cJ2_charAt_3b067 2 (some .char)) := ⟨tk_3 _ (List.mem_of_getElem? (l := tables_1_3) (i := 180) rfl), Or.inl rfl⟩
theorem hw_120 : GW (Cond.methodLink RJ2 67 yJ2_checkIndex_2214a) := ⟨tk_3 _ (List.mem_of_getElem? (l := tables_1_3) (i := 181) rfl), Or.inl rfl⟩
theorem hw_121 : GW (Cond.static yJ2_checkIndex_2214a) := ⟨tk_3 _ (List.mem_of_getElem? (l := tables_1_3) (i := 182) rfl), Or.inl rfl⟩
theorem hw_122 : GW (Cond.code yJ2_checkIndex_2214a cJ2_checkIndex_2214a 2 none) := ⟨tk_3 _ (List.mem_of_getElem? (l := tables_1_3) (i := 183) rfl), Or.inl rfl⟩
theorem hw_123 : GW (Cond.methodLink RJ2 48 yJ2_length_9d52b) := ⟨tk_3 _ (List.mem_of_getElem? (l := tables_1_3) (i := 184) rfl), Or.inl rfl⟩
theorem hw_124 : GW (Cond.static yJ2_length_9d52b) := ⟨tk_3 _ (List.mem_of_getElem? (l := tables_1_3) (i := 185) rfl), Or.inl rfl⟩
theorem hw_125 : GW (Cond.code yJ2_length_9d52b cJ2_length_9d52b 1 (some .int)) := ⟨tk_3 _ (List.mem_of_getElem? (l := tables_1_3) (i := 186) rfl), Or.inl rfl⟩
theorem hw_126 : GW (Cond.methodLink RJ2 414 yJ0_checkIndex_df160) := ⟨tk_3 _ (List.mem_of_getElem? (l := tables_1_3) (i := 187) rfl), Or.inl rfl⟩
theorem hw_127 : GW (Cond.methodLink RJ2 71 yJ2_getChar_3b067) := ⟨tk_3 _ (List.mem_of_getElem? (l := tables_1_3) (i := 188) rfl), Or.inl rfl⟩
theorem hw_128 : GW (Cond.static yJ2_getChar_3b067) := ⟨tk_3 _ (List.mem_of_getElem? (l := tables_1_3) (i := 189) rfl), Or.inl rfl⟩
theorem hw_129 : GW (Cond.code yJ2_getChar_3b067 cJ2_getChar_3b067 2 (some .char)) := ⟨tk_3 _ (List.mem_of_getElem? (l := tables_1_3) (i := 190) rfl), Or.inl rfl⟩
theorem hw_130 : GW (Cond.fieldLink RJ2 44 "java/lang/StringUTF16" "$assertionsDisabled" "Z") := ⟨tk_3 _ (List.mem_of_getElem? (l := tables_1_3) (i := 191) rfl), Or.inl rfl⟩
theorem hw_131 : GW (Cond.fieldLink RJ2 59 "java/lang/StringUTF16" "HI_BYTE_SHIFT" "I") := ⟨tk_3 _ (List.mem_of_getElem? (l := tables_1_3) (i := 193) rfl), Or.inl rfl⟩
theorem hw_132 : GW (Cond.fieldLink RJ2 63 "java/lang/StringUTF16" "LO_BYTE_SHIFT" "I") := ⟨tk_3 _ (List.mem_of_getElem? (l := tables_1_3) (i := 195) rfl), Or.inl rfl⟩
theorem hw_133 : GW (Cond.methodLink RX6 85 yX7_wrong) := ⟨tk_3 _ (List.mem_of_getElem? (l := tables_1_3) (i := 201) rfl), Or.inl rfl⟩
theorem hw_134 : GW (Cond.instanceMethod yX7_wrong) := ⟨tk_3 _ (List.mem_of_getElem? (l := tables_1_3) (i := 202) rfl), Or.inl rfl⟩
theorem hw_135 : GW (Cond.selects RX7 yX7_wrong yX7_wrong) := ⟨tk_3 _ (List.mem_of_getElem? (l := tables_1_3) (i := 203) rfl), Or.inl rfl⟩
theorem hw_136 : GW (Cond.code yX7_wrong cX7_wrong 2 none) := ⟨tk_3 _ (List.mem_of_getElem? (l := tables_1_3) (i := 204) rfl), Or.inl rfl⟩
theorem hw_137 : GW (Cond.methodLink RX6 89 yX6_isFull) := ⟨tk_3 _ (List.mem_of_getElem? (l := tables_1_3) (i := 205) rfl), Or.inl rfl⟩
theorem hw_138 : GW (Cond.instanceMethod yX6_isFull) := ⟨tk_3 _ (List.mem_of_getElem? (l := tables_1_3) (i := 207) rfl), Or.inl rfl⟩
theorem hw_139 : GW (Cond.selects RX6 yX6_isFull yX6_isFull) := ⟨tk_0 _ (List.mem_of_getElem? (l := k2_sels lw_privs) (i := 7) (by decide +kernel)), Or.inl rfl⟩
theorem hw_140 : GW (Cond.code yX6_isFull cX6_isFull 2 (some .boolean)) := ⟨tk_3 _ (List.mem_of_getElem? (l := tables_1_3) (i := 208) rfl), Or.inl rfl⟩
theorem hw_141 : GW (Cond.methodLink RX6 93 yX7_step) := ⟨tk_3 _ (List.mem_of_getElem? (l := tables_1_3) (i := 209) rfl), Or.inl rfl⟩
theorem hw_142 : GW (Cond.methodLink RX6 96 yX6_readNumbers) := ⟨tk_3 _ (List.mem_of_getElem? (l := tables_1_3) (i := 210) rfl), Or.inl rfl⟩
theorem hw_143 : GW (Cond.instanceMethod yX6_readNumbers) := ⟨tk_3 _ (List.mem_of_getElem? (l := tables_1_3) (i := 212) rfl), Or.inl rfl⟩
theorem hw_144 : GW (Cond.selects RX6 yX6_readNumbers yX6_readNumbers) := ⟨tk_0 _ (List.mem_of_getElem? (l := k2_sels lw_privs) (i := 8) (by decide +kernel)), Or.inl rfl⟩
theorem hw_145 : GW (Cond.code yX6_readNumbers cX6_readNumbers 4 none) := ⟨tk_3 _ (List.mem_of_getElem? (l := tables_1_3) (i := 213) rfl), Or.inl rfl⟩
theorem hw_146 : GW (Cond.methodLink RX6 115 yX6_readPane) := ⟨tk_3 _ (List.mem_of_getElem? (l := tables_1_3) (i := 214) rfl), Or.inl rfl⟩
theorem hw_147 : GW (Cond.instanceMethod yX6_readPane) := ⟨tk_3 _ (List.mem_of_getElem? (l := tables_1_3) (i := 216) rfl), Or.inl rfl⟩
theorem hw_148 : GW (Cond.selects RX6 yX6_readPane yX6_readPane) := ⟨tk_0 _ (List.mem_of_getElem? (l := k2_sels lw_privs) (i := 9) (by decide +kernel)), Or.inl rfl⟩
theorem hw_149 : GW (Cond.code yX6_readPane cX6_readPane 6 none) := ⟨tk_3 _ (List.mem_of_getElem? (l := tables_1_3) (i := 217) rfl), Or.inl rfl⟩
theorem hw_150 : GW (Cond.fieldLink RX6 9 "PaneDays$Street" "wide" "[I") := ⟨tk_1 _ (List.mem_of_getElem? (l := tables_1_1) (i := 97) rfl), Or.inl rfl⟩
theorem hw_151 : GW (Cond.fieldLink RX6 15 "PaneDays$Street" "high" "[I") := ⟨tk_1 _ (List.mem_of_getElem? (l := tables_1_1) (i := 100) rfl), Or.inl rfl⟩
theorem hw_152 : GW (Cond.fieldLink RX6 18 "PaneDays$Street" "along" "[I") := ⟨tk_1 _ (List.mem_of_getElem? (l := tables_1_1) (i := 103) rfl), Or.inl rfl⟩
theorem hw_153 : GW (Cond.fieldLink RX6 21 "PaneDays$Street" "floor" "[I") := ⟨tk_1 _ (List.mem_of_getElem? (l := tables_1_1) (i := 106) rfl), Or.inl rfl⟩
theorem hw_154 : GW (Cond.fieldLink RX6 24 "PaneDays$Street" "cells" "[I") := ⟨tk_1 _ (List.mem_of_getElem? (l := tables_1_1) (i := 110) rfl), Or.inl rfl⟩
theorem hw_155 : GW (Cond.methodLink RX6 119 yX7_takeNumber) := ⟨tk_3 _ (List.mem_of_getElem? (l := tables_1_3) (i := 218) rfl), Or.inl rfl⟩
theorem hw_156 : GW (Cond.instanceMethod yX7_takeNumber) := ⟨tk_3 _ (List.mem_of_getElem? (l := tables_1_3) (i := 219) rfl), Or.inl rfl⟩
theorem hw_157 : GW (Cond.selects RX7 yX7_takeNumber yX7_takeNumber) := ⟨tk_3 _ (List.mem_of_getElem? (l := tables_1_3) (i := 220) rfl), Or.inl rfl⟩
theorem hw_158 : GW (Cond.code yX7_takeNumber cX7_takeNumber 4 (some .int)) := ⟨tk_3 _ (List.mem_of_getElem? (l := tables_1_3) (i := 221) rfl), Or.inl rfl⟩
theorem hw_159 : GW (Cond.methodLink RX7 63 yX7_wrong) := ⟨tk_3 _ (List.mem_of_getElem? (l := tables_1_3) (i := 222) rfl), Or.inl rfl⟩
theorem hw_160 : GW (Cond.methodLink RX6 123 yX6_readOrder) := ⟨tk_3 _ (List.mem_of_getElem? (l := tables_1_3) (i := 223) rfl), Or.inl rfl⟩
theorem hw_161 : GW (Cond.instanceMethod yX6_readOrder) := ⟨tk_3 _ (List.mem_of_getElem? (l := tables_1_3) (i := 225) rfl), Or.inl rfl⟩
theorem hw_162 : GW (Cond.selects RX6 yX6_readOrder yX6_readOrder) := ⟨tk_0 _ (List.mem_of_getElem? (l := k2_sels lw_privs) (i := 10) (by decide +kernel)), Or.inl rfl⟩
theorem hw_163 : GW (Cond.code yX6_readOrder cX6_readOrder 5 none) := ⟨tk_3 _ (List.mem_of_getElem? (l := tables_1_3) (i := 226) rfl), Or.inl rfl⟩
theorem hw_164 : GW (Cond.fieldLink RX6 30 "PaneDays$Street" "order" "[I") := ⟨tk_1 _ (List.mem_of_getElem? (l := tables_1_1) (i := 122) rfl), Or.inl rfl⟩
theorem hw_165 : GW (Cond.methodLink RX6 99 yX7_takeSign) := ⟨tk_3 _ (List.mem_of_getElem? (l := tables_1_3) (i := 227) rfl), Or.inl rfl⟩
theorem hw_166 : GW (Cond.instanceMethod yX7_takeSign) := ⟨tk_3 _ (List.mem_of_getElem? (l := tables_1_3) (i := 228) rfl), Or.inl rfl⟩
theorem hw_167 : GW (Cond.selects RX7 yX7_takeSign yX7_takeSign) := ⟨tk_3 _ (List.mem_of_getElem? (l := tables_1_3) (i := 229) rfl), Or.inl rfl⟩
theorem hw_168 : GW (Cond.code yX7_takeSign cX7_takeSign 2 none) := ⟨tk_3 _ (List.mem_of_getElem? (l := tables_1_3) (i := 230) rfl), Or.inl rfl⟩
theorem hw_169 : GW (Cond.methodLink RX7 59 yX7_isSign) := ⟨tk_3 _ (List.mem_of_getElem? (l := tables_1_3) (i := 231) rfl), Or.inl rfl⟩
theorem hw_170 : GW (Cond.instanceMethod yX7_isSign) := ⟨tk_3 _ (List.mem_of_getElem? (l := tables_1_3) (i := 232) rfl), Or.inl rfl⟩
theorem hw_171 : GW (Cond.selects RX7 yX7_isSign yX7_isSign) := ⟨tk_3 _ (List.mem_of_getElem? (l := tables_1_3) (i := 233) rfl), Or.inl rfl⟩
theorem hw_172 : GW (Cond.code yX7_isSign cX7_isSign 2 (some .boolean)) := ⟨tk_3 _ (List.mem_of_getElem? (l := tables_1_3) (i := 234) rfl), Or.inl rfl⟩
theorem hw_173 : GW (Cond.methodLink RX6 53 yX7_takeEnd) := ⟨tk_3 _ (List.mem_of_getElem? (l := tables_1_3) (i := 235) rfl), Or.inl rfl⟩
theorem hw_174 : GW (Cond.instanceMethod yX7_takeEnd) := ⟨tk_3 _ (List.mem_of_getElem? (l := tables_1_3) (i := 236) rfl), Or.inl rfl⟩
theorem hw_175 : GW (Cond.selects RX7 yX7_takeEnd yX7_takeEnd) := ⟨tk_3 _ (List.mem_of_getElem? (l := tables_1_3) (i := 237) rfl), Or.inl rfl⟩
theorem hw_176 : GW (Cond.code yX7_takeEnd cX7_takeEnd 1 (some .boolean)) := ⟨tk_3 _ (List.mem_of_getElem? (l := tables_1_3) (i := 238) rfl), Or.inl rfl⟩
theorem hw_177 : GW (Cond.methodLink RX10 118 yX3_forget) := ⟨tk_3 _ (List.mem_of_getElem? (l := tables_1_3) (i := 239) rfl), Or.inl rfl⟩
theorem hw_178 : GW (Cond.instanceMethod yX3_forget) := ⟨tk_1 _ (List.mem_of_getElem? (l := tables_1_1) (i := 164) rfl), Or.inl rfl⟩
theorem hw_179 : GW (Cond.selects RX3 yX3_forget yX3_forget) := ⟨tk_1 _ (List.mem_of_getElem? (l := tables_1_1) (i := 165) rfl), Or.inl rfl⟩
theorem hw_180 : GW (Cond.initialized RX3) := ⟨tk_1 _ (List.mem_of_getElem? (l := tables_1_1) (i := 5) rfl), Or.inl rfl⟩
theorem hw_181 : GW (Cond.code yX3_forget cX3_forget 1 none) := ⟨tk_1 _ (List.mem_of_getElem? (l := tables_1_1) (i := 166) rfl), Or.inl rfl⟩
theorem hw_182 : GW (Cond.fieldLink RX3 9 "PaneDays$Law" "code" "[I") := ⟨tk_1 _ (List.mem_of_getElem? (l := tables_1_1) (i := 167) rfl), Or.inl rfl⟩
theorem hw_183 : GW (Cond.fieldLink RX3 21 "PaneDays$Law" "length" "I") := ⟨tk_1 _ (List.mem_of_getElem? (l := tables_1_1) (i := 169) rfl), Or.inl rfl⟩
theorem hw_184 : GW (Cond.methodLink RX10 121 yX0_forget) := ⟨tk_4 _ (List.mem_of_getElem? (l := tables_1_4) (i := 0) rfl), Or.inl rfl⟩
theorem hw_185 : GW (Cond.instanceMethod yX0_forget) := ⟨tk_4 _ (List.mem_of_getElem? (l := tables_1_4) (i := 1) rfl), Or.inl rfl⟩
theorem hw_186 : GW (Cond.selects RX0 yX0_forget yX0_forget) := ⟨tk_4 _ (List.mem_of_getElem? (l := tables_1_4) (i := 2) rfl), Or.inl rfl⟩
theorem hw_187 : GW (Cond.initialized RX0) := ⟨tk_1 _ (List.mem_of_getElem? (l := tables_1_1) (i := 6) rfl), Or.inl rfl⟩
theorem hw_188 : GW (Cond.code yX0_forget cX0_forget 1 none) := ⟨tk_4 _ (List.mem_of_getElem? (l := tables_1_4) (i := 3) rfl), Or.inl rfl⟩
theorem hw_189 : GW (Cond.fieldLink RX0 18 "PaneDays$Book" "lines" "I") := ⟨tk_1 _ (List.mem_of_getElem? (l := tables_1_1) (i := 183) rfl), Or.inl rfl⟩
theorem hw_190 : GW (Cond.fieldLink RX0 22 "PaneDays$Book" "cells" "I") := ⟨tk_1 _ (List.mem_of_getElem? (l := tables_1_1) (i := 185) rfl), Or.inl rfl⟩
theorem hw_191 : GW (Cond.methodLink RX10 122 yX4_forget) := ⟨tk_4 _ (List.mem_of_getElem? (l := tables_1_4) (i := 4) rfl), Or.inl rfl⟩
theorem hw_192 : GW (Cond.instanceMethod yX4_forget) := ⟨tk_4 _ (List.mem_of_getElem? (l := tables_1_4) (i := 5) rfl), Or.inl rfl⟩
theorem hw_193 : GW (Cond.selects RX4 yX4_forget yX4_forget) := ⟨tk_4 _ (List.mem_of_getElem? (l := tables_1_4) (i := 6) rfl), Or.inl rfl⟩
theorem hw_194 : GW (Cond.initialized RX4) := ⟨tk_1 _ (List.mem_of_getElem? (l := tables_1_1) (i := 9) rfl), Or.inl rfl⟩
theorem hw_195 : GW (Cond.code yX4_forget cX4_forget 1 none) := ⟨tk_4 _ (List.mem_of_getElem? (l := tables_1_4) (i := 7) rfl), Or.inl rfl⟩
theorem hw_196 : GW (Cond.fieldLink RX4 12 "PaneDays$Past" "now" "LPaneDays$Glass;") := ⟨tk_2 _ (List.mem_of_getElem? (l := tables_1_2) (i := 47) rfl), Or.inl rfl⟩
theorem hw_197 : GW (Cond.fieldLink RX4 25 "PaneDays$Past" "works" "I") := ⟨tk_2 _ (List.mem_of_getElem? (l := tables_1_2) (i := 50) rfl), Or.inl rfl⟩
theorem hw_198 : GW (Cond.methodLink RX4 22 yX2_forget) := ⟨tk_4 _ (List.mem_of_getElem? (l := tables_1_4) (i := 8) rfl), Or.inl rfl⟩
theorem hw_199 : GW (Cond.instanceMethod yX2_forget) := ⟨tk_4 _ (List.mem_of_getElem? (l := tables_1_4) (i := 9) rfl), Or.inl rfl⟩
theorem hw_200 : GW (Cond.selects RX2 yX2_forget yX2_forget) := ⟨tk_4 _ (List.mem_of_getElem? (l := tables_1_4) (i := 10) rfl), Or.inl rfl⟩
theorem hw_201 : GW (Cond.initialized RX2) := ⟨tk_1 _ (List.mem_of_getElem? (l := tables_1_1) (i := 10) rfl), Or.inl rfl⟩
theorem hw_202 : GW (Cond.code yX2_forget cX2_forget 1 none) := ⟨tk_4 _ (List.mem_of_getElem? (l := tables_1_4) (i := 11) rfl), Or.inl rfl⟩
theorem hw_203 : GW (Cond.fieldLink RX2 15 "PaneDays$Glass" "depth" "[I") := ⟨tk_2 _ (List.mem_of_getElem? (l := tables_1_2) (i := 9) rfl), Or.inl rfl⟩
theorem hw_204 : GW (Cond.fieldLink RX2 18 "PaneDays$Glass" "rag" "[I") := ⟨tk_2 _ (List.mem_of_getElem? (l := tables_1_2) (i := 14) rfl), Or.inl rfl⟩
theorem hw_205 : GW (Cond.fieldLink RX2 27 "PaneDays$Glass" "onRag" "I") := ⟨tk_2 _ (List.mem_of_getElem? (l := tables_1_2) (i := 16) rfl), Or.inl rfl⟩
theorem hw_206 : GW (Cond.fieldLink RX2 31 "PaneDays$Glass" "day" "I") := ⟨tk_2 _ (List.mem_of_getElem? (l := tables_1_2) (i := 19) rfl), Or.inl rfl⟩
theorem hw_207 : GW (Cond.fieldLink RX2 34 "PaneDays$Glass" "washed" "I") := ⟨tk_2 _ (List.mem_of_getElem? (l := tables_1_2) (i := 21) rfl), Or.inl rfl⟩
theorem hw_208 : GW (Cond.fieldLink RX2 37 "PaneDays$Glass" "broken" "I") := ⟨tk_2 _ (List.mem_of_getElem? (l := tables_1_2) (i := 24) rfl), Or.inl rfl⟩
theorem hw_209 : GW (Cond.fieldLink RX2 40 "PaneDays$Glass" "met" "I") := ⟨tk_2 _ (List.mem_of_getElem? (l := tables_1_2) (i := 26) rfl), Or.inl rfl⟩
theorem hw_210 : GW (Cond.methodLink RX2 21 yJ7_fill_53178) := ⟨tk_4 _ (List.mem_of_getElem? (l := tables_1_4) (i := 12) rfl), Or.inl rfl⟩
theorem hw_211 : GW (u_lay RX10 TX10 0) := ⟨tk_2 _ (List.mem_of_getElem? (l := tables_1_2) (i := 155) rfl), Or.inl rfl⟩
theorem hw_212 : GW (u_lay RX10 TX10 1) := ⟨tk_2 _ (List.mem_of_getElem? (l := tables_1_2) (i := 157) rfl), Or.inl rfl⟩
theorem hw_213 : GW (u_lay RX10 TX10 2) := ⟨tk_2 _ (List.mem_of_getElem? (l := tables_1_2) (i := 159) rfl), Or.inl rfl⟩
theorem hw_214 : GW (u_lay RX10 TX10 3) := ⟨tk_2 _ (List.mem_of_getElem? (l := tables_1_2) (i := 161) rfl), Or.inl rfl⟩
theorem hw_215 : GW (u_lay RX10 TX10 4) := ⟨tk_2 _ (List.mem_of_getElem? (l := tables_1_2) (i := 163) rfl), Or.inl rfl⟩
theorem hw_216 : GW (u_lay RX10 TX10 5) := ⟨tk_2 _ (List.mem_of_getElem? (l := tables_1_2) (i := 165) rfl), Or.inl rfl⟩
theorem hw_217 : GW (u_lay RX10 TX10 6) := ⟨tk_2 _ (List.mem_of_getElem? (l := tables_1_2) (i := 167) rfl), Or.inl rfl⟩
theorem hw_218 : GW (u_lay RX10 TX10 7) := ⟨tk_2 _ (List.mem_of_getElem? (l := tables_1_2) (i := 169) rfl), Or.inl rfl⟩
theorem hw_219 : GW (u_lay RX10 TX10 8) := ⟨tk_2 _ (List.mem_of_getElem? (l := tables_1_2) (i := 171) rfl), Or.inl rfl⟩
theorem hw_220 : GW (u_lay RX10 TX10 9) := ⟨tk_2 _ (List.mem_of_getElem? (l := tables_1_2) (i := 173) rfl), Or.inl rfl⟩
theorem hw_221 : GW (u_lay RX10 TX10 10) := ⟨tk_2 _ (List.mem_of_getElem? (l := tables_1_2) (i := 175) rfl), Or.inl rfl⟩
theorem hw_222 : GW (u_lay RX10 TX10 11) := ⟨tk_2 _ (List.mem_of_getElem? (l := tables_1_2) (i := 177) rfl), Or.inl rfl⟩
theorem hw_223 : GW (u_lay RX10 TX10 12) := ⟨tk_2 _ (List.mem_of_getElem? (l := tables_1_2) (i := 179) rfl), Or.inl rfl⟩
theorem hw_224 : GW (u_lay RX10 TX10 13) := ⟨tk_2 _ (List.mem_of_getElem? (l := tables_1_2) (i := 181) rfl), Or.inl rfl⟩
theorem hw_225 : GW (u_lay RX10 TX10 14) := ⟨tk_2 _ (List.mem_of_getElem? (l := tables_1_2) (i := 183) rfl), Or.inl rfl⟩
theorem hw_226 : GW (u_lay RX10 TX10 15) := ⟨tk_2 _ (List.mem_of_getElem? (l := tables_1_2) (i := 185) rfl), Or.inl rfl⟩
theorem hw_227 : GW (u_lay RX7 TX7 0) := ⟨tk_1 _ (List.mem_of_getElem? (l := tables_1_1) (i := 60) rfl), Or.inl rfl⟩
theorem hw_228 : GW (u_lay RX7 TX7 1) := ⟨tk_1 _ (List.mem_of_getElem? (l := tables_1_1) (i := 62) rfl), Or.inl rfl⟩
theorem hw_229 : GW (u_lay RX7 TX7 2) := ⟨tk_1 _ (List.mem_of_getElem? (l := tables_1_1) (i := 64) rfl), Or.inl rfl⟩
theorem hw_230 : GW (u_lay RX7 TX7 3) := ⟨tk_1 _ (List.mem_of_getElem? (l := tables_1_1) (i := 66) rfl), Or.inl rfl⟩
theorem hw_231 : GW (u_lay RX7 TX7 4) := ⟨tk_1 _ (List.mem_of_getElem? (l := tables_1_1) (i := 68) rfl), Or.inl rfl⟩
theorem hw_232 : GW (u_lay RX7 TX7 5) := ⟨tk_1 _ (List.mem_of_getElem? (l := tables_1_1) (i := 70) rfl), Or.inl rfl⟩
theorem hw_233 : GW (u_lay RX7 TX7 6) := ⟨tk_1 _ (List.mem_of_getElem? (l := tables_1_1) (i := 72) rfl), Or.inl rfl⟩
theorem hw_234 : GW (u_lay RX7 TX7 7) := ⟨tk_1 _ (List.mem_of_getElem? (l := tables_1_1) (i := 74) rfl), Or.inl rfl⟩
theorem hw_235 : GW (u_lay RX7 TX7 8) := ⟨tk_1 _ (List.mem_of_getElem? (l := tables_1_1) (i := 76) rfl), Or.inl rfl⟩
theorem hw_236 : GW (u_lay RX6 TX6 0) := ⟨tk_1 _ (List.mem_of_getElem? (l := tables_1_1) (i := 129) rfl), Or.inl rfl⟩
theorem hw_237 : GW (u_lay RX6 TX6 1) := ⟨tk_1 _ (List.mem_of_getElem? (l := tables_1_1) (i := 131) rfl), Or.inl rfl⟩
theorem hw_238 : GW (u_lay RX6 TX6 2) := ⟨tk_1 _ (List.mem_of_getElem? (l := tables_1_1) (i := 133) rfl), Or.inl rfl⟩
theorem hw_239 : GW (u_lay RX6 TX6 3) := ⟨tk_1 _ (List.mem_of_getElem? (l := tables_1_1) (i := 135) rfl), Or.inl rfl⟩
theorem hw_240 : GW (u_lay RX6 TX6 4) := ⟨tk_1 _ (List.mem_of_getElem? (l := tables_1_1) (i := 137) rfl), Or.inl rfl⟩
theorem hw_241 : GW (u_lay RX6 TX6 5) := ⟨tk_1 _ (List.mem_of_getElem? (l := tables_1_1) (i := 139) rfl), Or.inl rfl⟩
theorem hw_242 : GW (u_lay RX6 TX6 6) := ⟨tk_1 _ (List.mem_of_getElem? (l := tables_1_1) (i := 141) rfl), Or.inl rfl⟩
theorem hw_243 : GW (u_lay RX6 TX6 7) := ⟨tk_1 _ (List.mem_of_getElem? (l := tables_1_1) (i := 143) rfl), Or.inl rfl⟩
theorem hw_244 : GW (u_lay RX6 TX6 8) := ⟨tk_1 _ (List.mem_of_getElem? (l := tables_1_1) (i := 145) rfl), Or.inl rfl⟩
theorem hw_245 : GW (u_lay RX6 TX6 9) := ⟨tk_1 _ (List.mem_of_getElem? (l := tables_1_1) (i := 147) rfl), Or.inl rfl⟩
theorem hw_246 : GW (u_lay RX6 TX6 10) := ⟨tk_1 _ (List.mem_of_getElem? (l := tables_1_1) (i := 149) rfl), Or.inl rfl⟩
theorem hw_247 : GW (u_lay RX6 TX6 11) := ⟨tk_1 _ (List.mem_of_getElem? (l := tables_1_1) (i := 151) rfl), Or.inl rfl⟩
theorem hw_248 : GW (u_lay RX6 TX6 12) := ⟨tk_1 _ (List.mem_of_getElem? (l := tables_1_1) (i := 153) rfl), Or.inl rfl⟩
theorem hw_249 : GW (u_lay RX3 TX3 0) := ⟨tk_1 _ (List.mem_of_getElem? (l := tables_1_1) (i := 170) rfl), Or.inl rfl⟩
theorem hw_250 : GW (u_lay RX3 TX3 1) := ⟨tk_1 _ (List.mem_of_getElem? (l := tables_1_1) (i := 172) rfl), Or.inl rfl⟩
theorem hw_251 : GW (u_lay RX3 TX3 2) := ⟨tk_1 _ (List.mem_of_getElem? (l := tables_1_1) (i := 174) rfl), Or.inl rfl⟩
theorem hw_252 : GW (u_lay RX0 TX0 0) := ⟨tk_1 _ (List.mem_of_getElem? (l := tables_1_1) (i := 188) rfl), Or.inl rfl⟩
theorem hw_253 : GW (u_lay RX0 TX0 1) := ⟨tk_1 _ (List.mem_of_getElem? (l := tables_1_1) (i := 190) rfl), Or.inl rfl⟩
theorem hw_254 : GW (u_lay RX0 TX0 2) := ⟨tk_1 _ (List.mem_of_getElem? (l := tables_1_1) (i := 192) rfl), Or.inl rfl⟩
theorem hw_255 : GW (u_lay RX0 TX0 3) := ⟨tk_1 _ (List.mem_of_getElem? (l := tables_1_1) (i := 194) rfl), Or.inl rfl⟩
theorem hw_256 : GW (u_lay RX4 TX4 0) := ⟨tk_2 _ (List.mem_of_getElem? (l := tables_1_2) (i := 52) rfl), Or.inl rfl⟩
theorem hw_257 : GW (u_lay RX4 TX4 1) := ⟨tk_2 _ (List.mem_of_getElem? (l := tables_1_2) (i := 54) rfl), Or.inl rfl⟩
theorem hw_258 : GW (u_lay RX4 TX4 2) := ⟨tk_2 _ (List.mem_of_getElem? (l := tables_1_2) (i := 56) rfl), Or.inl rfl⟩
theorem hw_259 : GW (u_lay RX2 TX2 0) := ⟨tk_2 _ (List.mem_of_getElem? (l := tables_1_2) (i := 29) rfl), Or.inl rfl⟩
theorem hw_260 : GW (u_lay RX2 TX2 1) := ⟨tk_2 _ (List.mem_of_getElem? (l := tables_1_2) (i := 31) rfl), Or.inl rfl⟩
theorem hw_261 : GW (u_lay RX2 TX2 2) := ⟨tk_2 _ (List.mem_of_getElem? (l := tables_1_2) (i := 33) rfl), Or.inl rfl⟩
theorem hw_262 : GW (u_lay RX2 TX2 3) := ⟨tk_2 _ (List.mem_of_getElem? (l := tables_1_2) (i := 35) rfl), Or.inl rfl⟩
theorem hw_263 : GW (u_lay RX2 TX2 4) := ⟨tk_2 _ (List.mem_of_getElem? (l := tables_1_2) (i := 37) rfl), Or.inl rfl⟩
theorem hw_264 : GW (u_lay RX2 TX2 5) := ⟨tk_2 _ (List.mem_of_getElem? (l := tables_1_2) (i := 39) rfl), Or.inl rfl⟩
theorem hw_265 : GW (u_lay RX2 TX2 6) := ⟨tk_2 _ (List.mem_of_getElem? (l := tables_1_2) (i := 41) rfl), Or.inl rfl⟩
theorem hw_266 : GW (u_lay RX2 TX2 7) := ⟨tk_2 _ (List.mem_of_getElem? (l := tables_1_2) (i := 43) rfl), Or.inl rfl⟩
theorem hw_267 : GW (Cond.codeWith yL_law cL_law 4 (some .int) [(0, 9, 12, 13)]) := ⟨tk_4 _ (List.mem_of_getElem? (l := tables_1_4) (i := 15) rfl), Or.inl rfl⟩
theorem hw_268 : GW (Cond.methodLink RL 15 yX10_law) := ⟨tk_4 _ (List.mem_of_getElem? (l := tables_1_4) (i := 16) rfl), Or.inl rfl⟩
theorem hw_269 : GW (Cond.instanceMethod yX10_law) := ⟨tk_4 _ (List.mem_of_getElem? (l := tables_1_4) (i := 17) rfl), Or.inl rfl⟩
theorem hw_270 : GW (Cond.selects RX10 yX10_law yX10_law) := ⟨tk_4 _ (List.mem_of_getElem? (l := tables_1_4) (i := 18) rfl), Or.inl rfl⟩
theorem hw_271 : GW (Cond.code yX10_law cX10_law 4 (some .int)) := ⟨tk_4 _ (List.mem_of_getElem? (l := tables_1_4) (i := 19) rfl), Or.inl rfl⟩
theorem hw_272 : GW (Cond.fieldLink RX10 33 "PaneDays" "spareLaw" "LPaneDays$Law;") := ⟨tk_2 _ (List.mem_of_getElem? (l := tables_1_2) (i := 143) rfl), Or.inl rfl⟩
theorem hw_273 : GW (Cond.methodLink RX10 132 yX3_read) := ⟨tk_4 _ (List.mem_of_getElem? (l := tables_1_4) (i := 20) rfl), Or.inl rfl⟩
theorem hw_274 : GW (Cond.instanceMethod yX3_read) := ⟨tk_4 _ (List.mem_of_getElem? (l := tables_1_4) (i := 21) rfl), Or.inl rfl⟩
theorem hw_275 : GW (Cond.selects RX3 yX3_read yX3_read) := ⟨tk_4 _ (List.mem_of_getElem? (l := tables_1_4) (i := 22) rfl), Or.inl rfl⟩
theorem hw_276 : GW (Cond.code yX3_read cX3_read 2 (some .boolean)) := ⟨tk_4 _ (List.mem_of_getElem? (l := tables_1_4) (i := 23) rfl), Or.inl rfl⟩
theorem hw_277 : GW (Cond.methodLink RX3 25 yX3_readSum) := ⟨tk_4 _ (List.mem_of_getElem? (l := tables_1_4) (i := 24) rfl), Or.inl rfl⟩
theorem hw_278 : GW (Cond.instanceMethod yX3_readSum) := ⟨tk_4 _ (List.mem_of_getElem? (l := tables_1_4) (i := 26) rfl), Or.inl rfl⟩
theorem hw_279 : GW (Cond.selects RX3 yX3_readSum yX3_readSum) := ⟨tk_0 _ (List.mem_of_getElem? (l := k2_sels lw_privs) (i := 11) (by decide +kernel)), Or.inl rfl⟩
theorem hw_280 : GW (Cond.code yX3_readSum cX3_readSum 5 none) := ⟨tk_4 _ (List.mem_of_getElem? (l := tables_1_4) (i := 27) rfl), Or.inl rfl⟩
theorem hw_281 : GW (Cond.methodLink RX3 35 yX3_readProduct) := ⟨tk_4 _ (List.mem_of_getElem? (l := tables_1_4) (i := 28) rfl), Or.inl rfl⟩
theorem hw_282 : GW (Cond.instanceMethod yX3_readProduct) := ⟨tk_4 _ (List.mem_of_getElem? (l := tables_1_4) (i := 30) rfl), Or.inl rfl⟩
theorem hw_283 : GW (Cond.selects RX3 yX3_readProduct yX3_readProduct) := ⟨tk_0 _ (List.mem_of_getElem? (l := k2_sels lw_privs) (i := 12) (by decide +kernel)), Or.inl rfl⟩
theorem hw_284 : GW (Cond.methodLink RX3 38 yX7_isSign) := ⟨tk_4 _ (List.mem_of_getElem? (l := tables_1_4) (i := 56) rfl), Or.inl rfl⟩
theorem hw_285 : GW (Cond.methodLink RX3 42 yX7_step) := ⟨tk_4 _ (List.mem_of_getElem? (l := tables_1_4) (i := 53) rfl), Or.inl rfl⟩
theorem hw_286 : GW (Cond.methodLink RX3 45 yX3_put) := ⟨tk_4 _ (List.mem_of_getElem? (l := tables_1_4) (i := 37) rfl), Or.inl rfl⟩
theorem hw_287 : GW (Cond.instanceMethod yX3_put) := ⟨tk_4 _ (List.mem_of_getElem? (l := tables_1_4) (i := 39) rfl), Or.inl rfl⟩
theorem hw_288 : GW (Cond.selects RX3 yX3_put yX3_put) := ⟨tk_0 _ (List.mem_of_getElem? (l := k2_sels lw_privs) (i := 14) (by decide +kernel)), Or.inl rfl⟩
theorem hw_289 : GW (Cond.code yX3_put cX3_put 2 none) := ⟨tk_4 _ (List.mem_of_getElem? (l := tables_1_4) (i := 40) rfl), Or.inl rfl⟩
theorem hw_290 : GW (Cond.code yX3_readProduct cX3_readProduct 5 none) := ⟨tk_4 _ (List.mem_of_getElem? (l := tables_1_4) (i := 31) rfl), Or.inl rfl⟩
theorem hw_291 : GW (Cond.methodLink RX3 49 yX3_readUnit) := ⟨tk_4 _ (List.mem_of_getElem? (l := tables_1_4) (i := 32) rfl), Or.inl rfl⟩
theorem hw_292 : GW (Cond.instanceMethod yX3_readUnit) := ⟨tk_4 _ (List.mem_of_getElem? (l := tables_1_4) (i := 34) rfl), Or.inl rfl⟩
theorem hw_293 : GW (Cond.selects RX3 yX3_readUnit yX3_readUnit) := ⟨tk_0 _ (List.mem_of_getElem? (l := k2_sels lw_privs) (i := 13) (by decide +kernel)), Or.inl rfl⟩
theorem hw_294 : GW (Cond.code yX3_readUnit cX3_readUnit 5 none) := ⟨tk_4 _ (List.mem_of_getElem? (l := tables_1_4) (i := 35) rfl), Or.inl rfl⟩
theorem hw_295 : GW (Cond.fieldLink RX3 52 "PaneDays$Tape" "kind" "I") := ⟨tk_1 _ (List.mem_of_getElem? (l := tables_1_1) (i := 49) rfl), Or.inl rfl⟩
theorem hw_296 : GW (Cond.methodLink RX3 55 yX7_takeNumber) := ⟨tk_4 _ (List.mem_of_getElem? (l := tables_1_4) (i := 36) rfl), Or.inl rfl⟩
theorem hw_297 : GW (Cond.methodLink RX3 59 yX3_nameOf) := ⟨tk_4 _ (List.mem_of_getElem? (l := tables_1_4) (i := 41) rfl), Or.inl rfl⟩
theorem hw_298 : GW (Cond.static yX3_nameOf) := ⟨tk_4 _ (List.mem_of_getElem? (l := tables_1_4) (i := 42) rfl), Or.inl rfl⟩
theorem hw_299 : GW (Cond.code yX3_nameOf cX3_nameOf 1 (some .int)) := ⟨tk_4 _ (List.mem_of_getElem? (l := tables_1_4) (i := 43) rfl), Or.inl rfl⟩
theorem hw_300 : GW (Cond.methodLink RX3 65 yX7_isWord) := ⟨tk_4 _ (List.mem_of_getElem? (l := tables_1_4) (i := 45) rfl), Or.inl rfl⟩
theorem hw_301 : GW (Cond.methodLink RX3 71 yX7_wrong) := ⟨tk_4 _ (List.mem_of_getElem? (l := tables_1_4) (i := 57) rfl), Or.inl rfl⟩
theorem hw_302 : GW (Cond.methodLink RX3 74 yX7_takeSign) := ⟨tk_4 _ (List.mem_of_getElem? (l := tables_1_4) (i := 58) rfl), Or.inl rfl⟩
theorem hw_303 : GW (Cond.methodLink RX3 29 yX7_takeEnd) := ⟨tk_4 _ (List.mem_of_getElem? (l := tables_1_4) (i := 59) rfl), Or.inl rfl⟩
theorem hw_304 : GW (Cond.codeWith yL_work cL_work 4 (some .int) [(0, 9, 12, 13)]) := ⟨tk_4 _ (List.mem_of_getElem? (l := tables_1_4) (i := 62) rfl), Or.inl rfl⟩
theorem hw_305 : GW (Cond.methodLink RL 18 yX10_work) := ⟨tk_4 _ (List.mem_of_getElem? (l := tables_1_4) (i := 63) rfl), Or.inl rfl⟩
theorem hw_306 : GW (Cond.instanceMethod yX10_work) := ⟨tk_4 _ (List.mem_of_getElem? (l := tables_1_4) (i := 64) rfl), Or.inl rfl⟩
theorem hw_307 : GW (Cond.selects RX10 yX10_work yX10_work) := ⟨tk_4 _ (List.mem_of_getElem? (l := tables_1_4) (i := 65) rfl), Or.inl rfl⟩
theorem hw_308 : GW (Cond.code yX10_work cX10_work 3 (some .int)) := ⟨tk_4 _ (List.mem_of_getElem? (l := tables_1_4) (i := 66) rfl), Or.inl rfl⟩
theorem hw_309 : GW (Cond.fieldLink RX10 133 "PaneDays$Past" "works" "I") := ⟨tk_2 _ (List.mem_of_getElem? (l := tables_1_2) (i := 51) rfl), Or.inl rfl⟩
theorem hw_310 : GW (Cond.fieldLink RX10 83 "PaneDays" "job" "LPaneDays$Work;") := ⟨tk_2 _ (List.mem_of_getElem? (l := tables_1_2) (i := 150) rfl), Or.inl rfl⟩
theorem hw_311 : GW (Cond.fieldLink RX10 146 "PaneDays$Work" "refused" "I") := ⟨tk_2 _ (List.mem_of_getElem? (l := tables_1_2) (i := 109) rfl), Or.inl rfl⟩
theorem hw_312 : GW (Cond.fieldLink RX10 149 "PaneDays$Work" "done" "I") := ⟨tk_2 _ (List.mem_of_getElem? (l := tables_1_2) (i := 107) rfl), Or.inl rfl⟩
theorem hw_313 : GW (Cond.methodLink RX10 136 yX9_read) := ⟨tk_4 _ (List.mem_of_getElem? (l := tables_1_4) (i := 67) rfl), Or.inl rfl⟩
theorem hw_314 : GW (Cond.instanceMethod yX9_read) := ⟨tk_4 _ (List.mem_of_getElem? (l := tables_1_4) (i := 68) rfl), Or.inl rfl⟩
theorem hw_315 : GW (Cond.selects RX9 yX9_read yX9_read) := ⟨tk_4 _ (List.mem_of_getElem? (l := tables_1_4) (i := 69) rfl), Or.inl rfl⟩
theorem hw_316 : GW (Cond.initialized RX9) := ⟨tk_1 _ (List.mem_of_getElem? (l := tables_1_1) (i := 12) rfl), Or.inl rfl⟩
theorem hw_317 : GW (Cond.code yX9_read cX9_read 3 (some .boolean)) := ⟨tk_4 _ (List.mem_of_getElem? (l := tables_1_4) (i := 70) rfl), Or.inl rfl⟩
theorem hw_318 : GW (Cond.fieldLink RX9 41 "PaneDays$Work" "steps" "I") := ⟨tk_2 _ (List.mem_of_getElem? (l := tables_1_2) (i := 105) rfl), Or.inl rfl⟩
theorem hw_319 : GW (Cond.methodLink RX9 45 yX9_readSteps) := ⟨tk_4 _ (List.mem_of_getElem? (l := tables_1_4) (i := 71) rfl), Or.inl rfl⟩
theorem hw_320 : GW (Cond.instanceMethod yX9_readSteps) := ⟨tk_4 _ (List.mem_of_getElem? (l := tables_1_4) (i := 73) rfl), Or.inl rfl⟩
theorem hw_321 : GW (Cond.selects RX9 yX9_readSteps yX9_readSteps) := ⟨tk_0 _ (List.mem_of_getElem? (l := k2_sels lw_privs) (i := 15) (by decide +kernel)), Or.inl rfl⟩
theorem hw_322 : GW (Cond.code yX9_readSteps cX9_readSteps 5 none) := ⟨tk_4 _ (List.mem_of_getElem? (l := tables_1_4) (i := 74) rfl), Or.inl rfl⟩
theorem hw_323 : GW (Cond.fieldLink RX9 55 "PaneDays$Tape" "kind" "I") := ⟨tk_1 _ (List.mem_of_getElem? (l := tables_1_1) (i := 45) rfl), Or.inl rfl⟩
theorem hw_324 : GW (Cond.methodLink RX9 57 yX9_readStep) := ⟨tk_4 _ (List.mem_of_getElem? (l := tables_1_4) (i := 75) rfl), Or.inl rfl⟩
theorem hw_325 : GW (Cond.instanceMethod yX9_readStep) := ⟨tk_4 _ (List.mem_of_getElem? (l := tables_1_4) (i := 77) rfl), Or.inl rfl⟩
theorem hw_326 : GW (Cond.selects RX9 yX9_readStep yX9_readStep) := ⟨tk_0 _ (List.mem_of_getElem? (l := k2_sels lw_privs) (i := 16) (by decide +kernel)), Or.inl rfl⟩
theorem hw_327 : GW (Cond.methodLink RX9 60 yX7_takeSign) := ⟨tk_4 _ (List.mem_of_getElem? (l := tables_1_4) (i := 93) rfl), Or.inl rfl⟩
theorem hw_328 : GW (Cond.code yX9_readStep cX9_readStep 6 none) := ⟨tk_4 _ (List.mem_of_getElem? (l := tables_1_4) (i := 78) rfl), Or.inl rfl⟩
theorem hw_329 : GW (Cond.fieldLink RX9 11 "PaneDays$Work" "kind" "[I") := ⟨tk_2 _ (List.mem_of_getElem? (l := tables_1_2) (i := 96) rfl), Or.inl rfl⟩
theorem hw_330 : GW (Cond.fieldLink RX9 27 "PaneDays$Work" "number" "[I") := ⟨tk_2 _ (List.mem_of_getElem? (l := tables_1_2) (i := 101) rfl), Or.inl rfl⟩
theorem hw_331 : GW (Cond.fieldLink RX9 30 "PaneDays$Work" "behind" "[I") := ⟨tk_2 _ (List.mem_of_getElem? (l := tables_1_2) (i := 102) rfl), Or.inl rfl⟩
theorem hw_332 : GW (Cond.methodLink RX9 64 yX9_kindOf) := ⟨tk_4 _ (List.mem_of_getElem? (l := tables_1_4) (i := 79) rfl), Or.inl rfl⟩
theorem hw_333 : GW (Cond.static yX9_kindOf) := ⟨tk_4 _ (List.mem_of_getElem? (l := tables_1_4) (i := 80) rfl), Or.inl rfl⟩
theorem hw_334 : GW (Cond.code yX9_kindOf cX9_kindOf 1 (some .int)) := ⟨tk_4 _ (List.mem_of_getElem? (l := tables_1_4) (i := 81) rfl), Or.inl rfl⟩
theorem hw_335 : GW (Cond.methodLink RX9 95 yX7_isWord) := ⟨tk_4 _ (List.mem_of_getElem? (l := tables_1_4) (i := 83) rfl), Or.inl rfl⟩
theorem hw_336 : GW (Cond.methodLink RX9 68 yX7_wrong) := ⟨tk_4 _ (List.mem_of_getElem? (l := tables_1_4) (i := 90) rfl), Or.inl rfl⟩
theorem hw_337 : GW (Cond.methodLink RX9 72 yX7_step) := ⟨tk_4 _ (List.mem_of_getElem? (l := tables_1_4) (i := 91) rfl), Or.inl rfl⟩
theorem hw_338 : GW (Cond.methodLink RX9 75 yX7_takeNumber) := ⟨tk_4 _ (List.mem_of_getElem? (l := tables_1_4) (i := 92) rfl), Or.inl rfl⟩
theorem hw_339 : GW (Cond.methodLink RX9 79 yX9_readPlace) := ⟨tk_4 _ (List.mem_of_getElem? (l := tables_1_4) (i := 94) rfl), Or.inl rfl⟩
theorem hw_340 : GW (Cond.instanceMethod yX9_readPlace) := ⟨tk_4 _ (List.mem_of_getElem? (l := tables_1_4) (i := 96) rfl), Or.inl rfl⟩
theorem hw_341 : GW (Cond.selects RX9 yX9_readPlace yX9_readPlace) := ⟨tk_0 _ (List.mem_of_getElem? (l := k2_sels lw_privs) (i := 17) (by decide +kernel)), Or.inl rfl⟩
theorem hw_342 : GW (Cond.code yX9_readPlace cX9_readPlace 6 none) := ⟨tk_4 _ (List.mem_of_getElem? (l := tables_1_4) (i := 97) rfl), Or.inl rfl⟩
theorem hw_343 : GW (Cond.fieldLink RX9 82 "PaneDays$Street" "panes" "I") := ⟨tk_1 _ (List.mem_of_getElem? (l := tables_1_1) (i := 96) rfl), Or.inl rfl⟩
theorem hw_344 : GW (Cond.fieldLink RX9 15 "PaneDays$Work" "pane" "[I") := ⟨tk_2 _ (List.mem_of_getElem? (l := tables_1_2) (i := 97) rfl), Or.inl rfl⟩
theorem hw_345 : GW (Cond.fieldLink RX9 18 "PaneDays$Work" "across" "[I") := ⟨tk_2 _ (List.mem_of_getElem? (l := tables_1_2) (i := 98) rfl), Or.inl rfl⟩
theorem hw_346 : GW (Cond.fieldLink RX9 87 "PaneDays$Street" "wide" "[I") := ⟨tk_1 _ (List.mem_of_getElem? (l := tables_1_1) (i := 98) rfl), Or.inl rfl⟩
theorem hw_347 : GW (Cond.fieldLink RX9 21 "PaneDays$Work" "up" "[I") := ⟨tk_2 _ (List.mem_of_getElem? (l := tables_1_2) (i := 99) rfl), Or.inl rfl⟩
theorem hw_348 : GW (Cond.fieldLink RX9 90 "PaneDays$Street" "high" "[I") := ⟨tk_1 _ (List.mem_of_getElem? (l := tables_1_1) (i := 101) rfl), Or.inl rfl⟩
theorem hw_349 : GW (Cond.fieldLink RX9 24 "PaneDays$Work" "reach" "[I") := ⟨tk_2 _ (List.mem_of_getElem? (l := tables_1_2) (i := 100) rfl), Or.inl rfl⟩
theorem hw_350 : GW (Cond.methodLink RX9 49 yX7_takeEnd) := ⟨tk_4 _ (List.mem_of_getElem? (l := tables_1_4) (i := 98) rfl), Or.inl rfl⟩
theorem hw_351 : GW (Cond.methodLink RX10 139 yX4_keep) := ⟨tk_4 _ (List.mem_of_getElem? (l := tables_1_4) (i := 99) rfl), Or.inl rfl⟩
theorem hw_352 : GW (Cond.instanceMethod yX4_keep) := ⟨tk_4 _ (List.mem_of_getElem? (l := tables_1_4) (i := 100) rfl), Or.inl rfl⟩
theorem hw_353 : GW (Cond.selects RX4 yX4_keep yX4_keep) := ⟨tk_4 _ (List.mem_of_getElem? (l := tables_1_4) (i := 101) rfl), Or.inl rfl⟩
theorem hw_354 : GW (Cond.code yX4_keep cX4_keep 1 none) := ⟨tk_4 _ (List.mem_of_getElem? (l := tables_1_4) (i := 102) rfl), Or.inl rfl⟩
theorem hw_355 : GW (Cond.methodLink RX4 29 yX4_slot) := ⟨tk_2 _ (List.mem_of_getElem? (l := tables_1_2) (i := 212) rfl), Or.inl rfl⟩
theorem hw_356 : GW (Cond.instanceMethod yX4_slot) := ⟨tk_2 _ (List.mem_of_getElem? (l := tables_1_2) (i := 214) rfl), Or.inl rfl⟩
theorem hw_357 : GW (Cond.selects RX4 yX4_slot yX4_slot) := ⟨tk_0 _ (List.mem_of_getElem? (l := k2_sels lw_privs) (i := 1) (by decide +kernel)), Or.inl rfl⟩
theorem hw_358 : GW (Cond.code yX4_slot cX4_slot 3 (some (.object "PaneDays$Glass"))) := ⟨tk_2 _ (List.mem_of_getElem? (l := tables_1_2) (i := 215) rfl), Or.inl rfl⟩
theorem hw_359 : GW (Cond.fieldLink RX4 18 "PaneDays$Past" "before" "[LPaneDays$Glass;") := ⟨tk_2 _ (List.mem_of_getElem? (l := tables_1_2) (i := 49) rfl), Or.inl rfl⟩
theorem hw_360 : GW (Cond.classLink RX4 9 RX2) := ⟨tk_2 _ (List.mem_of_getElem? (l := tables_1_2) (i := 2) rfl), Or.inl rfl⟩
theorem hw_361 : GW (Cond.instantiable RX2 8) := ⟨tk_2 _ (List.mem_of_getElem? (l := tables_1_2) (i := 3) rfl), Or.inl rfl⟩
theorem hw_362 : GW (Cond.instanceMethod yX2_init) := ⟨tk_2 _ (List.mem_of_getElem? (l := tables_1_2) (i := 5) rfl), Or.inl rfl⟩
theorem hw_363 : GW (Cond.code yX2_init cX2_init 1 none) := ⟨tk_2 _ (List.mem_of_getElem? (l := tables_1_2) (i := 6) rfl), Or.inl rfl⟩
theorem hw_364 : GW (Cond.methodLink RX2 3 objectInit) := ⟨tk_2 _ (List.mem_of_getElem? (l := tables_1_2) (i := 7) rfl), Or.inl rfl⟩
theorem hw_365 : GW (Cond.instanceMethod objectInit) := ⟨tk_1 _ (List.mem_of_getElem? (l := tables_1_1) (i := 33) rfl), Or.inl rfl⟩
theorem hw_366 : GW (Cond.code objectInit ⟨#[0xb1]⟩ 1 none) := ⟨tk_1 _ (List.mem_of_getElem? (l := tables_1_1) (i := 34) rfl), Or.inl rfl⟩
theorem hw_367 : GW (Cond.arrayClass .int) := ⟨tk_1 _ (List.mem_of_getElem? (l := tables_1_1) (i := 156) rfl), Or.inr ⟨_, rfl⟩⟩
theorem hw_368 : GW (Cond.fieldLink RX2 9 "PaneDays$Glass" "film" "[I") := ⟨tk_2 _ (List.mem_of_getElem? (l := tables_1_2) (i := 8) rfl), Or.inl rfl⟩
theorem hw_369 : GW (Cond.methodLink RX4 33 yX2_copy) := ⟨tk_2 _ (List.mem_of_getElem? (l := tables_1_2) (i := 216) rfl), Or.inl rfl⟩
theorem hw_370 : GW (Cond.instanceMethod yX2_copy) := ⟨tk_2 _ (List.mem_of_getElem? (l := tables_1_2) (i := 217) rfl), Or.inl rfl⟩
theorem hw_371 : GW (Cond.selects RX2 yX2_copy yX2_copy) := ⟨tk_2 _ (List.mem_of_getElem? (l := tables_1_2) (i := 218) rfl), Or.inl rfl⟩
theorem hw_372 : GW (Cond.code yX2_copy cX2_copy 2 none) := ⟨tk_2 _ (List.mem_of_getElem? (l := tables_1_2) (i := 219) rfl), Or.inl rfl⟩
theorem hw_373 : GW (Cond.methodLink RX2 43 arraycopyName) := ⟨tk_2 _ (List.mem_of_getElem? (l := tables_1_2) (i := 220) rfl), Or.inl rfl⟩
theorem hw_374 : GW (Cond.native arraycopyName) := ⟨tk_2 _ (List.mem_of_getElem? (l := tables_1_2) (i := 222) rfl), Or.inl rfl⟩
theorem hw_375 : GW (Cond.static arraycopyName) := ⟨tk_2 _ (List.mem_of_getElem? (l := tables_1_2) (i := 221) rfl), Or.inl rfl⟩
theorem hw_376 : GW (Cond.initialized "java/lang/System") := ⟨tk_1 _ (List.mem_of_getElem? (l := tables_1_1) (i := 23) rfl), Or.inl rfl⟩
theorem hw_377 : GW (Cond.methodLink RX10 142 yX9_doAll) := ⟨tk_4 _ (List.mem_of_getElem? (l := tables_1_4) (i := 103) rfl), Or.inl rfl⟩
theorem hw_378 : GW (Cond.instanceMethod yX9_doAll) := ⟨tk_4 _ (List.mem_of_getElem? (l := tables_1_4) (i := 104) rfl), Or.inl rfl⟩
theorem hw_379 : GW (Cond.selects RX9 yX9_doAll yX9_doAll) := ⟨tk_4 _ (List.mem_of_getElem? (l := tables_1_4) (i := 105) rfl), Or.inl rfl⟩
theorem hw_380 : GW (Cond.code yX9_doAll cX9_doAll 3 none) := ⟨tk_4 _ (List.mem_of_getElem? (l := tables_1_4) (i := 106) rfl), Or.inl rfl⟩
theorem hw_381 : GW (Cond.fieldLink RX9 111 "PaneDays$Work" "begun" "I") := ⟨tk_2 _ (List.mem_of_getElem? (l := tables_1_2) (i := 106) rfl), Or.inl rfl⟩
theorem hw_382 : GW (Cond.fieldLink RX9 114 "PaneDays$Work" "done" "I") := ⟨tk_2 _ (List.mem_of_getElem? (l := tables_1_2) (i := 108) rfl), Or.inl rfl⟩
theorem hw_383 : GW (Cond.fieldLink RX9 117 "PaneDays$Work" "refused" "I") := ⟨tk_2 _ (List.mem_of_getElem? (l := tables_1_2) (i := 110) rfl), Or.inl rfl⟩
theorem hw_384 : GW (Cond.methodLink RX9 120 yX9_doSteps) := ⟨tk_4 _ (List.mem_of_getElem? (l := tables_1_4) (i := 107) rfl), Or.inl rfl⟩
theorem hw_385 : GW (Cond.instanceMethod yX9_doSteps) := ⟨tk_4 _ (List.mem_of_getElem? (l := tables_1_4) (i := 109) rfl), Or.inl rfl⟩
theorem hw_386 : GW (Cond.selects RX9 yX9_doSteps yX9_doSteps) := ⟨tk_0 _ (List.mem_of_getElem? (l := k2_sels lw_privs) (i := 18) (by decide +kernel)), Or.inl rfl⟩
theorem hw_387 : GW (Cond.code yX9_doSteps cX9_doSteps 8 none) := ⟨tk_4 _ (List.mem_of_getElem? (l := tables_1_4) (i := 110) rfl), Or.inl rfl⟩
theorem hw_388 : GW (Cond.methodLink RX9 124 yX9_doAgain) := ⟨tk_4 _ (List.mem_of_getElem? (l := tables_1_4) (i := 111) rfl), Or.inl rfl⟩
theorem hw_389 : GW (Cond.instanceMethod yX9_doAgain) := ⟨tk_4 _ (List.mem_of_getElem? (l := tables_1_4) (i := 113) rfl), Or.inl rfl⟩
theorem hw_390 : GW (Cond.selects RX9 yX9_doAgain yX9_doAgain) := ⟨tk_0 _ (List.mem_of_getElem? (l := k2_sels lw_privs) (i := 19) (by decide +kernel)), Or.inl rfl⟩
theorem hw_391 : GW (Cond.methodLink RX9 128 yX9_isDone) := ⟨tk_4 _ (List.mem_of_getElem? (l := tables_1_4) (i := 115) rfl), Or.inl rfl⟩
theorem hw_392 : GW (Cond.instanceMethod yX9_isDone) := ⟨tk_4 _ (List.mem_of_getElem? (l := tables_1_4) (i := 117) rfl), Or.inl rfl⟩
theorem hw_393 : GW (Cond.selects RX9 yX9_isDone yX9_isDone) := ⟨tk_0 _ (List.mem_of_getElem? (l := k2_sels lw_privs) (i := 20) (by decide +kernel)), Or.inl rfl⟩
theorem hw_394 : GW (Cond.code yX9_isDone cX9_isDone 6 (some .boolean)) := ⟨tk_4 _ (List.mem_of_getElem? (l := tables_1_4) (i := 118) rfl), Or.inl rfl⟩
theorem hw_395 : GW (Cond.fieldLink RX9 33 "PaneDays$Work" "glass" "LPaneDays$Glass;") := ⟨tk_2 _ (List.mem_of_getElem? (l := tables_1_2) (i := 103) rfl), Or.inl rfl⟩
theorem hw_396 : GW (Cond.fieldLink RX9 132 "PaneDays$Street" "cells" "[I") := ⟨tk_1 _ (List.mem_of_getElem? (l := tables_1_1) (i := 112) rfl), Or.inl rfl⟩
theorem hw_397 : GW (Cond.fieldLink RX9 37 "PaneDays$Work" "weather" "LPaneDays$Weather;") := ⟨tk_2 _ (List.mem_of_getElem? (l := tables_1_2) (i := 104) rfl), Or.inl rfl⟩
theorem hw_398 : GW (Cond.methodLink RX9 135 yX2_wipe) := ⟨tk_4 _ (List.mem_of_getElem? (l := tables_1_4) (i := 119) rfl), Or.inl rfl⟩
theorem hw_399 : GW (Cond.instanceMethod yX2_wipe) := ⟨tk_4 _ (List.mem_of_getElem? (l := tables_1_4) (i := 120) rfl), Or.inl rfl⟩
theorem hw_400 : GW (Cond.selects RX2 yX2_wipe yX2_wipe) := ⟨tk_4 _ (List.mem_of_getElem? (l := tables_1_4) (i := 121) rfl), Or.inl rfl⟩
theorem hw_401 : GW (Cond.code yX2_wipe cX2_wipe 7 (some .boolean)) := ⟨tk_4 _ (List.mem_of_getElem? (l := tables_1_4) (i := 122) rfl), Or.inl rfl⟩
theorem hw_402 : GW (Cond.methodLink RX2 60 Lib.Math.min.name) := ⟨tk_4 _ (List.mem_of_getElem? (l := tables_1_4) (i := 123) rfl), Or.inl rfl⟩
theorem hw_403 : GW (Cond.static Lib.Math.min.name) := ⟨tk_4 _ (List.mem_of_getElem? (l := tables_1_4) (i := 124) rfl), Or.inl rfl⟩
theorem hw_404 : GW (Cond.code Lib.Math.min.name Lib.Math.min.code 2 (some .int)) := ⟨tk_4 _ (List.mem_of_getElem? (l := tables_1_4) (i := 125) rfl), Or.inl rfl⟩
theorem hw_405 : GW (Cond.methodLink RX2 65 yX2_wipeCell) := ⟨tk_4 _ (List.mem_of_getElem? (l := tables_1_4) (i := 126) rfl), Or.inl rfl⟩
theorem hw_406 : GW (Cond.instanceMethod yX2_wipeCell) := ⟨tk_4 _ (List.mem_of_getElem? (l := tables_1_4) (i := 128) rfl), Or.inl rfl⟩
theorem hw_407 : GW (Cond.selects RX2 yX2_wipeCell yX2_wipeCell) := ⟨tk_0 _ (List.mem_of_getElem? (l := k2_sels lw_privs) (i := 21) (by decide +kernel)), Or.inl rfl⟩
theorem hw_408 : GW (Cond.code yX2_wipeCell cX2_wipeCell 4 none) := ⟨tk_4 _ (List.mem_of_getElem? (l := tables_1_4) (i := 129) rfl), Or.inl rfl⟩
theorem hw_409 : GW (Cond.methodLink RX2 49 yX2_behind) := ⟨tk_3 _ (List.mem_of_getElem? (l := tables_1_3) (i := 10) rfl), Or.inl rfl⟩
theorem hw_410 : GW (Cond.instanceMethod yX2_behind) := ⟨tk_3 _ (List.mem_of_getElem? (l := tables_1_3) (i := 11) rfl), Or.inl rfl⟩
theorem hw_411 : GW (Cond.selects RX2 yX2_behind yX2_behind) := ⟨tk_3 _ (List.mem_of_getElem? (l := tables_1_3) (i := 12) rfl), Or.inl rfl⟩
theorem hw_412 : GW (Cond.code yX2_behind cX2_behind 3 (some .int)) := ⟨tk_3 _ (List.mem_of_getElem? (l := tables_1_3) (i := 13) rfl), Or.inl rfl⟩
theorem hw_413 : GW (Cond.methodLink RX9 140 yX1_circleAt) := ⟨tk_4 _ (List.mem_of_getElem? (l := tables_1_4) (i := 130) rfl), Or.inl rfl⟩
theorem hw_414 : GW (Cond.static yX1_circleAt) := ⟨tk_4 _ (List.mem_of_getElem? (l := tables_1_4) (i := 131) rfl), Or.inl rfl⟩
theorem hw_415 : GW (Cond.initialized RX1) := ⟨tk_1 _ (List.mem_of_getElem? (l := tables_1_1) (i := 7) rfl), Or.inl rfl⟩
theorem hw_416 : GW (Cond.code yX1_circleAt cX1_circleAt 5 (some .int)) := ⟨tk_4 _ (List.mem_of_getElem? (l := tables_1_4) (i := 132) rfl), Or.inl rfl⟩
theorem hw_417 : GW (Cond.methodLink RX1 18 Lib.Math.abs.name) := ⟨tk_4 _ (List.mem_of_getElem? (l := tables_1_4) (i := 133) rfl), Or.inl rfl⟩
theorem hw_418 : GW (Cond.static Lib.Math.abs.name) := ⟨tk_4 _ (List.mem_of_getElem? (l := tables_1_4) (i := 134) rfl), Or.inl rfl⟩
theorem hw_419 : GW (Cond.code Lib.Math.abs.name Lib.Math.abs.code 1 (some .int)) := ⟨tk_4 _ (List.mem_of_getElem? (l := tables_1_4) (i := 135) rfl), Or.inl rfl⟩
theorem hw_420 : GW (Cond.methodLink RX9 146 yX8_passDay) := ⟨tk_4 _ (List.mem_of_getElem? (l := tables_1_4) (i := 136) rfl), Or.inl rfl⟩
theorem hw_421 : GW (Cond.instanceMethod yX8_passDay) := ⟨tk_4 _ (List.mem_of_getElem? (l := tables_1_4) (i := 137) rfl), Or.inl rfl⟩
theorem hw_422 : GW (Cond.selects RX8 yX8_passDay yX8_passDay) := ⟨tk_4 _ (List.mem_of_getElem? (l := tables_1_4) (i := 138) rfl), Or.inl rfl⟩
theorem hw_423 : GW (Cond.initialized RX8) := ⟨tk_1 _ (List.mem_of_getElem? (l := tables_1_1) (i := 11) rfl), Or.inl rfl⟩
theorem hw_424 : GW (Cond.code yX8_passDay cX8_passDay 6 (some .boolean)) := ⟨tk_4 _ (List.mem_of_getElem? (l := tables_1_4) (i := 139) rfl), Or.inl rfl⟩
theorem hw_425 : GW (Cond.fieldLink RX8 27 "PaneDays$Glass" "day" "I") := ⟨tk_2 _ (List.mem_of_getElem? (l := tables_1_2) (i := 18) rfl), Or.inl rfl⟩
theorem hw_426 : GW (Cond.fieldLink RX8 35 "PaneDays$Street" "rainOn" "[I") := ⟨tk_1 _ (List.mem_of_getElem? (l := tables_1_1) (i := 117) rfl), Or.inl rfl⟩
theorem hw_427 : GW (Cond.fieldLink RX8 40 "PaneDays$Street" "panes" "I") := ⟨tk_1 _ (List.mem_of_getElem? (l := tables_1_1) (i := 93) rfl), Or.inl rfl⟩
theorem hw_428 : GW (Cond.fieldLink RX8 43 "PaneDays$Glass" "washed" "I") := ⟨tk_2 _ (List.mem_of_getElem? (l := tables_1_2) (i := 22) rfl), Or.inl rfl⟩
theorem hw_429 : GW (Cond.methodLink RX8 31 yX8_judgeOrders) := ⟨tk_4 _ (List.mem_of_getElem? (l := tables_1_4) (i := 140) rfl), Or.inl rfl⟩
theorem hw_430 : GW (Cond.static yX8_judgeOrders) := ⟨tk_4 _ (List.mem_of_getElem? (l := tables_1_4) (i := 141) rfl), Or.inl rfl⟩
theorem hw_431 : GW (Cond.code yX8_judgeOrders cX8_judgeOrders 4 none) := ⟨tk_4 _ (List.mem_of_getElem? (l := tables_1_4) (i := 142) rfl), Or.inl rfl⟩
theorem hw_432 : GW (Cond.fieldLink RX8 54 "PaneDays$Street" "orders" "I") := ⟨tk_1 _ (List.mem_of_getElem? (l := tables_1_1) (i := 118) rfl), Or.inl rfl⟩
theorem hw_433 : GW (Cond.fieldLink RX8 67 "PaneDays$Glass" "met" "I") := ⟨tk_2 _ (List.mem_of_getElem? (l := tables_1_2) (i := 27) rfl), Or.inl rfl⟩
theorem hw_434 : GW (Cond.methodLink RX8 57 yX6_part) := ⟨tk_4 _ (List.mem_of_getElem? (l := tables_1_4) (i := 143) rfl), Or.inl rfl⟩
theorem hw_435 : GW (Cond.instanceMethod yX6_part) := ⟨tk_2 _ (List.mem_of_getElem? (l := tables_1_2) (i := 239) rfl), Or.inl rfl⟩
theorem hw_436 : GW (Cond.selects RX6 yX6_part yX6_part) := ⟨tk_3 _ (List.mem_of_getElem? (l := tables_1_3) (i := 0) rfl), Or.inl rfl⟩
theorem hw_437 : GW (Cond.code yX6_part cX6_part 3 (some .int)) := ⟨tk_3 _ (List.mem_of_getElem? (l := tables_1_3) (i := 1) rfl), Or.inl rfl⟩
theorem hw_438 : GW (Cond.methodLink RX8 60 yX6_cellOf) := ⟨tk_4 _ (List.mem_of_getElem? (l := tables_1_4) (i := 144) rfl), Or.inl rfl⟩
theorem hw_439 : GW (Cond.instanceMethod yX6_cellOf) := ⟨tk_2 _ (List.mem_of_getElem? (l := tables_1_2) (i := 232) rfl), Or.inl rfl⟩
theorem hw_440 : GW (Cond.selects RX6 yX6_cellOf yX6_cellOf) := ⟨tk_2 _ (List.mem_of_getElem? (l := tables_1_2) (i := 233) rfl), Or.inl rfl⟩
theorem hw_441 : GW (Cond.code yX6_cellOf cX6_cellOf 3 (some .int)) := ⟨tk_2 _ (List.mem_of_getElem? (l := tables_1_2) (i := 234) rfl), Or.inl rfl⟩
theorem hw_442 : GW (Cond.static yX10_cellAt) := ⟨tk_2 _ (List.mem_of_getElem? (l := tables_1_2) (i := 236) rfl), Or.inl rfl⟩
theorem hw_443 : GW (Cond.code yX10_cellAt cX10_cellAt 3 (some .int)) := ⟨tk_2 _ (List.mem_of_getElem? (l := tables_1_2) (i := 237) rfl), Or.inl rfl⟩
theorem hw_444 : GW (Cond.methodLink RX8 64 yX2_shown) := ⟨tk_4 _ (List.mem_of_getElem? (l := tables_1_4) (i := 145) rfl), Or.inl rfl⟩
theorem hw_445 : GW (Cond.instanceMethod yX2_shown) := ⟨tk_3 _ (List.mem_of_getElem? (l := tables_1_3) (i := 3) rfl), Or.inl rfl⟩
theorem hw_446 : GW (Cond.selects RX2 yX2_shown yX2_shown) := ⟨tk_3 _ (List.mem_of_getElem? (l := tables_1_3) (i := 4) rfl), Or.inl rfl⟩
theorem hw_447 : GW (Cond.code yX2_shown cX2_shown 2 (some .int)) := ⟨tk_3 _ (List.mem_of_getElem? (l := tables_1_3) (i := 5) rfl), Or.inl rfl⟩
theorem hw_448 : GW (Cond.methodLink RX8 46 yX2_wash) := ⟨tk_4 _ (List.mem_of_getElem? (l := tables_1_4) (i := 146) rfl), Or.inl rfl⟩
theorem hw_449 : GW (Cond.instanceMethod yX2_wash) := ⟨tk_4 _ (List.mem_of_getElem? (l := tables_1_4) (i := 147) rfl), Or.inl rfl⟩
theorem hw_450 : GW (Cond.selects RX2 yX2_wash yX2_wash) := ⟨tk_4 _ (List.mem_of_getElem? (l := tables_1_4) (i := 148) rfl), Or.inl rfl⟩
theorem hw_451 : GW (Cond.code yX2_wash cX2_wash 6 (some .int)) := ⟨tk_4 _ (List.mem_of_getElem? (l := tables_1_4) (i := 149) rfl), Or.inl rfl⟩
theorem hw_452 : GW (Cond.methodLink RX8 50 yX8_settleOn) := ⟨tk_4 _ (List.mem_of_getElem? (l := tables_1_4) (i := 150) rfl), Or.inl rfl⟩
theorem hw_453 : GW (Cond.instanceMethod yX8_settleOn) := ⟨tk_4 _ (List.mem_of_getElem? (l := tables_1_4) (i := 152) rfl), Or.inl rfl⟩
theorem hw_454 : GW (Cond.selects RX8 yX8_settleOn yX8_settleOn) := ⟨tk_0 _ (List.mem_of_getElem? (l := k2_sels lw_privs) (i := 22) (by decide +kernel)), Or.inl rfl⟩
theorem hw_455 : GW (Cond.code yX8_settleOn cX8_settleOn 7 none) := ⟨tk_4 _ (List.mem_of_getElem? (l := tables_1_4) (i := 153) rfl), Or.inl rfl⟩
theorem hw_456 : GW (Cond.fieldLink RX8 20 "PaneDays$Weather" "named" "[I") := ⟨tk_2 _ (List.mem_of_getElem? (l := tables_1_2) (i := 75) rfl), Or.inl rfl⟩
theorem hw_457 : GW (Cond.fieldLink RX8 74 "PaneDays$Street" "cells" "[I") := ⟨tk_1 _ (List.mem_of_getElem? (l := tables_1_1) (i := 111) rfl), Or.inl rfl⟩
theorem hw_458 : GW (Cond.fieldLink RX8 81 "PaneDays$Street" "hold" "I") := ⟨tk_1 _ (List.mem_of_getElem? (l := tables_1_1) (i := 127) rfl), Or.inl rfl⟩
theorem hw_459 : GW (Cond.methodLink RX8 70 yX2_isBroken) := ⟨tk_4 _ (List.mem_of_getElem? (l := tables_1_4) (i := 154) rfl), Or.inl rfl⟩
theorem hw_460 : GW (Cond.instanceMethod yX2_isBroken) := ⟨tk_4 _ (List.mem_of_getElem? (l := tables_1_4) (i := 155) rfl), Or.inl rfl⟩
theorem hw_461 : GW (Cond.selects RX2 yX2_isBroken yX2_isBroken) := ⟨tk_4 _ (List.mem_of_getElem? (l := tables_1_4) (i := 156) rfl), Or.inl rfl⟩
theorem hw_462 : GW (Cond.code yX2_isBroken cX2_isBroken 2 (some .boolean)) := ⟨tk_4 _ (List.mem_of_getElem? (l := tables_1_4) (i := 157) rfl), Or.inl rfl⟩
theorem hw_463 : GW (Cond.methodLink RX8 77 yX8_lawHolds) := ⟨tk_4 _ (List.mem_of_getElem? (l := tables_1_4) (i := 158) rfl), Or.inl rfl⟩
theorem hw_464 : GW (Cond.instanceMethod yX8_lawHolds) := ⟨tk_4 _ (List.mem_of_getElem? (l := tables_1_4) (i := 160) rfl), Or.inl rfl⟩
theorem hw_465 : GW (Cond.selects RX8 yX8_lawHolds yX8_lawHolds) := ⟨tk_0 _ (List.mem_of_getElem? (l := k2_sels lw_privs) (i := 23) (by decide +kernel)), Or.inl rfl⟩
theorem hw_466 : GW (Cond.code yX8_lawHolds cX8_lawHolds 6 (some .boolean)) := ⟨tk_4 _ (List.mem_of_getElem? (l := tables_1_4) (i := 161) rfl), Or.inl rfl⟩
theorem hw_467 : GW (Cond.fieldLink RX8 88 "PaneDays$Street" "floor" "[I") := ⟨tk_1 _ (List.mem_of_getElem? (l := tables_1_1) (i := 107) rfl), Or.inl rfl⟩
theorem hw_468 : GW (Cond.fieldLink RX8 91 "PaneDays$Glass" "depth" "[I") := ⟨tk_2 _ (List.mem_of_getElem? (l := tables_1_2) (i := 10) rfl), Or.inl rfl⟩
theorem hw_469 : GW (Cond.methodLink RX8 94 yX3_valueFor) := ⟨tk_4 _ (List.mem_of_getElem? (l := tables_1_4) (i := 162) rfl), Or.inl rfl⟩
theorem hw_470 : GW (Cond.instanceMethod yX3_valueFor) := ⟨tk_4 _ (List.mem_of_getElem? (l := tables_1_4) (i := 163) rfl), Or.inl rfl⟩
theorem hw_471 : GW (Cond.selects RX3 yX3_valueFor yX3_valueFor) := ⟨tk_4 _ (List.mem_of_getElem? (l := tables_1_4) (i := 164) rfl), Or.inl rfl⟩
theorem hw_472 : GW (Cond.code yX3_valueFor cX3_valueFor 8 (some .int)) := ⟨tk_4 _ (List.mem_of_getElem? (l := tables_1_4) (i := 165) rfl), Or.inl rfl⟩
theorem hw_473 : GW (Cond.fieldLink RX3 15 "PaneDays$Law" "stack" "[I") := ⟨tk_1 _ (List.mem_of_getElem? (l := tables_1_1) (i := 168) rfl), Or.inl rfl⟩
theorem hw_474 : GW (Cond.methodLink RX8 84 yX2_settle) := ⟨tk_4 _ (List.mem_of_getElem? (l := tables_1_4) (i := 166) rfl), Or.inl rfl⟩
theorem hw_475 : GW (Cond.instanceMethod yX2_settle) := ⟨tk_4 _ (List.mem_of_getElem? (l := tables_1_4) (i := 167) rfl), Or.inl rfl⟩
theorem hw_476 : GW (Cond.selects RX2 yX2_settle yX2_settle) := ⟨tk_4 _ (List.mem_of_getElem? (l := tables_1_4) (i := 168) rfl), Or.inl rfl⟩
theorem hw_477 : GW (Cond.code yX2_settle cX2_settle 4 none) := ⟨tk_4 _ (List.mem_of_getElem? (l := tables_1_4) (i := 169) rfl), Or.inl rfl⟩
theorem hw_478 : GW (Cond.methodLink RX9 152 yX2_rinse) := ⟨tk_4 _ (List.mem_of_getElem? (l := tables_1_4) (i := 170) rfl), Or.inl rfl⟩
theorem hw_479 : GW (Cond.instanceMethod yX2_rinse) := ⟨tk_4 _ (List.mem_of_getElem? (l := tables_1_4) (i := 171) rfl), Or.inl rfl⟩
theorem hw_480 : GW (Cond.selects RX2 yX2_rinse yX2_rinse) := ⟨tk_4 _ (List.mem_of_getElem? (l := tables_1_4) (i := 172) rfl), Or.inl rfl⟩
theorem hw_481 : GW (Cond.code yX2_rinse cX2_rinse 2 (some .boolean)) := ⟨tk_4 _ (List.mem_of_getElem? (l := tables_1_4) (i := 173) rfl), Or.inl rfl⟩
theorem hw_482 : GW (Cond.methodLink RX9 154 yX2_smash) := ⟨tk_4 _ (List.mem_of_getElem? (l := tables_1_4) (i := 174) rfl), Or.inl rfl⟩
theorem hw_483 : GW (Cond.instanceMethod yX2_smash) := ⟨tk_4 _ (List.mem_of_getElem? (l := tables_1_4) (i := 175) rfl), Or.inl rfl⟩
theorem hw_484 : GW (Cond.selects RX2 yX2_smash yX2_smash) := ⟨tk_4 _ (List.mem_of_getElem? (l := tables_1_4) (i := 176) rfl), Or.inl rfl⟩
theorem hw_485 : GW (Cond.code yX2_smash cX2_smash 3 (some .boolean)) := ⟨tk_4 _ (List.mem_of_getElem? (l := tables_1_4) (i := 177) rfl), Or.inl rfl⟩
theorem hw_486 : GW (Cond.methodLink RX2 69 yX2_isBroken) := ⟨tk_4 _ (List.mem_of_getElem? (l := tables_1_4) (i := 178) rfl), Or.inl rfl⟩
theorem hw_487 : GW (Cond.code yX9_doAgain cX9_doAgain 6 none) := ⟨tk_4 _ (List.mem_of_getElem? (l := tables_1_4) (i := 114) rfl), Or.inl rfl⟩
theorem hw_488 : GW (u_lay RX9 TX9 0) := ⟨tk_2 _ (List.mem_of_getElem? (l := tables_1_2) (i := 111) rfl), Or.inl rfl⟩
theorem hw_489 : GW (u_lay RX9 TX9 1) := ⟨tk_2 _ (List.mem_of_getElem? (l := tables_1_2) (i := 113) rfl), Or.inl rfl⟩
theorem hw_490 : GW (u_lay RX9 TX9 2) := ⟨tk_2 _ (List.mem_of_getElem? (l := tables_1_2) (i := 115) rfl), Or.inl rfl⟩
theorem hw_491 : GW (u_lay RX9 TX9 3) := ⟨tk_2 _ (List.mem_of_getElem? (l := tables_1_2) (i := 117) rfl), Or.inl rfl⟩
theorem hw_492 : GW (u_lay RX9 TX9 4) := ⟨tk_2 _ (List.mem_of_getElem? (l := tables_1_2) (i := 119) rfl), Or.inl rfl⟩
theorem hw_493 : GW (u_lay RX9 TX9 5) := ⟨tk_2 _ (List.mem_of_getElem? (l := tables_1_2) (i := 121) rfl), Or.inl rfl⟩
theorem hw_494 : GW (u_lay RX9 TX9 6) := ⟨tk_2 _ (List.mem_of_getElem? (l := tables_1_2) (i := 123) rfl), Or.inl rfl⟩
theorem hw_495 : GW (u_lay RX9 TX9 7) := ⟨tk_2 _ (List.mem_of_getElem? (l := tables_1_2) (i := 125) rfl), Or.inl rfl⟩
theorem hw_496 : GW (u_lay RX9 TX9 8) := ⟨tk_2 _ (List.mem_of_getElem? (l := tables_1_2) (i := 127) rfl), Or.inl rfl⟩
theorem hw_497 : GW (u_lay RX9 TX9 9) := ⟨tk_2 _ (List.mem_of_getElem? (l := tables_1_2) (i := 129) rfl), Or.inl rfl⟩
theorem hw_498 : GW (u_lay RX9 TX9 10) := ⟨tk_2 _ (List.mem_of_getElem? (l := tables_1_2) (i := 131) rfl), Or.inl rfl⟩
theorem hw_499 : GW (u_lay RX9 TX9 11) := ⟨tk_2 _ (List.mem_of_getElem? (l := tables_1_2) (i := 133) rfl), Or.inl rfl⟩
theorem hw_500 : GW (u_lay RX9 TX9 12) := ⟨tk_2 _ (List.mem_of_getElem? (l := tables_1_2) (i := 135) rfl), Or.inl rfl⟩
theorem hw_501 : GW (u_lay RX8 TX8 0) := ⟨tk_2 _ (List.mem_of_getElem? (l := tables_1_2) (i := 77) rfl), Or.inl rfl⟩
theorem hw_502 : GW (u_lay RX8 TX8 1) := ⟨tk_2 _ (List.mem_of_getElem? (l := tables_1_2) (i := 79) rfl), Or.inl rfl⟩
theorem hw_503 : GW (u_lay RX8 TX8 2) := ⟨tk_2 _ (List.mem_of_getElem? (l := tables_1_2) (i := 81) rfl), Or.inl rfl⟩
theorem hw_504 : GW (u_lay RX8 TX8 3) := ⟨tk_2 _ (List.mem_of_getElem? (l := tables_1_2) (i := 83) rfl), Or.inl rfl⟩
theorem hw_505 : GW (u_lay RX8 TX8 4) := ⟨tk_2 _ (List.mem_of_getElem? (l := tables_1_2) (i := 85) rfl), Or.inl rfl⟩
theorem hw_506 : GW (u_lay RX8 TX8 5) := ⟨tk_2 _ (List.mem_of_getElem? (l := tables_1_2) (i := 87) rfl), Or.inl rfl⟩
theorem hw_507 : GW (Cond.codeWith yL_book cL_book 4 (some .int) [(0, 9, 12, 13)]) := ⟨tk_4 _ (List.mem_of_getElem? (l := tables_1_4) (i := 181) rfl), Or.inl rfl⟩
theorem hw_508 : GW (Cond.methodLink RL 21 yX10_book) := ⟨tk_4 _ (List.mem_of_getElem? (l := tables_1_4) (i := 182) rfl), Or.inl rfl⟩
theorem hw_509 : GW (Cond.instanceMethod yX10_book) := ⟨tk_4 _ (List.mem_of_getElem? (l := tables_1_4) (i := 183) rfl), Or.inl rfl⟩
theorem hw_510 : GW (Cond.selects RX10 yX10_book yX10_book) := ⟨tk_4 _ (List.mem_of_getElem? (l := tables_1_4) (i := 184) rfl), Or.inl rfl⟩
theorem hw_511 : GW (Cond.code yX10_book cX10_book 4 (some .int)) := ⟨tk_4 _ (List.mem_of_getElem? (l := tables_1_4) (i := 185) rfl), Or.inl rfl⟩
theorem hw_512 : GW (Cond.fieldLink RX10 43 "PaneDays" "spareBook" "LPaneDays$Book;") := ⟨tk_2 _ (List.mem_of_getElem? (l := tables_1_2) (i := 145) rfl), Or.inl rfl⟩
theorem hw_513 : GW (Cond.fieldLink RX10 153 "PaneDays$Book" "lines" "I") := ⟨tk_1 _ (List.mem_of_getElem? (l := tables_1_1) (i := 184) rfl), Or.inl rfl⟩
theorem hw_514 : GW (Cond.methodLink RX10 152 yX0_read) := ⟨tk_4 _ (List.mem_of_getElem? (l := tables_1_4) (i := 186) rfl), Or.inl rfl⟩
theorem hw_515 : GW (Cond.instanceMethod yX0_read) := ⟨tk_4 _ (List.mem_of_getElem? (l := tables_1_4) (i := 187) rfl), Or.inl rfl⟩
theorem hw_516 : GW (Cond.selects RX0 yX0_read yX0_read) := ⟨tk_4 _ (List.mem_of_getElem? (l := tables_1_4) (i := 188) rfl), Or.inl rfl⟩
theorem hw_517 : GW (Cond.code yX0_read cX0_read 3 (some .boolean)) := ⟨tk_4 _ (List.mem_of_getElem? (l := tables_1_4) (i := 189) rfl), Or.inl rfl⟩
theorem hw_518 : GW (Cond.fieldLink RX0 28 "PaneDays$Tape" "fault" "I") := ⟨tk_1 _ (List.mem_of_getElem? (l := tables_1_1) (i := 54) rfl), Or.inl rfl⟩
theorem hw_519 : GW (Cond.fieldLink RX0 33 "PaneDays$Tape" "kind" "I") := ⟨tk_1 _ (List.mem_of_getElem? (l := tables_1_1) (i := 46) rfl), Or.inl rfl⟩
theorem hw_520 : GW (Cond.methodLink RX0 25 yX0_forget) := ⟨tk_4 _ (List.mem_of_getElem? (l := tables_1_4) (i := 190) rfl), Or.inl rfl⟩
theorem hw_521 : GW (Cond.methodLink RX0 36 yX0_readLine) := ⟨tk_4 _ (List.mem_of_getElem? (l := tables_1_4) (i := 191) rfl), Or.inl rfl⟩
theorem hw_522 : GW (Cond.instanceMethod yX0_readLine) := ⟨tk_4 _ (List.mem_of_getElem? (l := tables_1_4) (i := 193) rfl), Or.inl rfl⟩
theorem hw_523 : GW (Cond.selects RX0 yX0_readLine yX0_readLine) := ⟨tk_0 _ (List.mem_of_getElem? (l := k2_sels lw_privs) (i := 24) (by decide +kernel)), Or.inl rfl⟩
theorem hw_524 : GW (Cond.code yX0_readLine cX0_readLine 6 none) := ⟨tk_4 _ (List.mem_of_getElem? (l := tables_1_4) (i := 194) rfl), Or.inl rfl⟩
theorem hw_525 : GW (Cond.fieldLink RX0 44 "PaneDays$Tape" "value" "I") := ⟨tk_1 _ (List.mem_of_getElem? (l := tables_1_1) (i := 52) rfl), Or.inl rfl⟩
theorem hw_526 : GW (Cond.fieldLink RX0 9 "PaneDays$Book" "cell" "[I") := ⟨tk_1 _ (List.mem_of_getElem? (l := tables_1_1) (i := 186) rfl), Or.inl rfl⟩
theorem hw_527 : GW (Cond.fieldLink RX0 15 "PaneDays$Book" "day" "[I") := ⟨tk_1 _ (List.mem_of_getElem? (l := tables_1_1) (i := 187) rfl), Or.inl rfl⟩
theorem hw_528 : GW (Cond.methodLink RX0 47 yX7_wrong) := ⟨tk_4 _ (List.mem_of_getElem? (l := tables_1_4) (i := 195) rfl), Or.inl rfl⟩
theorem hw_529 : GW (Cond.methodLink RX0 51 yX7_takeNumber) := ⟨tk_4 _ (List.mem_of_getElem? (l := tables_1_4) (i := 196) rfl), Or.inl rfl⟩
theorem hw_530 : GW (Cond.methodLink RX0 55 yX7_takeSign) := ⟨tk_4 _ (List.mem_of_getElem? (l := tables_1_4) (i := 197) rfl), Or.inl rfl⟩
theorem hw_531 : GW (Cond.methodLink RX0 40 yX7_takeEnd) := ⟨tk_4 _ (List.mem_of_getElem? (l := tables_1_4) (i := 198) rfl), Or.inl rfl⟩
theorem hw_532 : GW (Cond.codeWith yL_told cL_told 4 (some .int) [(0, 9, 12, 13)]) := ⟨tk_4 _ (List.mem_of_getElem? (l := tables_1_4) (i := 201) rfl), Or.inl rfl⟩
theorem hw_533 : GW (Cond.methodLink RL 24 yX10_told) := ⟨tk_4 _ (List.mem_of_getElem? (l := tables_1_4) (i := 202) rfl), Or.inl rfl⟩
theorem hw_534 : GW (Cond.instanceMethod yX10_told) := ⟨tk_4 _ (List.mem_of_getElem? (l := tables_1_4) (i := 203) rfl), Or.inl rfl⟩
theorem hw_535 : GW (Cond.selects RX10 yX10_told yX10_told) := ⟨tk_4 _ (List.mem_of_getElem? (l := tables_1_4) (i := 204) rfl), Or.inl rfl⟩
theorem hw_536 : GW (Cond.code yX10_told cX10_told 2 (some .int)) := ⟨tk_4 _ (List.mem_of_getElem? (l := tables_1_4) (i := 205) rfl), Or.inl rfl⟩
theorem hw_537 : GW (Cond.fieldLink RX10 165 "PaneDays$Street" "orders" "I") := ⟨tk_1 _ (List.mem_of_getElem? (l := tables_1_1) (i := 121) rfl), Or.inl rfl⟩
theorem hw_538 : GW (Cond.fieldLink RX10 168 "PaneDays$Street" "rains" "I") := ⟨tk_1 _ (List.mem_of_getElem? (l := tables_1_1) (i := 115) rfl), Or.inl rfl⟩
theorem hw_539 : GW (Cond.fieldLink RX10 76 "PaneDays$Past" "now" "LPaneDays$Glass;") := ⟨tk_2 _ (List.mem_of_getElem? (l := tables_1_2) (i := 48) rfl), Or.inl rfl⟩
theorem hw_540 : GW (Cond.fieldLink RX10 171 "PaneDays$Glass" "day" "I") := ⟨tk_2 _ (List.mem_of_getElem? (l := tables_1_2) (i := 20) rfl), Or.inl rfl⟩
theorem hw_541 : GW (Cond.fieldLink RX10 180 "PaneDays$Glass" "onRag" "I") := ⟨tk_2 _ (List.mem_of_getElem? (l := tables_1_2) (i := 17) rfl), Or.inl rfl⟩
theorem hw_542 : GW (Cond.fieldLink RX10 183 "PaneDays$Glass" "washed" "I") := ⟨tk_2 _ (List.mem_of_getElem? (l := tables_1_2) (i := 23) rfl), Or.inl rfl⟩
theorem hw_543 : GW (Cond.methodLink RX10 162 yX10_needWhat) := ⟨tk_4 _ (List.mem_of_getElem? (l := tables_1_4) (i := 206) rfl), Or.inl rfl⟩
theorem hw_544 : GW (Cond.instanceMethod yX10_needWhat) := ⟨tk_4 _ (List.mem_of_getElem? (l := tables_1_4) (i := 208) rfl), Or.inl rfl⟩
theorem hw_545 : GW (Cond.selects RX10 yX10_needWhat yX10_needWhat) := ⟨tk_0 _ (List.mem_of_getElem? (l := k2_sels lw_privs) (i := 25) (by decide +kernel)), Or.inl rfl⟩
theorem hw_546 : GW (Cond.code yX10_needWhat cX10_needWhat 3 none) := ⟨tk_4 _ (List.mem_of_getElem? (l := tables_1_4) (i := 209) rfl), Or.inl rfl⟩
theorem hw_547 : GW (Cond.methodLink RX10 176 yX2_filmsOnAll) := ⟨tk_4 _ (List.mem_of_getElem? (l := tables_1_4) (i := 210) rfl), Or.inl rfl⟩
theorem hw_548 : GW (Cond.instanceMethod yX2_filmsOnAll) := ⟨tk_4 _ (List.mem_of_getElem? (l := tables_1_4) (i := 211) rfl), Or.inl rfl⟩
theorem hw_549 : GW (Cond.selects RX2 yX2_filmsOnAll yX2_filmsOnAll) := ⟨tk_4 _ (List.mem_of_getElem? (l := tables_1_4) (i := 212) rfl), Or.inl rfl⟩
theorem hw_550 : GW (Cond.code yX2_filmsOnAll cX2_filmsOnAll 3 (some .int)) := ⟨tk_4 _ (List.mem_of_getElem? (l := tables_1_4) (i := 213) rfl), Or.inl rfl⟩
theorem hw_551 : GW (Cond.methodLink RX2 53 yX2_filmsOn) := ⟨tk_4 _ (List.mem_of_getElem? (l := tables_1_4) (i := 214) rfl), Or.inl rfl⟩
theorem hw_552 : GW (Cond.instanceMethod yX2_filmsOn) := ⟨tk_4 _ (List.mem_of_getElem? (l := tables_1_4) (i := 215) rfl), Or.inl rfl⟩
theorem hw_553 : GW (Cond.selects RX2 yX2_filmsOn yX2_filmsOn) := ⟨tk_4 _ (List.mem_of_getElem? (l := tables_1_4) (i := 216) rfl), Or.inl rfl⟩
theorem hw_554 : GW (Cond.code yX2_filmsOn cX2_filmsOn 4 (some .int)) := ⟨tk_4 _ (List.mem_of_getElem? (l := tables_1_4) (i := 217) rfl), Or.inl rfl⟩
theorem hw_555 : GW (Cond.codeWith yL_pane cL_pane 5 (some .int) [(0, 10, 13, 31), (0, 10, 17, 13)]) := ⟨tk_4 _ (List.mem_of_getElem? (l := tables_1_4) (i := 220) rfl), Or.inl rfl⟩
theorem hw_556 : GW (Cond.classLink RL 31 "java/util/NoSuchElementException") := ⟨tk_4 _ (List.mem_of_getElem? (l := tables_1_4) (i := 221) rfl), Or.inl rfl⟩
theorem hw_557 : GW (Cond.methodLink RL 27 yX10_pane) := ⟨tk_4 _ (List.mem_of_getElem? (l := tables_1_4) (i := 222) rfl), Or.inl rfl⟩
theorem hw_558 : GW (Cond.instanceMethod yX10_pane) := ⟨tk_4 _ (List.mem_of_getElem? (l := tables_1_4) (i := 223) rfl), Or.inl rfl⟩
theorem hw_559 : GW (Cond.selects RX10 yX10_pane yX10_pane) := ⟨tk_4 _ (List.mem_of_getElem? (l := tables_1_4) (i := 224) rfl), Or.inl rfl⟩
theorem hw_560 : GW (Cond.code yX10_pane cX10_pane 3 (some .int)) := ⟨tk_4 _ (List.mem_of_getElem? (l := tables_1_4) (i := 225) rfl), Or.inl rfl⟩
theorem hw_561 : GW (Cond.fieldLink RX10 189 "PaneDays$Street" "wide" "[I") := ⟨tk_1 _ (List.mem_of_getElem? (l := tables_1_1) (i := 99) rfl), Or.inl rfl⟩
theorem hw_562 : GW (Cond.fieldLink RX10 192 "PaneDays$Street" "high" "[I") := ⟨tk_1 _ (List.mem_of_getElem? (l := tables_1_1) (i := 102) rfl), Or.inl rfl⟩
theorem hw_563 : GW (Cond.fieldLink RX10 195 "PaneDays$Street" "along" "[I") := ⟨tk_1 _ (List.mem_of_getElem? (l := tables_1_1) (i := 105) rfl), Or.inl rfl⟩
theorem hw_564 : GW (Cond.fieldLink RX10 198 "PaneDays$Street" "floor" "[I") := ⟨tk_1 _ (List.mem_of_getElem? (l := tables_1_1) (i := 109) rfl), Or.inl rfl⟩
theorem hw_565 : GW (Cond.methodLink RX10 186 yX10_needPane) := ⟨tk_4 _ (List.mem_of_getElem? (l := tables_1_4) (i := 226) rfl), Or.inl rfl⟩
theorem hw_566 : GW (Cond.instanceMethod yX10_needPane) := ⟨tk_4 _ (List.mem_of_getElem? (l := tables_1_4) (i := 228) rfl), Or.inl rfl⟩
theorem hw_567 : GW (Cond.selects RX10 yX10_needPane yX10_needPane) := ⟨tk_0 _ (List.mem_of_getElem? (l := k2_sels lw_privs) (i := 26) (by decide +kernel)), Or.inl rfl⟩
theorem hw_568 : GW (Cond.code yX10_needPane cX10_needPane 2 none) := ⟨tk_4 _ (List.mem_of_getElem? (l := tables_1_4) (i := 229) rfl), Or.inl rfl⟩
theorem hw_569 : GW (Cond.classLink RX10 387 "java/util/NoSuchElementException") := ⟨tk_4 _ (List.mem_of_getElem? (l := tables_1_4) (i := 230) rfl), Or.inl rfl⟩
theorem hw_570 : GW (Cond.initialized "java/util/NoSuchElementException") := ⟨tk_1 _ (List.mem_of_getElem? (l := tables_1_1) (i := 24) rfl), Or.inl rfl⟩
theorem hw_571 : GW (Cond.methodLink RX10 201 yX2_filmsOn) := ⟨tk_5 _ (List.mem_of_getElem? (l := tables_1_5) (i := 5) rfl), Or.inl rfl⟩
theorem hw_572 : GW (Cond.methodLink RX10 205 yX2_isBroken) := ⟨tk_5 _ (List.mem_of_getElem? (l := tables_1_5) (i := 6) rfl), Or.inl rfl⟩
theorem hw_573 : GW (Cond.codeWith yL_shows cL_shows 6 (some .int) [(0, 12, 15, 37), (0, 12, 19, 31)]) := ⟨tk_5 _ (List.mem_of_getElem? (l := tables_1_5) (i := 9) rfl), Or.inl rfl⟩
theorem hw_574 : GW (Cond.classLink RL 37 "java/lang/IndexOutOfBoundsException") := ⟨tk_5 _ (List.mem_of_getElem? (l := tables_1_5) (i := 10) rfl), Or.inl rfl⟩
theorem hw_575 : GW (Cond.methodLink RL 33 yX10_shows) := ⟨tk_5 _ (List.mem_of_getElem? (l := tables_1_5) (i := 11) rfl), Or.inl rfl⟩
theorem hw_576 : GW (Cond.instanceMethod yX10_shows) := ⟨tk_5 _ (List.mem_of_getElem? (l := tables_1_5) (i := 12) rfl), Or.inl rfl⟩
theorem hw_577 : GW (Cond.selects RX10 yX10_shows yX10_shows) := ⟨tk_5 _ (List.mem_of_getElem? (l := tables_1_5) (i := 13) rfl), Or.inl rfl⟩
theorem hw_578 : GW (Cond.code yX10_shows cX10_shows 4 (some .int)) := ⟨tk_5 _ (List.mem_of_getElem? (l := tables_1_5) (i := 14) rfl), Or.inl rfl⟩
theorem hw_579 : GW (Cond.methodLink RX10 209 yX10_needCell) := ⟨tk_5 _ (List.mem_of_getElem? (l := tables_1_5) (i := 15) rfl), Or.inl rfl⟩
theorem hw_580 : GW (Cond.instanceMethod yX10_needCell) := ⟨tk_5 _ (List.mem_of_getElem? (l := tables_1_5) (i := 17) rfl), Or.inl rfl⟩
theorem hw_581 : GW (Cond.selects RX10 yX10_needCell yX10_needCell) := ⟨tk_0 _ (List.mem_of_getElem? (l := k2_sels lw_privs) (i := 27) (by decide +kernel)), Or.inl rfl⟩
theorem hw_582 : GW (Cond.code yX10_needCell cX10_needCell 4 (some .int)) := ⟨tk_5 _ (List.mem_of_getElem? (l := tables_1_5) (i := 18) rfl), Or.inl rfl⟩
theorem hw_583 : GW (Cond.classLink RX10 390 "java/lang/IndexOutOfBoundsException") := ⟨tk_5 _ (List.mem_of_getElem? (l := tables_1_5) (i := 19) rfl), Or.inl rfl⟩
theorem hw_584 : GW (Cond.initialized "java/lang/IndexOutOfBoundsException") := ⟨tk_1 _ (List.mem_of_getElem? (l := tables_1_1) (i := 25) rfl), Or.inl rfl⟩
theorem hw_585 : GW (Cond.methodLink RX10 393 yX10_cellAt) := ⟨tk_5 _ (List.mem_of_getElem? (l := tables_1_5) (i := 34) rfl), Or.inl rfl⟩
theorem hw_586 : GW (Cond.methodLink RX10 213 yX2_shown) := ⟨tk_3 _ (List.mem_of_getElem? (l := tables_1_3) (i := 2) rfl), Or.inl rfl⟩
theorem hw_587 : GW (Cond.codeWith yL_deep cL_deep 6 (some .int) [(0, 12, 15, 37), (0, 12, 19, 31)]) := ⟨tk_5 _ (List.mem_of_getElem? (l := tables_1_5) (i := 37) rfl), Or.inl rfl⟩
theorem hw_588 : GW (Cond.methodLink RL 39 yX10_deep) := ⟨tk_5 _ (List.mem_of_getElem? (l := tables_1_5) (i := 38) rfl), Or.inl rfl⟩
theorem hw_589 : GW (Cond.instanceMethod yX10_deep) := ⟨tk_5 _ (List.mem_of_getElem? (l := tables_1_5) (i := 39) rfl), Or.inl rfl⟩
theorem hw_590 : GW (Cond.selects RX10 yX10_deep yX10_deep) := ⟨tk_5 _ (List.mem_of_getElem? (l := tables_1_5) (i := 40) rfl), Or.inl rfl⟩
theorem hw_591 : GW (Cond.code yX10_deep cX10_deep 4 (some .int)) := ⟨tk_5 _ (List.mem_of_getElem? (l := tables_1_5) (i := 41) rfl), Or.inl rfl⟩
theorem hw_592 : GW (Cond.fieldLink RX10 216 "PaneDays$Glass" "depth" "[I") := ⟨tk_2 _ (List.mem_of_getElem? (l := tables_1_2) (i := 13) rfl), Or.inl rfl⟩
theorem hw_593 : GW (Cond.codeWith yL_film cL_film 7 (some .int) [(0, 14, 17, 37), (0, 14, 21, 31)]) := ⟨tk_5 _ (List.mem_of_getElem? (l := tables_1_5) (i := 44) rfl), Or.inl rfl⟩
theorem hw_594 : GW (Cond.methodLink RL 42 yX10_film) := ⟨tk_5 _ (List.mem_of_getElem? (l := tables_1_5) (i := 45) rfl), Or.inl rfl⟩
theorem hw_595 : GW (Cond.instanceMethod yX10_film) := ⟨tk_5 _ (List.mem_of_getElem? (l := tables_1_5) (i := 46) rfl), Or.inl rfl⟩
theorem hw_596 : GW (Cond.selects RX10 yX10_film yX10_film) := ⟨tk_5 _ (List.mem_of_getElem? (l := tables_1_5) (i := 47) rfl), Or.inl rfl⟩
theorem hw_597 : GW (Cond.code yX10_film cX10_film 5 (some .int)) := ⟨tk_5 _ (List.mem_of_getElem? (l := tables_1_5) (i := 48) rfl), Or.inl rfl⟩
theorem hw_598 : GW (Cond.methodLink RX10 219 yX2_behind) := ⟨tk_5 _ (List.mem_of_getElem? (l := tables_1_5) (i := 49) rfl), Or.inl rfl⟩
theorem hw_599 : GW (Cond.codeWith yL_films cL_films 5 (some .int) [(0, 10, 13, 13)]) := ⟨tk_5 _ (List.mem_of_getElem? (l := tables_1_5) (i := 52) rfl), Or.inl rfl⟩
theorem hw_600 : GW (Cond.methodLink RL 46 yX10_films) := ⟨tk_5 _ (List.mem_of_getElem? (l := tables_1_5) (i := 53) rfl), Or.inl rfl⟩
theorem hw_601 : GW (Cond.instanceMethod yX10_films) := ⟨tk_5 _ (List.mem_of_getElem? (l := tables_1_5) (i := 54) rfl), Or.inl rfl⟩
theorem hw_602 : GW (Cond.selects RX10 yX10_films yX10_films) := ⟨tk_5 _ (List.mem_of_getElem? (l := tables_1_5) (i := 55) rfl), Or.inl rfl⟩
theorem hw_603 : GW (Cond.code yX10_films cX10_films 3 (some .int)) := ⟨tk_5 _ (List.mem_of_getElem? (l := tables_1_5) (i := 56) rfl), Or.inl rfl⟩
theorem hw_604 : GW (Cond.fieldLink RX10 227 "PaneDays$Glass" "rag" "[I") := ⟨tk_2 _ (List.mem_of_getElem? (l := tables_1_2) (i := 15) rfl), Or.inl rfl⟩
theorem hw_605 : GW (Cond.methodLink RX10 230 yX2_filmsOf) := ⟨tk_5 _ (List.mem_of_getElem? (l := tables_1_5) (i := 57) rfl), Or.inl rfl⟩
theorem hw_606 : GW (Cond.instanceMethod yX2_filmsOf) := ⟨tk_5 _ (List.mem_of_getElem? (l := tables_1_5) (i := 58) rfl), Or.inl rfl⟩
theorem hw_607 : GW (Cond.selects RX2 yX2_filmsOf yX2_filmsOf) := ⟨tk_5 _ (List.mem_of_getElem? (l := tables_1_5) (i := 59) rfl), Or.inl rfl⟩
theorem hw_608 : GW (Cond.code yX2_filmsOf cX2_filmsOf 4 (some .int)) := ⟨tk_5 _ (List.mem_of_getElem? (l := tables_1_5) (i := 60) rfl), Or.inl rfl⟩
theorem hw_609 : GW (Cond.methodLink RX2 57 yX2_outsideOf) := ⟨tk_5 _ (List.mem_of_getElem? (l := tables_1_5) (i := 61) rfl), Or.inl rfl⟩
theorem hw_610 : GW (Cond.instanceMethod yX2_outsideOf) := ⟨tk_3 _ (List.mem_of_getElem? (l := tables_1_3) (i := 7) rfl), Or.inl rfl⟩
theorem hw_611 : GW (Cond.selects RX2 yX2_outsideOf yX2_outsideOf) := ⟨tk_3 _ (List.mem_of_getElem? (l := tables_1_3) (i := 8) rfl), Or.inl rfl⟩
theorem hw_612 : GW (Cond.code yX2_outsideOf cX2_outsideOf 4 (some .int)) := ⟨tk_3 _ (List.mem_of_getElem? (l := tables_1_3) (i := 9) rfl), Or.inl rfl⟩
theorem hw_613 : GW (Cond.codeWith yL_have cL_have 5 (some .int) [(0, 10, 13, 31), (0, 10, 17, 13)]) := ⟨tk_5 _ (List.mem_of_getElem? (l := tables_1_5) (i := 64) rfl), Or.inl rfl⟩
theorem hw_614 : GW (Cond.methodLink RL 49 yX10_have) := ⟨tk_5 _ (List.mem_of_getElem? (l := tables_1_5) (i := 65) rfl), Or.inl rfl⟩
theorem hw_615 : GW (Cond.instanceMethod yX10_have) := ⟨tk_5 _ (List.mem_of_getElem? (l := tables_1_5) (i := 66) rfl), Or.inl rfl⟩
theorem hw_616 : GW (Cond.selects RX10 yX10_have yX10_have) := ⟨tk_5 _ (List.mem_of_getElem? (l := tables_1_5) (i := 67) rfl), Or.inl rfl⟩
theorem hw_617 : GW (Cond.code yX10_have cX10_have 3 (some .int)) := ⟨tk_5 _ (List.mem_of_getElem? (l := tables_1_5) (i := 68) rfl), Or.inl rfl⟩
theorem hw_618 : GW (Cond.fieldLink RX10 49 "PaneDays" "gaze" "LPaneDays$Gaze;") := ⟨tk_2 _ (List.mem_of_getElem? (l := tables_1_2) (i := 146) rfl), Or.inl rfl⟩
theorem hw_619 : GW (Cond.methodLink RX10 233 yX1_cellsHaving) := ⟨tk_5 _ (List.mem_of_getElem? (l := tables_1_5) (i := 69) rfl), Or.inl rfl⟩
theorem hw_620 : GW (Cond.instanceMethod yX1_cellsHaving) := ⟨tk_5 _ (List.mem_of_getElem? (l := tables_1_5) (i := 70) rfl), Or.inl rfl⟩
theorem hw_621 : GW (Cond.selects RX1 yX1_cellsHaving yX1_cellsHaving) := ⟨tk_5 _ (List.mem_of_getElem? (l := tables_1_5) (i := 71) rfl), Or.inl rfl⟩
theorem hw_622 : GW (Cond.code yX1_cellsHaving cX1_cellsHaving 6 (some .int)) := ⟨tk_5 _ (List.mem_of_getElem? (l := tables_1_5) (i := 72) rfl), Or.inl rfl⟩
theorem hw_623 : GW (Cond.methodLink RX1 24 yX2_outsideOf) := ⟨tk_5 _ (List.mem_of_getElem? (l := tables_1_5) (i := 73) rfl), Or.inl rfl⟩
theorem hw_624 : GW (Cond.codeWith yL_showing cL_showing 5 (some .int) [(0, 10, 13, 31), (0, 10, 17, 13)]) := ⟨tk_5 _ (List.mem_of_getElem? (l := tables_1_5) (i := 76) rfl), Or.inl rfl⟩
theorem hw_625 : GW (Cond.methodLink RL 52 yX10_showing) := ⟨tk_5 _ (List.mem_of_getElem? (l := tables_1_5) (i := 77) rfl), Or.inl rfl⟩
theorem hw_626 : GW (Cond.instanceMethod yX10_showing) := ⟨tk_5 _ (List.mem_of_getElem? (l := tables_1_5) (i := 78) rfl), Or.inl rfl⟩
theorem hw_627 : GW (Cond.selects RX10 yX10_showing yX10_showing) := ⟨tk_5 _ (List.mem_of_getElem? (l := tables_1_5) (i := 79) rfl), Or.inl rfl⟩
theorem hw_628 : GW (Cond.code yX10_showing cX10_showing 3 (some .int)) := ⟨tk_5 _ (List.mem_of_getElem? (l := tables_1_5) (i := 80) rfl), Or.inl rfl⟩
theorem hw_629 : GW (Cond.fieldLink RX10 237 "PaneDays$Street" "cells" "[I") := ⟨tk_1 _ (List.mem_of_getElem? (l := tables_1_1) (i := 113) rfl), Or.inl rfl⟩
theorem hw_630 : GW (Cond.methodLink RX10 240 yX1_cellsShowing) := ⟨tk_5 _ (List.mem_of_getElem? (l := tables_1_5) (i := 81) rfl), Or.inl rfl⟩
theorem hw_631 : GW (Cond.instanceMethod yX1_cellsShowing) := ⟨tk_5 _ (List.mem_of_getElem? (l := tables_1_5) (i := 82) rfl), Or.inl rfl⟩
theorem hw_632 : GW (Cond.selects RX1 yX1_cellsShowing yX1_cellsShowing) := ⟨tk_5 _ (List.mem_of_getElem? (l := tables_1_5) (i := 83) rfl), Or.inl rfl⟩
theorem hw_633 : GW (Cond.code yX1_cellsShowing cX1_cellsShowing 7 (some .int)) := ⟨tk_5 _ (List.mem_of_getElem? (l := tables_1_5) (i := 84) rfl), Or.inl rfl⟩
theorem hw_634 : GW (Cond.methodLink RX1 30 yX2_shown) := ⟨tk_5 _ (List.mem_of_getElem? (l := tables_1_5) (i := 85) rfl), Or.inl rfl⟩
theorem hw_635 : GW (Cond.codeWith yL_settles cL_settles 6 (some .int) [(0, 19, 22, 37), (0, 19, 26, 31)]) := ⟨tk_5 _ (List.mem_of_getElem? (l := tables_1_5) (i := 88) rfl), Or.inl rfl⟩
theorem hw_636 : GW (Cond.methodLink RL 55 yX10_settles) := ⟨tk_5 _ (List.mem_of_getElem? (l := tables_1_5) (i := 89) rfl), Or.inl rfl⟩
theorem hw_637 : GW (Cond.instanceMethod yX10_settles) := ⟨tk_5 _ (List.mem_of_getElem? (l := tables_1_5) (i := 90) rfl), Or.inl rfl⟩
theorem hw_638 : GW (Cond.selects RX10 yX10_settles yX10_settles) := ⟨tk_5 _ (List.mem_of_getElem? (l := tables_1_5) (i := 91) rfl), Or.inl rfl⟩
theorem hw_639 : GW (Cond.code yX10_settles cX10_settles 6 (some .boolean)) := ⟨tk_5 _ (List.mem_of_getElem? (l := tables_1_5) (i := 92) rfl), Or.inl rfl⟩
theorem hw_640 : GW (Cond.fieldLink RX10 70 "PaneDays" "weather" "LPaneDays$Weather;") := ⟨tk_2 _ (List.mem_of_getElem? (l := tables_1_2) (i := 149) rfl), Or.inl rfl⟩
theorem hw_641 : GW (Cond.methodLink RX10 244 yX8_wouldSettle) := ⟨tk_5 _ (List.mem_of_getElem? (l := tables_1_5) (i := 93) rfl), Or.inl rfl⟩
theorem hw_642 : GW (Cond.instanceMethod yX8_wouldSettle) := ⟨tk_5 _ (List.mem_of_getElem? (l := tables_1_5) (i := 94) rfl), Or.inl rfl⟩
theorem hw_643 : GW (Cond.selects RX8 yX8_wouldSettle yX8_wouldSettle) := ⟨tk_5 _ (List.mem_of_getElem? (l := tables_1_5) (i := 95) rfl), Or.inl rfl⟩
theorem hw_644 : GW (Cond.code yX8_wouldSettle cX8_wouldSettle 5 (some .boolean)) := ⟨tk_5 _ (List.mem_of_getElem? (l := tables_1_5) (i := 96) rfl), Or.inl rfl⟩
theorem hw_645 : GW (Cond.codeWith yL_order cL_order 5 (some .int) [(0, 10, 13, 31), (0, 10, 17, 13)]) := ⟨tk_5 _ (List.mem_of_getElem? (l := tables_1_5) (i := 99) rfl), Or.inl rfl⟩
theorem hw_646 : GW (Cond.methodLink RL 59 yX10_order) := ⟨tk_5 _ (List.mem_of_getElem? (l := tables_1_5) (i := 100) rfl), Or.inl rfl⟩
theorem hw_647 : GW (Cond.instanceMethod yX10_order) := ⟨tk_5 _ (List.mem_of_getElem? (l := tables_1_5) (i := 101) rfl), Or.inl rfl⟩
theorem hw_648 : GW (Cond.selects RX10 yX10_order yX10_order) := ⟨tk_5 _ (List.mem_of_getElem? (l := tables_1_5) (i := 102) rfl), Or.inl rfl⟩
theorem hw_649 : GW (Cond.code yX10_order cX10_order 3 (some .int)) := ⟨tk_5 _ (List.mem_of_getElem? (l := tables_1_5) (i := 103) rfl), Or.inl rfl⟩
theorem hw_650 : GW (Cond.methodLink RX10 248 yX10_needOrder) := ⟨tk_5 _ (List.mem_of_getElem? (l := tables_1_5) (i := 104) rfl), Or.inl rfl⟩
theorem hw_651 : GW (Cond.instanceMethod yX10_needOrder) := ⟨tk_5 _ (List.mem_of_getElem? (l := tables_1_5) (i := 106) rfl), Or.inl rfl⟩
theorem hw_652 : GW (Cond.selects RX10 yX10_needOrder yX10_needOrder) := ⟨tk_0 _ (List.mem_of_getElem? (l := k2_sels lw_privs) (i := 28) (by decide +kernel)), Or.inl rfl⟩
theorem hw_653 : GW (Cond.code yX10_needOrder cX10_needOrder 2 none) := ⟨tk_5 _ (List.mem_of_getElem? (l := tables_1_5) (i := 107) rfl), Or.inl rfl⟩
theorem hw_654 : GW (Cond.methodLink RX10 251 yX10_orderState) := ⟨tk_2 _ (List.mem_of_getElem? (l := tables_1_2) (i := 227) rfl), Or.inl rfl⟩
theorem hw_655 : GW (Cond.instanceMethod yX10_orderState) := ⟨tk_2 _ (List.mem_of_getElem? (l := tables_1_2) (i := 229) rfl), Or.inl rfl⟩
theorem hw_656 : GW (Cond.selects RX10 yX10_orderState yX10_orderState) := ⟨tk_0 _ (List.mem_of_getElem? (l := k2_sels lw_privs) (i := 2) (by decide +kernel)), Or.inl rfl⟩
theorem hw_657 : GW (Cond.code yX10_orderState cX10_orderState 6 (some .int)) := ⟨tk_2 _ (List.mem_of_getElem? (l := tables_1_2) (i := 230) rfl), Or.inl rfl⟩
theorem hw_658 : GW (Cond.fieldLink RX10 381 "PaneDays$Glass" "met" "I") := ⟨tk_2 _ (List.mem_of_getElem? (l := tables_1_2) (i := 28) rfl), Or.inl rfl⟩
theorem hw_659 : GW (Cond.methodLink RX10 257 yX6_cellOf) := ⟨tk_2 _ (List.mem_of_getElem? (l := tables_1_2) (i := 231) rfl), Or.inl rfl⟩
theorem hw_660 : GW (Cond.methodLink RX10 254 yX6_part) := ⟨tk_2 _ (List.mem_of_getElem? (l := tables_1_2) (i := 238) rfl), Or.inl rfl⟩
theorem hw_661 : GW (Cond.methodLink RX10 260 yX2_outsideOf) := ⟨tk_3 _ (List.mem_of_getElem? (l := tables_1_3) (i := 6) rfl), Or.inl rfl⟩
theorem hw_662 : GW (Cond.codeWith yL_needs cL_needs 4 (some .int) [(0, 9, 12, 31)]) := ⟨tk_5 _ (List.mem_of_getElem? (l := tables_1_5) (i := 110) rfl), Or.inl rfl⟩
theorem hw_663 : GW (Cond.methodLink RL 62 yX10_needs) := ⟨tk_5 _ (List.mem_of_getElem? (l := tables_1_5) (i := 111) rfl), Or.inl rfl⟩
theorem hw_664 : GW (Cond.instanceMethod yX10_needs) := ⟨tk_5 _ (List.mem_of_getElem? (l := tables_1_5) (i := 112) rfl), Or.inl rfl⟩
theorem hw_665 : GW (Cond.selects RX10 yX10_needs yX10_needs) := ⟨tk_5 _ (List.mem_of_getElem? (l := tables_1_5) (i := 113) rfl), Or.inl rfl⟩
theorem hw_666 : GW (Cond.code yX10_needs cX10_needs 2 (some .int)) := ⟨tk_5 _ (List.mem_of_getElem? (l := tables_1_5) (i := 114) rfl), Or.inl rfl⟩
theorem hw_667 : GW (Cond.codeWith yL_cost cL_cost 6 (some .int) [(0, 12, 15, 31), (0, 12, 19, 13)]) := ⟨tk_5 _ (List.mem_of_getElem? (l := tables_1_5) (i := 117) rfl), Or.inl rfl⟩
theorem hw_668 : GW (Cond.methodLink RL 65 yX10_cost) := ⟨tk_5 _ (List.mem_of_getElem? (l := tables_1_5) (i := 118) rfl), Or.inl rfl⟩
theorem hw_669 : GW (Cond.instanceMethod yX10_cost) := ⟨tk_5 _ (List.mem_of_getElem? (l := tables_1_5) (i := 119) rfl), Or.inl rfl⟩
theorem hw_670 : GW (Cond.selects RX10 yX10_cost yX10_cost) := ⟨tk_5 _ (List.mem_of_getElem? (l := tables_1_5) (i := 120) rfl), Or.inl rfl⟩
theorem hw_671 : GW (Cond.code yX10_cost cX10_cost 4 (some .int)) := ⟨tk_5 _ (List.mem_of_getElem? (l := tables_1_5) (i := 121) rfl), Or.inl rfl⟩
theorem hw_672 : GW (Cond.methodLink RX10 263 yX10_needCells) := ⟨tk_5 _ (List.mem_of_getElem? (l := tables_1_5) (i := 122) rfl), Or.inl rfl⟩
theorem hw_673 : GW (Cond.instanceMethod yX10_needCells) := ⟨tk_5 _ (List.mem_of_getElem? (l := tables_1_5) (i := 124) rfl), Or.inl rfl⟩
theorem hw_674 : GW (Cond.selects RX10 yX10_needCells yX10_needCells) := ⟨tk_0 _ (List.mem_of_getElem? (l := k2_sels lw_privs) (i := 29) (by decide +kernel)), Or.inl rfl⟩
theorem hw_675 : GW (Cond.code yX10_needCells cX10_needCells 3 none) := ⟨tk_5 _ (List.mem_of_getElem? (l := tables_1_5) (i := 125) rfl), Or.inl rfl⟩
theorem hw_676 : GW (Cond.methodLink RX10 266 yX1_costOf) := ⟨tk_5 _ (List.mem_of_getElem? (l := tables_1_5) (i := 126) rfl), Or.inl rfl⟩
theorem hw_677 : GW (Cond.instanceMethod yX1_costOf) := ⟨tk_5 _ (List.mem_of_getElem? (l := tables_1_5) (i := 127) rfl), Or.inl rfl⟩
theorem hw_678 : GW (Cond.selects RX1 yX1_costOf yX1_costOf) := ⟨tk_5 _ (List.mem_of_getElem? (l := tables_1_5) (i := 128) rfl), Or.inl rfl⟩
theorem hw_679 : GW (Cond.code yX1_costOf cX1_costOf 8 (some .int)) := ⟨tk_5 _ (List.mem_of_getElem? (l := tables_1_5) (i := 129) rfl), Or.inl rfl⟩
theorem hw_680 : GW (Cond.codeWith yL_view cL_view 6 (some .int) [(0, 12, 15, 31), (0, 12, 19, 13)]) := ⟨tk_5 _ (List.mem_of_getElem? (l := tables_1_5) (i := 132) rfl), Or.inl rfl⟩
theorem hw_681 : GW (Cond.methodLink RL 68 yX10_view) := ⟨tk_5 _ (List.mem_of_getElem? (l := tables_1_5) (i := 133) rfl), Or.inl rfl⟩
theorem hw_682 : GW (Cond.instanceMethod yX10_view) := ⟨tk_5 _ (List.mem_of_getElem? (l := tables_1_5) (i := 134) rfl), Or.inl rfl⟩
theorem hw_683 : GW (Cond.selects RX10 yX10_view yX10_view) := ⟨tk_5 _ (List.mem_of_getElem? (l := tables_1_5) (i := 135) rfl), Or.inl rfl⟩
theorem hw_684 : GW (Cond.code yX10_view cX10_view 5 (some .int)) := ⟨tk_5 _ (List.mem_of_getElem? (l := tables_1_5) (i := 136) rfl), Or.inl rfl⟩
theorem hw_685 : GW (Cond.methodLink RX10 269 yX1_bestDay) := ⟨tk_5 _ (List.mem_of_getElem? (l := tables_1_5) (i := 137) rfl), Or.inl rfl⟩
theorem hw_686 : GW (Cond.instanceMethod yX1_bestDay) := ⟨tk_5 _ (List.mem_of_getElem? (l := tables_1_5) (i := 138) rfl), Or.inl rfl⟩
theorem hw_687 : GW (Cond.selects RX1 yX1_bestDay yX1_bestDay) := ⟨tk_5 _ (List.mem_of_getElem? (l := tables_1_5) (i := 139) rfl), Or.inl rfl⟩
theorem hw_688 : GW (Cond.code yX1_bestDay cX1_bestDay 8 (some .int)) := ⟨tk_5 _ (List.mem_of_getElem? (l := tables_1_5) (i := 140) rfl), Or.inl rfl⟩
theorem hw_689 : GW (Cond.fieldLink RX1 33 "PaneDays$Glass" "depth" "[I") := ⟨tk_2 _ (List.mem_of_getElem? (l := tables_1_2) (i := 12) rfl), Or.inl rfl⟩
theorem hw_690 : GW (Cond.methodLink RX1 36 yX2_behind) := ⟨tk_5 _ (List.mem_of_getElem? (l := tables_1_5) (i := 141) rfl), Or.inl rfl⟩
theorem hw_691 : GW (Cond.methodLink RX1 39 yX1_costOf) := ⟨tk_5 _ (List.mem_of_getElem? (l := tables_1_5) (i := 142) rfl), Or.inl rfl⟩
theorem hw_692 : GW (Cond.codeWith yL_seams cL_seams 4 (some .int) [(0, 9, 12, 31)]) := ⟨tk_5 _ (List.mem_of_getElem? (l := tables_1_5) (i := 145) rfl), Or.inl rfl⟩
theorem hw_693 : GW (Cond.methodLink RL 71 yX10_seams) := ⟨tk_5 _ (List.mem_of_getElem? (l := tables_1_5) (i := 146) rfl), Or.inl rfl⟩
theorem hw_694 : GW (Cond.instanceMethod yX10_seams) := ⟨tk_5 _ (List.mem_of_getElem? (l := tables_1_5) (i := 147) rfl), Or.inl rfl⟩
theorem hw_695 : GW (Cond.selects RX10 yX10_seams yX10_seams) := ⟨tk_5 _ (List.mem_of_getElem? (l := tables_1_5) (i := 148) rfl), Or.inl rfl⟩
theorem hw_696 : GW (Cond.code yX10_seams cX10_seams 2 (some .int)) := ⟨tk_5 _ (List.mem_of_getElem? (l := tables_1_5) (i := 149) rfl), Or.inl rfl⟩
theorem hw_697 : GW (Cond.methodLink RX10 272 yX1_countSeams) := ⟨tk_5 _ (List.mem_of_getElem? (l := tables_1_5) (i := 150) rfl), Or.inl rfl⟩
theorem hw_698 : GW (Cond.instanceMethod yX1_countSeams) := ⟨tk_5 _ (List.mem_of_getElem? (l := tables_1_5) (i := 151) rfl), Or.inl rfl⟩
theorem hw_699 : GW (Cond.selects RX1 yX1_countSeams yX1_countSeams) := ⟨tk_5 _ (List.mem_of_getElem? (l := tables_1_5) (i := 152) rfl), Or.inl rfl⟩
theorem hw_700 : GW (Cond.code yX1_countSeams cX1_countSeams 8 (some .int)) := ⟨tk_5 _ (List.mem_of_getElem? (l := tables_1_5) (i := 153) rfl), Or.inl rfl⟩
theorem hw_701 : GW (Cond.methodLink RX1 43 yX1_isSeam) := ⟨tk_5 _ (List.mem_of_getElem? (l := tables_1_5) (i := 154) rfl), Or.inl rfl⟩
theorem hw_702 : GW (Cond.static yX1_isSeam) := ⟨tk_5 _ (List.mem_of_getElem? (l := tables_1_5) (i := 155) rfl), Or.inl rfl⟩
theorem hw_703 : GW (Cond.code yX1_isSeam cX1_isSeam 4 (some .boolean)) := ⟨tk_5 _ (List.mem_of_getElem? (l := tables_1_5) (i := 156) rfl), Or.inl rfl⟩
theorem hw_704 : GW (Cond.codeWith yL_sights cL_sights 4 (some .int) [(0, 9, 12, 31)]) := ⟨tk_5 _ (List.mem_of_getElem? (l := tables_1_5) (i := 159) rfl), Or.inl rfl⟩
theorem hw_705 : GW (Cond.methodLink RL 74 yX10_sights) := ⟨tk_5 _ (List.mem_of_getElem? (l := tables_1_5) (i := 160) rfl), Or.inl rfl⟩
theorem hw_706 : GW (Cond.instanceMethod yX10_sights) := ⟨tk_5 _ (List.mem_of_getElem? (l := tables_1_5) (i := 161) rfl), Or.inl rfl⟩
theorem hw_707 : GW (Cond.selects RX10 yX10_sights yX10_sights) := ⟨tk_5 _ (List.mem_of_getElem? (l := tables_1_5) (i := 162) rfl), Or.inl rfl⟩
theorem hw_708 : GW (Cond.code yX10_sights cX10_sights 2 (some .int)) := ⟨tk_5 _ (List.mem_of_getElem? (l := tables_1_5) (i := 163) rfl), Or.inl rfl⟩
theorem hw_709 : GW (Cond.methodLink RX10 275 yX1_countDaysShown) := ⟨tk_5 _ (List.mem_of_getElem? (l := tables_1_5) (i := 164) rfl), Or.inl rfl⟩
theorem hw_710 : GW (Cond.instanceMethod yX1_countDaysShown) := ⟨tk_5 _ (List.mem_of_getElem? (l := tables_1_5) (i := 165) rfl), Or.inl rfl⟩
theorem hw_711 : GW (Cond.selects RX1 yX1_countDaysShown yX1_countDaysShown) := ⟨tk_5 _ (List.mem_of_getElem? (l := tables_1_5) (i := 166) rfl), Or.inl rfl⟩
theorem hw_712 : GW (Cond.code yX1_countDaysShown cX1_countDaysShown 5 (some .int)) := ⟨tk_5 _ (List.mem_of_getElem? (l := tables_1_5) (i := 167) rfl), Or.inl rfl⟩
theorem hw_713 : GW (Cond.fieldLink RX1 9 "PaneDays$Gaze" "mark" "[I") := ⟨tk_1 _ (List.mem_of_getElem? (l := tables_1_1) (i := 207) rfl), Or.inl rfl⟩
theorem hw_714 : GW (Cond.methodLink RX1 53 yX1_markFilms) := ⟨tk_5 _ (List.mem_of_getElem? (l := tables_1_5) (i := 168) rfl), Or.inl rfl⟩
theorem hw_715 : GW (Cond.instanceMethod yX1_markFilms) := ⟨tk_5 _ (List.mem_of_getElem? (l := tables_1_5) (i := 170) rfl), Or.inl rfl⟩
theorem hw_716 : GW (Cond.selects RX1 yX1_markFilms yX1_markFilms) := ⟨tk_0 _ (List.mem_of_getElem? (l := k2_sels lw_privs) (i := 30) (by decide +kernel)), Or.inl rfl⟩
theorem hw_717 : GW (Cond.code yX1_markFilms cX1_markFilms 5 none) := ⟨tk_5 _ (List.mem_of_getElem? (l := tables_1_5) (i := 171) rfl), Or.inl rfl⟩
theorem hw_718 : GW (Cond.methodLink RX1 47 yJ7_fill_53178) := ⟨tk_5 _ (List.mem_of_getElem? (l := tables_1_5) (i := 172) rfl), Or.inl rfl⟩
theorem hw_719 : GW (u_lay RX1 TX1 0) := ⟨tk_1 _ (List.mem_of_getElem? (l := tables_1_1) (i := 209) rfl), Or.inl rfl⟩
theorem hw_720 : GW (u_lay RX1 TX1 1) := ⟨tk_1 _ (List.mem_of_getElem? (l := tables_1_1) (i := 211) rfl), Or.inl rfl⟩
theorem hw_721 : GW (u_lay RX1 TX1 2) := ⟨tk_1 _ (List.mem_of_getElem? (l := tables_1_1) (i := 213) rfl), Or.inl rfl⟩
theorem hw_722 : GW (u_lay RX1 TX1 3) := ⟨tk_1 _ (List.mem_of_getElem? (l := tables_1_1) (i := 215) rfl), Or.inl rfl⟩
theorem hw_723 : GW (Cond.codeWith yL_alike cL_alike 5 (some .int) [(0, 10, 13, 31)]) := ⟨tk_5 _ (List.mem_of_getElem? (l := tables_1_5) (i := 175) rfl), Or.inl rfl⟩
theorem hw_724 : GW (Cond.methodLink RL 77 yX10_alike) := ⟨tk_5 _ (List.mem_of_getElem? (l := tables_1_5) (i := 176) rfl), Or.inl rfl⟩
theorem hw_725 : GW (Cond.instanceMethod yX10_alike) := ⟨tk_5 _ (List.mem_of_getElem? (l := tables_1_5) (i := 177) rfl), Or.inl rfl⟩
theorem hw_726 : GW (Cond.selects RX10 yX10_alike yX10_alike) := ⟨tk_5 _ (List.mem_of_getElem? (l := tables_1_5) (i := 178) rfl), Or.inl rfl⟩
theorem hw_727 : GW (Cond.code yX10_alike cX10_alike 3 (some .int)) := ⟨tk_5 _ (List.mem_of_getElem? (l := tables_1_5) (i := 179) rfl), Or.inl rfl⟩
theorem hw_728 : GW (Cond.methodLink RX10 279 yX1_sameCells) := ⟨tk_5 _ (List.mem_of_getElem? (l := tables_1_5) (i := 180) rfl), Or.inl rfl⟩
theorem hw_729 : GW (Cond.instanceMethod yX1_sameCells) := ⟨tk_5 _ (List.mem_of_getElem? (l := tables_1_5) (i := 181) rfl), Or.inl rfl⟩
theorem hw_730 : GW (Cond.selects RX1 yX1_sameCells yX1_sameCells) := ⟨tk_5 _ (List.mem_of_getElem? (l := tables_1_5) (i := 182) rfl), Or.inl rfl⟩
theorem hw_731 : GW (Cond.code yX1_sameCells cX1_sameCells 7 (some .int)) := ⟨tk_5 _ (List.mem_of_getElem? (l := tables_1_5) (i := 183) rfl), Or.inl rfl⟩
theorem hw_732 : GW (Cond.codeWith yL_oldest cL_oldest 5 (some .int) [(0, 10, 13, 31), (0, 10, 17, 13)]) := ⟨tk_5 _ (List.mem_of_getElem? (l := tables_1_5) (i := 186) rfl), Or.inl rfl⟩
theorem hw_733 : GW (Cond.methodLink RL 80 yX10_oldest) := ⟨tk_5 _ (List.mem_of_getElem? (l := tables_1_5) (i := 187) rfl), Or.inl rfl⟩
theorem hw_734 : GW (Cond.instanceMethod yX10_oldest) := ⟨tk_5 _ (List.mem_of_getElem? (l := tables_1_5) (i := 188) rfl), Or.inl rfl⟩
theorem hw_735 : GW (Cond.selects RX10 yX10_oldest yX10_oldest) := ⟨tk_5 _ (List.mem_of_getElem? (l := tables_1_5) (i := 189) rfl), Or.inl rfl⟩
theorem hw_736 : GW (Cond.code yX10_oldest cX10_oldest 3 (some .int)) := ⟨tk_5 _ (List.mem_of_getElem? (l := tables_1_5) (i := 190) rfl), Or.inl rfl⟩
theorem hw_737 : GW (Cond.methodLink RX10 282 yX1_earliest) := ⟨tk_5 _ (List.mem_of_getElem? (l := tables_1_5) (i := 191) rfl), Or.inl rfl⟩
theorem hw_738 : GW (Cond.instanceMethod yX1_earliest) := ⟨tk_5 _ (List.mem_of_getElem? (l := tables_1_5) (i := 192) rfl), Or.inl rfl⟩
theorem hw_739 : GW (Cond.selects RX1 yX1_earliest yX1_earliest) := ⟨tk_5 _ (List.mem_of_getElem? (l := tables_1_5) (i := 193) rfl), Or.inl rfl⟩
theorem hw_740 : GW (Cond.code yX1_earliest cX1_earliest 4 (some .int)) := ⟨tk_5 _ (List.mem_of_getElem? (l := tables_1_5) (i := 194) rfl), Or.inl rfl⟩
theorem hw_741 : GW (Cond.methodLink RX10 285 yX1_latestHidden) := ⟨tk_5 _ (List.mem_of_getElem? (l := tables_1_5) (i := 195) rfl), Or.inl rfl⟩
theorem hw_742 : GW (Cond.instanceMethod yX1_latestHidden) := ⟨tk_5 _ (List.mem_of_getElem? (l := tables_1_5) (i := 196) rfl), Or.inl rfl⟩
theorem hw_743 : GW (Cond.selects RX1 yX1_latestHidden yX1_latestHidden) := ⟨tk_5 _ (List.mem_of_getElem? (l := tables_1_5) (i := 197) rfl), Or.inl rfl⟩
theorem hw_744 : GW (Cond.code yX1_latestHidden cX1_latestHidden 4 (some .int)) := ⟨tk_5 _ (List.mem_of_getElem? (l := tables_1_5) (i := 198) rfl), Or.inl rfl⟩
theorem hw_745 : GW (Cond.codeWith yL_patch cL_patch 5 (some .int) [(0, 10, 13, 31), (0, 10, 17, 13)]) := ⟨tk_5 _ (List.mem_of_getElem? (l := tables_1_5) (i := 201) rfl), Or.inl rfl⟩
theorem hw_746 : GW (Cond.methodLink RL 83 yX10_patch) := ⟨tk_5 _ (List.mem_of_getElem? (l := tables_1_5) (i := 202) rfl), Or.inl rfl⟩
theorem hw_747 : GW (Cond.instanceMethod yX10_patch) := ⟨tk_5 _ (List.mem_of_getElem? (l := tables_1_5) (i := 203) rfl), Or.inl rfl⟩
theorem hw_748 : GW (Cond.selects RX10 yX10_patch yX10_patch) := ⟨tk_5 _ (List.mem_of_getElem? (l := tables_1_5) (i := 204) rfl), Or.inl rfl⟩
theorem hw_749 : GW (Cond.code yX10_patch cX10_patch 3 (some .int)) := ⟨tk_5 _ (List.mem_of_getElem? (l := tables_1_5) (i := 205) rfl), Or.inl rfl⟩
theorem hw_750 : GW (Cond.fieldLink RX10 295 "PaneDays$Gaze" "patchCells" "I") := ⟨tk_1 _ (List.mem_of_getElem? (l := tables_1_1) (i := 204) rfl), Or.inl rfl⟩
theorem hw_751 : GW (Cond.fieldLink RX10 298 "PaneDays$Gaze" "patchDay" "I") := ⟨tk_1 _ (List.mem_of_getElem? (l := tables_1_1) (i := 206) rfl), Or.inl rfl⟩
theorem hw_752 : GW (Cond.methodLink RX10 291 yX1_findPatch) := ⟨tk_5 _ (List.mem_of_getElem? (l := tables_1_5) (i := 206) rfl), Or.inl rfl⟩
theorem hw_753 : GW (Cond.instanceMethod yX1_findPatch) := ⟨tk_5 _ (List.mem_of_getElem? (l := tables_1_5) (i := 207) rfl), Or.inl rfl⟩
theorem hw_754 : GW (Cond.selects RX1 yX1_findPatch yX1_findPatch) := ⟨tk_5 _ (List.mem_of_getElem? (l := tables_1_5) (i := 208) rfl), Or.inl rfl⟩
theorem hw_755 : GW (Cond.code yX1_findPatch cX1_findPatch 7 none) := ⟨tk_5 _ (List.mem_of_getElem? (l := tables_1_5) (i := 209) rfl), Or.inl rfl⟩
theorem hw_756 : GW (Cond.fieldLink RX1 57 "PaneDays$Gaze" "patchCells" "I") := ⟨tk_1 _ (List.mem_of_getElem? (l := tables_1_1) (i := 203) rfl), Or.inl rfl⟩
theorem hw_757 : GW (Cond.fieldLink RX1 61 "PaneDays$Gaze" "patchDay" "I") := ⟨tk_1 _ (List.mem_of_getElem? (l := tables_1_1) (i := 205) rfl), Or.inl rfl⟩
theorem hw_758 : GW (Cond.methodLink RX1 64 yX1_cellsShowing) := ⟨tk_5 _ (List.mem_of_getElem? (l := tables_1_5) (i := 210) rfl), Or.inl rfl⟩
theorem hw_759 : GW (Cond.methodLink RX1 67 yX1_spread) := ⟨tk_5 _ (List.mem_of_getElem? (l := tables_1_5) (i := 211) rfl), Or.inl rfl⟩
theorem hw_760 : GW (Cond.static yX1_spread) := ⟨tk_5 _ (List.mem_of_getElem? (l := tables_1_5) (i := 212) rfl), Or.inl rfl⟩
theorem hw_761 : GW (Cond.code yX1_spread cX1_spread 4 (some .int)) := ⟨tk_5 _ (List.mem_of_getElem? (l := tables_1_5) (i := 213) rfl), Or.inl rfl⟩
theorem hw_762 : GW (Cond.constant RX1 75 (-34953)) := ⟨tk_5 _ (List.mem_of_getElem? (l := tables_1_5) (i := 214) rfl), Or.inl rfl⟩
theorem hw_763 : GW (Cond.methodLink RX1 70 yJ6_bitCount_0f7a4) := ⟨tk_5 _ (List.mem_of_getElem? (l := tables_1_5) (i := 215) rfl), Or.inl rfl⟩
theorem hw_764 : GW (Cond.static yJ6_bitCount_0f7a4) := ⟨tk_5 _ (List.mem_of_getElem? (l := tables_1_5) (i := 216) rfl), Or.inl rfl⟩
theorem hw_765 : GW (Cond.initialized RJ6) := ⟨tk_1 _ (List.mem_of_getElem? (l := tables_1_1) (i := 26) rfl), Or.inl rfl⟩
theorem hw_766 : GW (Cond.code yJ6_bitCount_0f7a4 cJ6_bitCount_0f7a4 1 (some .int)) := ⟨tk_5 _ (List.mem_of_getElem? (l := tables_1_5) (i := 217) rfl), Or.inl rfl⟩
theorem hw_767 : GW (Cond.constant RJ6 265 (1431655765)) := ⟨tk_5 _ (List.mem_of_getElem? (l := tables_1_5) (i := 218) rfl), Or.inl rfl⟩
theorem hw_768 : GW (Cond.constant RJ6 266 (858993459)) := ⟨tk_5 _ (List.mem_of_getElem? (l := tables_1_5) (i := 219) rfl), Or.inl rfl⟩
theorem hw_769 : GW (Cond.constant RJ6 267 (252645135)) := ⟨tk_5 _ (List.mem_of_getElem? (l := tables_1_5) (i := 220) rfl), Or.inl rfl⟩
theorem hw_770 : GW (Cond.codeWith yL_tells cL_tells 4 (some .int) [(0, 9, 12, 31)]) := ⟨tk_5 _ (List.mem_of_getElem? (l := tables_1_5) (i := 223) rfl), Or.inl rfl⟩
theorem hw_771 : GW (Cond.methodLink RL 86 yX10_tells) := ⟨tk_5 _ (List.mem_of_getElem? (l := tables_1_5) (i := 224) rfl), Or.inl rfl⟩
theorem hw_772 : GW (Cond.instanceMethod yX10_tells) := ⟨tk_5 _ (List.mem_of_getElem? (l := tables_1_5) (i := 225) rfl), Or.inl rfl⟩
theorem hw_773 : GW (Cond.selects RX10 yX10_tells yX10_tells) := ⟨tk_5 _ (List.mem_of_getElem? (l := tables_1_5) (i := 226) rfl), Or.inl rfl⟩
theorem hw_774 : GW (Cond.code yX10_tells cX10_tells 2 (some .int)) := ⟨tk_5 _ (List.mem_of_getElem? (l := tables_1_5) (i := 227) rfl), Or.inl rfl⟩
theorem hw_775 : GW (Cond.methodLink RX10 301 yX0_depths) := ⟨tk_5 _ (List.mem_of_getElem? (l := tables_1_5) (i := 228) rfl), Or.inl rfl⟩
theorem hw_776 : GW (Cond.instanceMethod yX0_depths) := ⟨tk_5 _ (List.mem_of_getElem? (l := tables_1_5) (i := 229) rfl), Or.inl rfl⟩
theorem hw_777 : GW (Cond.selects RX0 yX0_depths yX0_depths) := ⟨tk_5 _ (List.mem_of_getElem? (l := tables_1_5) (i := 230) rfl), Or.inl rfl⟩
theorem hw_778 : GW (Cond.code yX0_depths cX0_depths 6 (some .int)) := ⟨tk_5 _ (List.mem_of_getElem? (l := tables_1_5) (i := 231) rfl), Or.inl rfl⟩
theorem hw_779 : GW (Cond.constant RX0 59 (2147483647)) := ⟨tk_5 _ (List.mem_of_getElem? (l := tables_1_5) (i := 232) rfl), Or.inl rfl⟩
theorem hw_780 : GW (Cond.methodLink RX0 60 yX0_depthsShowing) := ⟨tk_5 _ (List.mem_of_getElem? (l := tables_1_5) (i := 233) rfl), Or.inl rfl⟩
theorem hw_781 : GW (Cond.static yX0_depthsShowing) := ⟨tk_5 _ (List.mem_of_getElem? (l := tables_1_5) (i := 234) rfl), Or.inl rfl⟩
theorem hw_782 : GW (Cond.code yX0_depthsShowing cX0_depthsShowing 4 (some .int)) := ⟨tk_5 _ (List.mem_of_getElem? (l := tables_1_5) (i := 235) rfl), Or.inl rfl⟩
theorem hw_783 : GW (Cond.fieldLink RX0 64 "PaneDays$Glass" "depth" "[I") := ⟨tk_2 _ (List.mem_of_getElem? (l := tables_1_2) (i := 11) rfl), Or.inl rfl⟩
theorem hw_784 : GW (Cond.methodLink RX0 69 yX2_outsideOf) := ⟨tk_5 _ (List.mem_of_getElem? (l := tables_1_5) (i := 236) rfl), Or.inl rfl⟩
theorem hw_785 : GW (Cond.codeWith yL_look cL_look 5 (some .int) [(0, 10, 13, 31), (0, 10, 17, 13)]) := ⟨tk_5 _ (List.mem_of_getElem? (l := tables_1_5) (i := 239) rfl), Or.inl rfl⟩
theorem hw_786 : GW (Cond.methodLink RL 89 yX10_look) := ⟨tk_6 _ (List.mem_of_getElem? (l := tables_1_6) (i := 0) rfl), Or.inl rfl⟩
theorem hw_787 : GW (Cond.instanceMethod yX10_look) := ⟨tk_6 _ (List.mem_of_getElem? (l := tables_1_6) (i := 1) rfl), Or.inl rfl⟩
theorem hw_788 : GW (Cond.selects RX10 yX10_look yX10_look) := ⟨tk_6 _ (List.mem_of_getElem? (l := tables_1_6) (i := 2) rfl), Or.inl rfl⟩
theorem hw_789 : GW (Cond.code yX10_look cX10_look 3 (some .int)) := ⟨tk_6 _ (List.mem_of_getElem? (l := tables_1_6) (i := 3) rfl), Or.inl rfl⟩
theorem hw_790 : GW (Cond.methodLink RX10 304 yX0_nextLook) := ⟨tk_6 _ (List.mem_of_getElem? (l := tables_1_6) (i := 4) rfl), Or.inl rfl⟩
theorem hw_791 : GW (Cond.instanceMethod yX0_nextLook) := ⟨tk_6 _ (List.mem_of_getElem? (l := tables_1_6) (i := 5) rfl), Or.inl rfl⟩
theorem hw_792 : GW (Cond.selects RX0 yX0_nextLook yX0_nextLook) := ⟨tk_6 _ (List.mem_of_getElem? (l := tables_1_6) (i := 6) rfl), Or.inl rfl⟩
theorem hw_793 : GW (Cond.code yX0_nextLook cX0_nextLook 11 (some .int)) := ⟨tk_6 _ (List.mem_of_getElem? (l := tables_1_6) (i := 7) rfl), Or.inl rfl⟩
theorem hw_794 : GW (Cond.methodLink RX0 72 yX0_depths) := ⟨tk_6 _ (List.mem_of_getElem? (l := tables_1_6) (i := 8) rfl), Or.inl rfl⟩
theorem hw_795 : GW (Cond.methodLink RX0 75 yX0_leftAtWorst) := ⟨tk_6 _ (List.mem_of_getElem? (l := tables_1_6) (i := 9) rfl), Or.inl rfl⟩
theorem hw_796 : GW (Cond.static yX0_leftAtWorst) := ⟨tk_6 _ (List.mem_of_getElem? (l := tables_1_6) (i := 10) rfl), Or.inl rfl⟩
theorem hw_797 : GW (Cond.code yX0_leftAtWorst cX0_leftAtWorst 4 (some .int)) := ⟨tk_6 _ (List.mem_of_getElem? (l := tables_1_6) (i := 11) rfl), Or.inl rfl⟩
theorem hw_798 : GW (Cond.methodLink RX0 84 Lib.Math.max.name) := ⟨tk_6 _ (List.mem_of_getElem? (l := tables_1_6) (i := 13) rfl), Or.inl rfl⟩
theorem hw_799 : GW (Cond.methodLink RX0 78 yJ6_bitCount_0f7a4) := ⟨tk_6 _ (List.mem_of_getElem? (l := tables_1_6) (i := 12) rfl), Or.inl rfl⟩
theorem hw_800 : GW (Cond.codeWith yL_cover cL_cover 7 (some .int) [(0, 14, 17, 31), (0, 14, 21, 13)]) := ⟨tk_6 _ (List.mem_of_getElem? (l := tables_1_6) (i := 16) rfl), Or.inl rfl⟩
theorem hw_801 : GW (Cond.methodLink RL 92 yX10_cover) := ⟨tk_6 _ (List.mem_of_getElem? (l := tables_1_6) (i := 17) rfl), Or.inl rfl⟩
theorem hw_802 : GW (Cond.instanceMethod yX10_cover) := ⟨tk_6 _ (List.mem_of_getElem? (l := tables_1_6) (i := 18) rfl), Or.inl rfl⟩
theorem hw_803 : GW (Cond.selects RX10 yX10_cover yX10_cover) := ⟨tk_6 _ (List.mem_of_getElem? (l := tables_1_6) (i := 19) rfl), Or.inl rfl⟩
theorem hw_804 : GW (Cond.code yX10_cover cX10_cover 5 (some .int)) := ⟨tk_6 _ (List.mem_of_getElem? (l := tables_1_6) (i := 20) rfl), Or.inl rfl⟩
theorem hw_805 : GW (Cond.methodLink RX10 308 yX1_fewestCircles) := ⟨tk_6 _ (List.mem_of_getElem? (l := tables_1_6) (i := 21) rfl), Or.inl rfl⟩
theorem hw_806 : GW (Cond.instanceMethod yX1_fewestCircles) := ⟨tk_6 _ (List.mem_of_getElem? (l := tables_1_6) (i := 22) rfl), Or.inl rfl⟩
theorem hw_807 : GW (Cond.selects RX1 yX1_fewestCircles yX1_fewestCircles) := ⟨tk_6 _ (List.mem_of_getElem? (l := tables_1_6) (i := 23) rfl), Or.inl rfl⟩
theorem hw_808 : GW (Cond.code yX1_fewestCircles cX1_fewestCircles 7 (some .int)) := ⟨tk_6 _ (List.mem_of_getElem? (l := tables_1_6) (i := 24) rfl), Or.inl rfl⟩
theorem hw_809 : GW (Cond.fieldLink RX1 15 "PaneDays$Gaze" "circles" "[I") := ⟨tk_1 _ (List.mem_of_getElem? (l := tables_1_1) (i := 208) rfl), Or.inl rfl⟩
theorem hw_810 : GW (Cond.methodLink RX1 76 yX1_circleAt) := ⟨tk_6 _ (List.mem_of_getElem? (l := tables_1_6) (i := 25) rfl), Or.inl rfl⟩
theorem hw_811 : GW (Cond.methodLink RX1 80 yX1_pickCircles) := ⟨tk_6 _ (List.mem_of_getElem? (l := tables_1_6) (i := 26) rfl), Or.inl rfl⟩
theorem hw_812 : GW (Cond.instanceMethod yX1_pickCircles) := ⟨tk_6 _ (List.mem_of_getElem? (l := tables_1_6) (i := 28) rfl), Or.inl rfl⟩
theorem hw_813 : GW (Cond.selects RX1 yX1_pickCircles yX1_pickCircles) := ⟨tk_0 _ (List.mem_of_getElem? (l := k2_sels lw_privs) (i := 31) (by decide +kernel)), Or.inl rfl⟩
theorem hw_814 : GW (Cond.code yX1_pickCircles cX1_pickCircles 8 (some .int)) := ⟨tk_6 _ (List.mem_of_getElem? (l := tables_1_6) (i := 29) rfl), Or.inl rfl⟩
theorem hw_815 : GW (Cond.codeWith yL_game cL_game 6 (some .int) [(0, 12, 15, 31), (0, 12, 19, 13)]) := ⟨tk_6 _ (List.mem_of_getElem? (l := tables_1_6) (i := 32) rfl), Or.inl rfl⟩
theorem hw_816 : GW (Cond.methodLink RL 95 yX10_game) := ⟨tk_6 _ (List.mem_of_getElem? (l := tables_1_6) (i := 33) rfl), Or.inl rfl⟩
theorem hw_817 : GW (Cond.instanceMethod yX10_game) := ⟨tk_6 _ (List.mem_of_getElem? (l := tables_1_6) (i := 34) rfl), Or.inl rfl⟩
theorem hw_818 : GW (Cond.selects RX10 yX10_game yX10_game) := ⟨tk_6 _ (List.mem_of_getElem? (l := tables_1_6) (i := 35) rfl), Or.inl rfl⟩
theorem hw_819 : GW (Cond.code yX10_game cX10_game 5 (some .int)) := ⟨tk_6 _ (List.mem_of_getElem? (l := tables_1_6) (i := 36) rfl), Or.inl rfl⟩
theorem hw_820 : GW (Cond.methodLink RX10 312 yX1_winningCells) := ⟨tk_6 _ (List.mem_of_getElem? (l := tables_1_6) (i := 37) rfl), Or.inl rfl⟩
theorem hw_821 : GW (Cond.instanceMethod yX1_winningCells) := ⟨tk_6 _ (List.mem_of_getElem? (l := tables_1_6) (i := 38) rfl), Or.inl rfl⟩
theorem hw_822 : GW (Cond.selects RX1 yX1_winningCells yX1_winningCells) := ⟨tk_6 _ (List.mem_of_getElem? (l := tables_1_6) (i := 39) rfl), Or.inl rfl⟩
theorem hw_823 : GW (Cond.code yX1_winningCells cX1_winningCells 10 (some .int)) := ⟨tk_6 _ (List.mem_of_getElem? (l := tables_1_6) (i := 40) rfl), Or.inl rfl⟩
theorem hw_824 : GW (Cond.codeWith yL_round cL_round 5 (some .int) [(0, 10, 13, 13)]) := ⟨tk_6 _ (List.mem_of_getElem? (l := tables_1_6) (i := 43) rfl), Or.inl rfl⟩
theorem hw_825 : GW (Cond.methodLink RL 98 yX10_round) := ⟨tk_6 _ (List.mem_of_getElem? (l := tables_1_6) (i := 44) rfl), Or.inl rfl⟩
theorem hw_826 : GW (Cond.instanceMethod yX10_round) := ⟨tk_6 _ (List.mem_of_getElem? (l := tables_1_6) (i := 45) rfl), Or.inl rfl⟩
theorem hw_827 : GW (Cond.selects RX10 yX10_round yX10_round) := ⟨tk_6 _ (List.mem_of_getElem? (l := tables_1_6) (i := 46) rfl), Or.inl rfl⟩
theorem hw_828 : GW (Cond.code yX10_round cX10_round 3 (some .int)) := ⟨tk_6 _ (List.mem_of_getElem? (l := tables_1_6) (i := 47) rfl), Or.inl rfl⟩
theorem hw_829 : GW (Cond.fieldLink RX10 56 "PaneDays" "rounds" "LPaneDays$Rounds;") := ⟨tk_2 _ (List.mem_of_getElem? (l := tables_1_2) (i := 147) rfl), Or.inl rfl⟩
theorem hw_830 : GW (Cond.fieldLink RX10 322 "PaneDays$Rounds" "fewest" "I") := ⟨tk_1 _ (List.mem_of_getElem? (l := tables_1_1) (i := 225) rfl), Or.inl rfl⟩
theorem hw_831 : GW (Cond.fieldLink RX10 325 "PaneDays$Rounds" "bestRow" "I") := ⟨tk_1 _ (List.mem_of_getElem? (l := tables_1_1) (i := 227) rfl), Or.inl rfl⟩
theorem hw_832 : GW (Cond.methodLink RX10 315 yX10_needOrders) := ⟨tk_6 _ (List.mem_of_getElem? (l := tables_1_6) (i := 48) rfl), Or.inl rfl⟩
theorem hw_833 : GW (Cond.instanceMethod yX10_needOrders) := ⟨tk_6 _ (List.mem_of_getElem? (l := tables_1_6) (i := 50) rfl), Or.inl rfl⟩
theorem hw_834 : GW (Cond.selects RX10 yX10_needOrders yX10_needOrders) := ⟨tk_0 _ (List.mem_of_getElem? (l := k2_sels lw_privs) (i := 32) (by decide +kernel)), Or.inl rfl⟩
theorem hw_835 : GW (Cond.code yX10_needOrders cX10_needOrders 2 none) := ⟨tk_6 _ (List.mem_of_getElem? (l := tables_1_6) (i := 51) rfl), Or.inl rfl⟩
theorem hw_836 : GW (Cond.methodLink RX10 318 yX5_walkFreely) := ⟨tk_6 _ (List.mem_of_getElem? (l := tables_1_6) (i := 52) rfl), Or.inl rfl⟩
theorem hw_837 : GW (Cond.instanceMethod yX5_walkFreely) := ⟨tk_6 _ (List.mem_of_getElem? (l := tables_1_6) (i := 53) rfl), Or.inl rfl⟩
theorem hw_838 : GW (Cond.selects RX5 yX5_walkFreely yX5_walkFreely) := ⟨tk_6 _ (List.mem_of_getElem? (l := tables_1_6) (i := 54) rfl), Or.inl rfl⟩
theorem hw_839 : GW (Cond.initialized RX5) := ⟨tk_1 _ (List.mem_of_getElem? (l := tables_1_1) (i := 8) rfl), Or.inl rfl⟩
theorem hw_840 : GW (Cond.code yX5_walkFreely cX5_walkFreely 3 none) := ⟨tk_6 _ (List.mem_of_getElem? (l := tables_1_6) (i := 55) rfl), Or.inl rfl⟩
theorem hw_841 : GW (Cond.fieldLink RX5 9 "PaneDays$Rounds" "latest" "[I") := ⟨tk_1 _ (List.mem_of_getElem? (l := tables_1_1) (i := 228) rfl), Or.inl rfl⟩
theorem hw_842 : GW (Cond.constant RX5 15 (1000000)) := ⟨tk_6 _ (List.mem_of_getElem? (l := tables_1_6) (i := 56) rfl), Or.inl rfl⟩
theorem hw_843 : GW (Cond.methodLink RX5 16 yJ7_fill_53178) := ⟨tk_6 _ (List.mem_of_getElem? (l := tables_1_6) (i := 57) rfl), Or.inl rfl⟩
theorem hw_844 : GW (Cond.methodLink RX5 22 yX5_walk) := ⟨tk_6 _ (List.mem_of_getElem? (l := tables_1_6) (i := 58) rfl), Or.inl rfl⟩
theorem hw_845 : GW (Cond.instanceMethod yX5_walk) := ⟨tk_6 _ (List.mem_of_getElem? (l := tables_1_6) (i := 60) rfl), Or.inl rfl⟩
theorem hw_846 : GW (Cond.selects RX5 yX5_walk yX5_walk) := ⟨tk_0 _ (List.mem_of_getElem? (l := k2_sels lw_privs) (i := 33) (by decide +kernel)), Or.inl rfl⟩
theorem hw_847 : GW (Cond.code yX5_walk cX5_walk 5 none) := ⟨tk_6 _ (List.mem_of_getElem? (l := tables_1_6) (i := 61) rfl), Or.inl rfl⟩
theorem hw_848 : GW (Cond.fieldLink RX5 41 "PaneDays$Rounds" "fewest" "I") := ⟨tk_1 _ (List.mem_of_getElem? (l := tables_1_1) (i := 224) rfl), Or.inl rfl⟩
theorem hw_849 : GW (Cond.fieldLink RX5 44 "PaneDays$Rounds" "bestRow" "I") := ⟨tk_1 _ (List.mem_of_getElem? (l := tables_1_1) (i := 226) rfl), Or.inl rfl⟩
theorem hw_850 : GW (Cond.fieldLink RX5 26 "PaneDays$Street" "orders" "I") := ⟨tk_1 _ (List.mem_of_getElem? (l := tables_1_1) (i := 119) rfl), Or.inl rfl⟩
theorem hw_851 : GW (Cond.methodLink RX5 32 yX6_part) := ⟨tk_6 _ (List.mem_of_getElem? (l := tables_1_6) (i := 62) rfl), Or.inl rfl⟩
theorem hw_852 : GW (Cond.methodLink RX5 47 yX5_goOn) := ⟨tk_6 _ (List.mem_of_getElem? (l := tables_1_6) (i := 63) rfl), Or.inl rfl⟩
theorem hw_853 : GW (Cond.instanceMethod yX5_goOn) := ⟨tk_6 _ (List.mem_of_getElem? (l := tables_1_6) (i := 65) rfl), Or.inl rfl⟩
theorem hw_854 : GW (Cond.selects RX5 yX5_goOn yX5_goOn) := ⟨tk_0 _ (List.mem_of_getElem? (l := k2_sels lw_privs) (i := 34) (by decide +kernel)), Or.inl rfl⟩
theorem hw_855 : GW (Cond.code yX5_goOn cX5_goOn 11 none) := ⟨tk_6 _ (List.mem_of_getElem? (l := tables_1_6) (i := 66) rfl), Or.inl rfl⟩
theorem hw_856 : GW (Cond.fieldLink RX5 51 "PaneDays$Street" "along" "[I") := ⟨tk_1 _ (List.mem_of_getElem? (l := tables_1_1) (i := 104) rfl), Or.inl rfl⟩
theorem hw_857 : GW (Cond.methodLink RX5 54 Lib.Math.abs.name) := ⟨tk_6 _ (List.mem_of_getElem? (l := tables_1_6) (i := 67) rfl), Or.inl rfl⟩
theorem hw_858 : GW (Cond.fieldLink RX5 58 "PaneDays$Street" "floor" "[I") := ⟨tk_1 _ (List.mem_of_getElem? (l := tables_1_1) (i := 108) rfl), Or.inl rfl⟩
theorem hw_859 : GW (Cond.fieldLink RX5 61 "PaneDays$Street" "stepMinutes" "I") := ⟨tk_1 _ (List.mem_of_getElem? (l := tables_1_1) (i := 124) rfl), Or.inl rfl⟩
theorem hw_860 : GW (Cond.fieldLink RX5 64 "PaneDays$Street" "floorMinutes" "I") := ⟨tk_1 _ (List.mem_of_getElem? (l := tables_1_1) (i := 126) rfl), Or.inl rfl⟩
theorem hw_861 : GW (u_lay RX5 TX5 0) := ⟨tk_1 _ (List.mem_of_getElem? (l := tables_1_1) (i := 229) rfl), Or.inl rfl⟩
theorem hw_862 : GW (u_lay RX5 TX5 1) := ⟨tk_1 _ (List.mem_of_getElem? (l := tables_1_1) (i := 231) rfl), Or.inl rfl⟩
theorem hw_863 : GW (u_lay RX5 TX5 2) := ⟨tk_1 _ (List.mem_of_getElem? (l := tables_1_1) (i := 233) rfl), Or.inl rfl⟩
theorem hw_864 : GW (Cond.codeWith yL_by cL_by 5 (some .int) [(0, 17, 20, 13)]) := ⟨tk_6 _ (List.mem_of_getElem? (l := tables_1_6) (i := 70) rfl), Or.inl rfl⟩
theorem hw_865 : GW (Cond.methodLink RL 101 yX10_by) := ⟨tk_6 _ (List.mem_of_getElem? (l := tables_1_6) (i := 71) rfl), Or.inl rfl⟩
theorem hw_866 : GW (Cond.instanceMethod yX10_by) := ⟨tk_6 _ (List.mem_of_getElem? (l := tables_1_6) (i := 72) rfl), Or.inl rfl⟩
theorem hw_867 : GW (Cond.selects RX10 yX10_by yX10_by) := ⟨tk_6 _ (List.mem_of_getElem? (l := tables_1_6) (i := 73) rfl), Or.inl rfl⟩
theorem hw_868 : GW (Cond.code yX10_by cX10_by 3 (some .boolean)) := ⟨tk_6 _ (List.mem_of_getElem? (l := tables_1_6) (i := 74) rfl), Or.inl rfl⟩
theorem hw_869 : GW (Cond.methodLink RX10 328 yX5_walkInTime) := ⟨tk_6 _ (List.mem_of_getElem? (l := tables_1_6) (i := 75) rfl), Or.inl rfl⟩
theorem hw_870 : GW (Cond.instanceMethod yX5_walkInTime) := ⟨tk_6 _ (List.mem_of_getElem? (l := tables_1_6) (i := 76) rfl), Or.inl rfl⟩
theorem hw_871 : GW (Cond.selects RX5 yX5_walkInTime yX5_walkInTime) := ⟨tk_6 _ (List.mem_of_getElem? (l := tables_1_6) (i := 77) rfl), Or.inl rfl⟩
theorem hw_872 : GW (Cond.code yX5_walkInTime cX5_walkInTime 8 none) := ⟨tk_6 _ (List.mem_of_getElem? (l := tables_1_6) (i := 78) rfl), Or.inl rfl⟩
theorem hw_873 : GW (Cond.methodLink RX5 36 Lib.Math.min.name) := ⟨tk_6 _ (List.mem_of_getElem? (l := tables_1_6) (i := 79) rfl), Or.inl rfl⟩
theorem hw_874 : GW (Cond.codeWith yL_share cL_share 7 (some .int) [(0, 14, 17, 37), (0, 14, 21, 31), (0, 14, 25, 13)]) := ⟨tk_6 _ (List.mem_of_getElem? (l := tables_1_6) (i := 82) rfl), Or.inl rfl⟩
theorem hw_875 : GW (Cond.methodLink RL 105 yX10_share) := ⟨tk_6 _ (List.mem_of_getElem? (l := tables_1_6) (i := 83) rfl), Or.inl rfl⟩
theorem hw_876 : GW (Cond.instanceMethod yX10_share) := ⟨tk_6 _ (List.mem_of_getElem? (l := tables_1_6) (i := 84) rfl), Or.inl rfl⟩
theorem hw_877 : GW (Cond.selects RX10 yX10_share yX10_share) := ⟨tk_6 _ (List.mem_of_getElem? (l := tables_1_6) (i := 85) rfl), Or.inl rfl⟩
theorem hw_878 : GW (Cond.code yX10_share cX10_share 6 (some .int)) := ⟨tk_6 _ (List.mem_of_getElem? (l := tables_1_6) (i := 86) rfl), Or.inl rfl⟩
theorem hw_879 : GW (Cond.methodLink RX10 332 yX1_shareOf) := ⟨tk_6 _ (List.mem_of_getElem? (l := tables_1_6) (i := 87) rfl), Or.inl rfl⟩
theorem hw_880 : GW (Cond.instanceMethod yX1_shareOf) := ⟨tk_6 _ (List.mem_of_getElem? (l := tables_1_6) (i := 88) rfl), Or.inl rfl⟩
theorem hw_881 : GW (Cond.selects RX1 yX1_shareOf yX1_shareOf) := ⟨tk_6 _ (List.mem_of_getElem? (l := tables_1_6) (i := 89) rfl), Or.inl rfl⟩
theorem hw_882 : GW (Cond.code yX1_shareOf cX1_shareOf 9 (some .int)) := ⟨tk_6 _ (List.mem_of_getElem? (l := tables_1_6) (i := 90) rfl), Or.inl rfl⟩
theorem hw_883 : GW (Cond.methodLink RX1 84 yX2_filmsOn) := ⟨tk_6 _ (List.mem_of_getElem? (l := tables_1_6) (i := 91) rfl), Or.inl rfl⟩
theorem hw_884 : GW (Cond.codeWith yL_ahead cL_ahead 6 (some .int) [(0, 12, 15, 31), (0, 12, 19, 13)]) := ⟨tk_6 _ (List.mem_of_getElem? (l := tables_1_6) (i := 94) rfl), Or.inl rfl⟩
theorem hw_885 : GW (Cond.methodLink RL 108 yX10_ahead) := ⟨tk_6 _ (List.mem_of_getElem? (l := tables_1_6) (i := 95) rfl), Or.inl rfl⟩
theorem hw_886 : GW (Cond.instanceMethod yX10_ahead) := ⟨tk_6 _ (List.mem_of_getElem? (l := tables_1_6) (i := 96) rfl), Or.inl rfl⟩
theorem hw_887 : GW (Cond.selects RX10 yX10_ahead yX10_ahead) := ⟨tk_6 _ (List.mem_of_getElem? (l := tables_1_6) (i := 97) rfl), Or.inl rfl⟩
theorem hw_888 : GW (Cond.code yX10_ahead cX10_ahead 5 (some .int)) := ⟨tk_6 _ (List.mem_of_getElem? (l := tables_1_6) (i := 98) rfl), Or.inl rfl⟩
theorem hw_889 : GW (Cond.fieldLink RX10 339 "PaneDays$Weather" "then" "LPaneDays$Glass;") := ⟨tk_2 _ (List.mem_of_getElem? (l := tables_1_2) (i := 68) rfl), Or.inl rfl⟩
theorem hw_890 : GW (Cond.methodLink RX10 335 yX8_foresee) := ⟨tk_6 _ (List.mem_of_getElem? (l := tables_1_6) (i := 99) rfl), Or.inl rfl⟩
theorem hw_891 : GW (Cond.instanceMethod yX8_foresee) := ⟨tk_6 _ (List.mem_of_getElem? (l := tables_1_6) (i := 100) rfl), Or.inl rfl⟩
theorem hw_892 : GW (Cond.selects RX8 yX8_foresee yX8_foresee) := ⟨tk_6 _ (List.mem_of_getElem? (l := tables_1_6) (i := 101) rfl), Or.inl rfl⟩
theorem hw_893 : GW (Cond.code yX8_foresee cX8_foresee 9 none) := ⟨tk_6 _ (List.mem_of_getElem? (l := tables_1_6) (i := 102) rfl), Or.inl rfl⟩
theorem hw_894 : GW (Cond.fieldLink RX8 12 "PaneDays$Weather" "then" "LPaneDays$Glass;") := ⟨tk_2 _ (List.mem_of_getElem? (l := tables_1_2) (i := 67) rfl), Or.inl rfl⟩
theorem hw_895 : GW (Cond.fieldLink RX8 24 "PaneDays$Weather" "washedBy" "[I") := ⟨tk_2 _ (List.mem_of_getElem? (l := tables_1_2) (i := 76) rfl), Or.inl rfl⟩
theorem hw_896 : GW (Cond.methodLink RX8 98 yX2_copy) := ⟨tk_6 _ (List.mem_of_getElem? (l := tables_1_6) (i := 103) rfl), Or.inl rfl⟩
theorem hw_897 : GW (Cond.codeWith yL_decade cL_decade 7 (some .int) [(0, 14, 17, 13)]) := ⟨tk_6 _ (List.mem_of_getElem? (l := tables_1_6) (i := 106) rfl), Or.inl rfl⟩
theorem hw_898 : GW (Cond.methodLink RL 111 yX10_decade) := ⟨tk_6 _ (List.mem_of_getElem? (l := tables_1_6) (i := 107) rfl), Or.inl rfl⟩
theorem hw_899 : GW (Cond.instanceMethod yX10_decade) := ⟨tk_6 _ (List.mem_of_getElem? (l := tables_1_6) (i := 108) rfl), Or.inl rfl⟩
theorem hw_900 : GW (Cond.selects RX10 yX10_decade yX10_decade) := ⟨tk_6 _ (List.mem_of_getElem? (l := tables_1_6) (i := 109) rfl), Or.inl rfl⟩
theorem hw_901 : GW (Cond.code yX10_decade cX10_decade 5 (some .int)) := ⟨tk_6 _ (List.mem_of_getElem? (l := tables_1_6) (i := 110) rfl), Or.inl rfl⟩
theorem hw_902 : GW (Cond.fieldLink RX10 345 "PaneDays$Glass" "broken" "I") := ⟨tk_2 _ (List.mem_of_getElem? (l := tables_1_2) (i := 25) rfl), Or.inl rfl⟩
theorem hw_903 : GW (Cond.fieldLink RX10 352 "PaneDays$Weather" "filmsLeft" "I") := ⟨tk_2 _ (List.mem_of_getElem? (l := tables_1_2) (i := 70) rfl), Or.inl rfl⟩
theorem hw_904 : GW (Cond.fieldLink RX10 355 "PaneDays$Weather" "brokenThen" "I") := ⟨tk_2 _ (List.mem_of_getElem? (l := tables_1_2) (i := 72) rfl), Or.inl rfl⟩
theorem hw_905 : GW (Cond.fieldLink RX10 363 "PaneDays$Weather" "washedMore" "I") := ⟨tk_2 _ (List.mem_of_getElem? (l := tables_1_2) (i := 74) rfl), Or.inl rfl⟩
theorem hw_906 : GW (Cond.methodLink RX10 342 yX10_needDecade) := ⟨tk_6 _ (List.mem_of_getElem? (l := tables_1_6) (i := 111) rfl), Or.inl rfl⟩
theorem hw_907 : GW (Cond.instanceMethod yX10_needDecade) := ⟨tk_6 _ (List.mem_of_getElem? (l := tables_1_6) (i := 113) rfl), Or.inl rfl⟩
theorem hw_908 : GW (Cond.selects RX10 yX10_needDecade yX10_needDecade) := ⟨tk_0 _ (List.mem_of_getElem? (l := k2_sels lw_privs) (i := 35) (by decide +kernel)), Or.inl rfl⟩
theorem hw_909 : GW (Cond.code yX10_needDecade cX10_needDecade 3 none) := ⟨tk_6 _ (List.mem_of_getElem? (l := tables_1_6) (i := 114) rfl), Or.inl rfl⟩
theorem hw_910 : GW (Cond.methodLink RX10 348 yX8_drawDecade) := ⟨tk_6 _ (List.mem_of_getElem? (l := tables_1_6) (i := 115) rfl), Or.inl rfl⟩
theorem hw_911 : GW (Cond.instanceMethod yX8_drawDecade) := ⟨tk_6 _ (List.mem_of_getElem? (l := tables_1_6) (i := 116) rfl), Or.inl rfl⟩
theorem hw_912 : GW (Cond.selects RX8 yX8_drawDecade yX8_drawDecade) := ⟨tk_6 _ (List.mem_of_getElem? (l := tables_1_6) (i := 117) rfl), Or.inl rfl⟩
theorem hw_913 : GW (Cond.code yX8_drawDecade cX8_drawDecade 9 none) := ⟨tk_6 _ (List.mem_of_getElem? (l := tables_1_6) (i := 118) rfl), Or.inl rfl⟩
theorem hw_914 : GW (Cond.fieldLink RX8 102 "PaneDays$Weather" "brokenThen" "I") := ⟨tk_2 _ (List.mem_of_getElem? (l := tables_1_2) (i := 71) rfl), Or.inl rfl⟩
theorem hw_915 : GW (Cond.fieldLink RX8 105 "PaneDays$Weather" "washedMore" "I") := ⟨tk_2 _ (List.mem_of_getElem? (l := tables_1_2) (i := 73) rfl), Or.inl rfl⟩
theorem hw_916 : GW (Cond.constant RX8 108 (1103515245)) := ⟨tk_6 _ (List.mem_of_getElem? (l := tables_1_6) (i := 119) rfl), Or.inl rfl⟩
theorem hw_917 : GW (Cond.fieldLink RX8 109 "PaneDays$Weather" "filmsLeft" "I") := ⟨tk_2 _ (List.mem_of_getElem? (l := tables_1_2) (i := 69) rfl), Or.inl rfl⟩
theorem hw_918 : GW (Cond.methodLink RX8 112 yX2_filmsOn) := ⟨tk_6 _ (List.mem_of_getElem? (l := tables_1_6) (i := 120) rfl), Or.inl rfl⟩
theorem hw_919 : GW (Cond.methodLink RX10 358 yJ6_bitCount_0f7a4) := ⟨tk_6 _ (List.mem_of_getElem? (l := tables_1_6) (i := 121) rfl), Or.inl rfl⟩
theorem hw_920 : GW (Cond.codeWith yL_span cL_span 9 (some .int) [(0, 18, 21, 13)]) := ⟨tk_6 _ (List.mem_of_getElem? (l := tables_1_6) (i := 124) rfl), Or.inl rfl⟩
theorem hw_921 : GW (Cond.methodLink RL 114 yX10_span) := ⟨tk_6 _ (List.mem_of_getElem? (l := tables_1_6) (i := 125) rfl), Or.inl rfl⟩
theorem hw_922 : GW (Cond.instanceMethod yX10_span) := ⟨tk_6 _ (List.mem_of_getElem? (l := tables_1_6) (i := 126) rfl), Or.inl rfl⟩
theorem hw_923 : GW (Cond.selects RX10 yX10_span yX10_span) := ⟨tk_6 _ (List.mem_of_getElem? (l := tables_1_6) (i := 127) rfl), Or.inl rfl⟩
theorem hw_924 : GW (Cond.code yX10_span cX10_span 11 (some .int)) := ⟨tk_6 _ (List.mem_of_getElem? (l := tables_1_6) (i := 128) rfl), Or.inl rfl⟩
theorem hw_925 : GW (Cond.methodLink RX10 366 Lib.Math.min.name) := ⟨tk_6 _ (List.mem_of_getElem? (l := tables_1_6) (i := 129) rfl), Or.inl rfl⟩
theorem hw_926 : GW (Cond.methodLink RX10 371 Lib.Math.max.name) := ⟨tk_6 _ (List.mem_of_getElem? (l := tables_1_6) (i := 130) rfl), Or.inl rfl⟩
theorem hw_927 : GW (Cond.code yX11_feed cX11_feed 8 (some .int)) := ⟨tk_7 _ (List.mem_of_getElem? (l := tables_1_7) (i := 50) rfl), Or.inl rfl⟩
theorem hw_928 : GW (Cond.fieldLink RX11 85 "PaneDaysModel" "thrown" "I") := ⟨tk_6 _ (List.mem_of_getElem? (l := tables_1_6) (i := 150) rfl), Or.inl rfl⟩
theorem hw_929 : GW (Cond.fieldLink RX11 88 "PaneDaysModel" "tape" "I") := ⟨tk_6 _ (List.mem_of_getElem? (l := tables_1_6) (i := 151) rfl), Or.inl rfl⟩
theorem hw_930 : GW (Cond.fieldLink RX11 13 "PaneDaysModel" "fed" "[I") := ⟨tk_6 _ (List.mem_of_getElem? (l := tables_1_6) (i := 159) rfl), Or.inl rfl⟩
theorem hw_931 : GW (u_lay RX11 TX11 0) := ⟨tk_6 _ (List.mem_of_getElem? (l := tables_1_6) (i := 194) rfl), Or.inl rfl⟩
theorem hw_932 : GW (u_lay RX11 TX11 1) := ⟨tk_6 _ (List.mem_of_getElem? (l := tables_1_6) (i := 196) rfl), Or.inl rfl⟩
theorem hw_933 : GW (u_lay RX11 TX11 2) := ⟨tk_6 _ (List.mem_of_getElem? (l := tables_1_6) (i := 198) rfl), Or.inl rfl⟩
theorem hw_934 : GW (u_lay RX11 TX11 3) := ⟨tk_6 _ (List.mem_of_getElem? (l := tables_1_6) (i := 200) rfl), Or.inl rfl⟩
theorem hw_935 : GW (u_lay RX11 TX11 4) := ⟨tk_6 _ (List.mem_of_getElem? (l := tables_1_6) (i := 202) rfl), Or.inl rfl⟩
theorem hw_936 : GW (u_lay RX11 TX11 5) := ⟨tk_6 _ (List.mem_of_getElem? (l := tables_1_6) (i := 204) rfl), Or.inl rfl⟩
theorem hw_937 : GW (u_lay RX11 TX11 6) := ⟨tk_6 _ (List.mem_of_getElem? (l := tables_1_6) (i := 206) rfl), Or.inl rfl⟩
theorem hw_938 : GW (u_lay RX11 TX11 7) := ⟨tk_6 _ (List.mem_of_getElem? (l := tables_1_6) (i := 208) rfl), Or.inl rfl⟩
theorem hw_939 : GW (u_lay RX11 TX11 8) := ⟨tk_6 _ (List.mem_of_getElem? (l := tables_1_6) (i := 210) rfl), Or.inl rfl⟩
theorem hw_940 : GW (u_lay RX11 TX11 9) := ⟨tk_6 _ (List.mem_of_getElem? (l := tables_1_6) (i := 212) rfl), Or.inl rfl⟩
theorem hw_941 : GW (u_lay RX11 TX11 10) := ⟨tk_6 _ (List.mem_of_getElem? (l := tables_1_6) (i := 214) rfl), Or.inl rfl⟩
theorem hw_942 : GW (u_lay RX11 TX11 11) := ⟨tk_6 _ (List.mem_of_getElem? (l := tables_1_6) (i := 216) rfl), Or.inl rfl⟩
theorem hw_943 : GW (u_lay RX11 TX11 12) := ⟨tk_6 _ (List.mem_of_getElem? (l := tables_1_6) (i := 218) rfl), Or.inl rfl⟩
theorem hw_944 : GW (u_lay RX11 TX11 13) := ⟨tk_6 _ (List.mem_of_getElem? (l := tables_1_6) (i := 220) rfl), Or.inl rfl⟩
theorem hw_945 : GW (u_lay RX11 TX11 14) := ⟨tk_6 _ (List.mem_of_getElem? (l := tables_1_6) (i := 222) rfl), Or.inl rfl⟩
theorem hw_946 : GW (u_lay RX11 TX11 15) := ⟨tk_6 _ (List.mem_of_getElem? (l := tables_1_6) (i := 224) rfl), Or.inl rfl⟩
theorem hw_947 : GW (u_lay RX11 TX11 16) := ⟨tk_6 _ (List.mem_of_getElem? (l := tables_1_6) (i := 226) rfl), Or.inl rfl⟩
theorem hw_948 : GW (u_lay RX11 TX11 17) := ⟨tk_6 _ (List.mem_of_getElem? (l := tables_1_6) (i := 228) rfl), Or.inl rfl⟩
theorem hw_949 : GW (u_lay RX11 TX11 18) := ⟨tk_6 _ (List.mem_of_getElem? (l := tables_1_6) (i := 230) rfl), Or.inl rfl⟩
theorem hw_950 : GW (u_lay RX11 TX11 19) := ⟨tk_6 _ (List.mem_of_getElem? (l := tables_1_6) (i := 232) rfl), Or.inl rfl⟩
theorem hw_951 : GW (u_lay RX11 TX11 20) := ⟨tk_6 _ (List.mem_of_getElem? (l := tables_1_6) (i := 234) rfl), Or.inl rfl⟩
theorem hw_952 : GW (u_lay RX11 TX11 21) := ⟨tk_6 _ (List.mem_of_getElem? (l := tables_1_6) (i := 236) rfl), Or.inl rfl⟩
theorem hw_953 : GW (u_lay RX11 TX11 22) := ⟨tk_6 _ (List.mem_of_getElem? (l := tables_1_6) (i := 238) rfl), Or.inl rfl⟩
theorem hw_954 : GW (u_lay RX11 TX11 23) := ⟨tk_7 _ (List.mem_of_getElem? (l := tables_1_7) (i := 0) rfl), Or.inl rfl⟩
theorem hw_955 : GW (u_lay RX11 TX11 24) := ⟨tk_7 _ (List.mem_of_getElem? (l := tables_1_7) (i := 2) rfl), Or.inl rfl⟩
theorem hw_956 : GW (u_lay RX11 TX11 25) := ⟨tk_7 _ (List.mem_of_getElem? (l := tables_1_7) (i := 4) rfl), Or.inl rfl⟩
theorem hw_957 : GW (u_lay RX11 TX11 26) := ⟨tk_7 _ (List.mem_of_getElem? (l := tables_1_7) (i := 6) rfl), Or.inl rfl⟩
theorem hw_958 : GW (u_lay RX11 TX11 27) := ⟨tk_7 _ (List.mem_of_getElem? (l := tables_1_7) (i := 8) rfl), Or.inl rfl⟩
theorem hw_959 : GW (u_lay RX11 TX11 28) := ⟨tk_7 _ (List.mem_of_getElem? (l := tables_1_7) (i := 10) rfl), Or.inl rfl⟩
theorem hw_960 : GW (u_lay RX11 TX11 29) := ⟨tk_7 _ (List.mem_of_getElem? (l := tables_1_7) (i := 12) rfl), Or.inl rfl⟩
theorem hw_961 : GW (u_lay RX11 TX11 30) := ⟨tk_7 _ (List.mem_of_getElem? (l := tables_1_7) (i := 14) rfl), Or.inl rfl⟩
theorem hw_962 : GW (u_lay RX11 TX11 31) := ⟨tk_7 _ (List.mem_of_getElem? (l := tables_1_7) (i := 16) rfl), Or.inl rfl⟩
theorem hw_963 : GW (u_lay RX11 TX11 32) := ⟨tk_7 _ (List.mem_of_getElem? (l := tables_1_7) (i := 18) rfl), Or.inl rfl⟩
theorem hw_964 : GW (u_lay RX11 TX11 33) := ⟨tk_7 _ (List.mem_of_getElem? (l := tables_1_7) (i := 20) rfl), Or.inl rfl⟩
theorem hw_965 : GW (u_lay RX11 TX11 34) := ⟨tk_7 _ (List.mem_of_getElem? (l := tables_1_7) (i := 22) rfl), Or.inl rfl⟩
theorem hw_966 : GW (u_lay RX11 TX11 35) := ⟨tk_7 _ (List.mem_of_getElem? (l := tables_1_7) (i := 24) rfl), Or.inl rfl⟩
theorem hw_967 : GW (u_lay RX11 TX11 36) := ⟨tk_7 _ (List.mem_of_getElem? (l := tables_1_7) (i := 26) rfl), Or.inl rfl⟩
theorem hw_968 : GW (u_lay RX11 TX11 37) := ⟨tk_7 _ (List.mem_of_getElem? (l := tables_1_7) (i := 28) rfl), Or.inl rfl⟩
theorem hw_969 : GW (u_lay RX11 TX11 38) := ⟨tk_7 _ (List.mem_of_getElem? (l := tables_1_7) (i := 30) rfl), Or.inl rfl⟩
theorem hw_970 : GW (u_lay RX11 TX11 39) := ⟨tk_7 _ (List.mem_of_getElem? (l := tables_1_7) (i := 32) rfl), Or.inl rfl⟩
theorem hw_971 : GW (u_lay RX11 TX11 40) := ⟨tk_7 _ (List.mem_of_getElem? (l := tables_1_7) (i := 34) rfl), Or.inl rfl⟩
theorem hw_972 : GW (u_lay RX11 TX11 41) := ⟨tk_7 _ (List.mem_of_getElem? (l := tables_1_7) (i := 36) rfl), Or.inl rfl⟩
theorem hw_973 : GW (u_lay RX11 TX11 42) := ⟨tk_7 _ (List.mem_of_getElem? (l := tables_1_7) (i := 38) rfl), Or.inl rfl⟩
theorem hw_974 : GW (u_lay RX11 TX11 43) := ⟨tk_7 _ (List.mem_of_getElem? (l := tables_1_7) (i := 40) rfl), Or.inl rfl⟩
theorem hw_975 : GW (Cond.code yX11_street cX11_street 2 (some .int)) := ⟨tk_7 _ (List.mem_of_getElem? (l := tables_1_7) (i := 54) rfl), Or.inl rfl⟩
theorem hw_976 : GW (Cond.fieldLink RX11 101 "PaneDaysModel" "fault" "I") := ⟨tk_6 _ (List.mem_of_getElem? (l := tables_1_6) (i := 155) rfl), Or.inl rfl⟩
theorem hw_977 : GW (Cond.fieldLink RX11 94 "PaneDaysModel" "at" "I") := ⟨tk_6 _ (List.mem_of_getElem? (l := tables_1_6) (i := 154) rfl), Or.inl rfl⟩
theorem hw_978 : GW (Cond.fieldLink RX11 91 "PaneDaysModel" "size" "I") := ⟨tk_6 _ (List.mem_of_getElem? (l := tables_1_6) (i := 152) rfl), Or.inl rfl⟩
theorem hw_979 : GW (Cond.fieldLink RX11 9 "PaneDaysModel" "place" "I") := ⟨tk_6 _ (List.mem_of_getElem? (l := tables_1_6) (i := 153) rfl), Or.inl rfl⟩
theorem hw_980 : GW (Cond.fieldLink RX11 23 "PaneDaysModel" "told" "[I") := ⟨tk_6 _ (List.mem_of_getElem? (l := tables_1_6) (i := 162) rfl), Or.inl rfl⟩
theorem hw_981 : GW (Cond.methodLink RX11 119 yX11_in) := ⟨tk_7 _ (List.mem_of_getElem? (l := tables_1_7) (i := 55) rfl), Or.inl rfl⟩
theorem hw_982 : GW (Cond.static yX11_in) := ⟨tk_7 _ (List.mem_of_getElem? (l := tables_1_7) (i := 56) rfl), Or.inl rfl⟩
theorem hw_983 : GW (Cond.initialized RX11) := ⟨tk_1 _ (List.mem_of_getElem? (l := tables_1_1) (i := 13) rfl), Or.inl rfl⟩
theorem hw_984 : GW (Cond.code yX11_in cX11_in 3 (some .boolean)) := ⟨tk_7 _ (List.mem_of_getElem? (l := tables_1_7) (i := 57) rfl), Or.inl rfl⟩
theorem hw_985 : GW (Cond.methodLink RX11 158 yX11_bad) := ⟨tk_7 _ (List.mem_of_getElem? (l := tables_1_7) (i := 58) rfl), Or.inl rfl⟩
theorem hw_986 : GW (Cond.instanceMethod yX11_bad) := ⟨tk_7 _ (List.mem_of_getElem? (l := tables_1_7) (i := 60) rfl), Or.inl rfl⟩
theorem hw_987 : GW (Cond.selects RX11 yX11_bad yX11_bad) := ⟨tk_0 _ (List.mem_of_getElem? (l := k2_sels lw_privs) (i := 38) (by decide +kernel)), Or.inl rfl⟩
theorem hw_988 : GW (Cond.code yX11_bad cX11_bad 4 (some .boolean)) := ⟨tk_7 _ (List.mem_of_getElem? (l := tables_1_7) (i := 61) rfl), Or.inl rfl⟩
theorem hw_989 : GW (Cond.fieldLink RX11 17 "PaneDaysModel" "refused" "[I") := ⟨tk_6 _ (List.mem_of_getElem? (l := tables_1_6) (i := 160) rfl), Or.inl rfl⟩
theorem hw_990 : GW (Cond.methodLink RX11 162 yX11_starts) := ⟨tk_7 _ (List.mem_of_getElem? (l := tables_1_7) (i := 62) rfl), Or.inl rfl⟩
theorem hw_991 : GW (Cond.instanceMethod yX11_starts) := ⟨tk_7 _ (List.mem_of_getElem? (l := tables_1_7) (i := 64) rfl), Or.inl rfl⟩
theorem hw_992 : GW (Cond.selects RX11 yX11_starts yX11_starts) := ⟨tk_0 _ (List.mem_of_getElem? (l := k2_sels lw_privs) (i := 39) (by decide +kernel)), Or.inl rfl⟩
theorem hw_993 : GW (Cond.code yX11_starts cX11_starts 2 none) := ⟨tk_7 _ (List.mem_of_getElem? (l := tables_1_7) (i := 65) rfl), Or.inl rfl⟩
theorem hw_994 : GW (Cond.fieldLink RX11 104 "PaneDaysModel" "faultAt" "I") := ⟨tk_6 _ (List.mem_of_getElem? (l := tables_1_6) (i := 156) rfl), Or.inl rfl⟩
theorem hw_995 : GW (Cond.fieldLink RX11 141 "PaneDaysModel" "clauses" "I") := ⟨tk_6 _ (List.mem_of_getElem? (l := tables_1_6) (i := 157) rfl), Or.inl rfl⟩
theorem hw_996 : GW (Cond.fieldLink RX11 144 "PaneDaysModel" "open" "I") := ⟨tk_6 _ (List.mem_of_getElem? (l := tables_1_6) (i := 158) rfl), Or.inl rfl⟩
theorem hw_997 : GW (Cond.methodLink RX11 107 yX11_blanks) := ⟨tk_7 _ (List.mem_of_getElem? (l := tables_1_7) (i := 66) rfl), Or.inl rfl⟩
theorem hw_998 : GW (Cond.instanceMethod yX11_blanks) := ⟨tk_7 _ (List.mem_of_getElem? (l := tables_1_7) (i := 68) rfl), Or.inl rfl⟩
theorem hw_999 : GW (Cond.selects RX11 yX11_blanks yX11_blanks) := ⟨tk_0 _ (List.mem_of_getElem? (l := k2_sels lw_privs) (i := 40) (by decide +kernel)), Or.inl rfl⟩
theorem hw_1000 : GW (Cond.code yX11_blanks cX11_blanks 1 none) := ⟨tk_7 _ (List.mem_of_getElem? (l := tables_1_7) (i := 69) rfl), Or.inl rfl⟩
theorem hw_1001 : GW (Cond.methodLink RX11 97 yX11_byteAt) := ⟨tk_7 _ (List.mem_of_getElem? (l := tables_1_7) (i := 70) rfl), Or.inl rfl⟩
theorem hw_1002 : GW (Cond.instanceMethod yX11_byteAt) := ⟨tk_7 _ (List.mem_of_getElem? (l := tables_1_7) (i := 72) rfl), Or.inl rfl⟩
theorem hw_1003 : GW (Cond.selects RX11 yX11_byteAt yX11_byteAt) := ⟨tk_0 _ (List.mem_of_getElem? (l := k2_sels lw_privs) (i := 41) (by decide +kernel)), Or.inl rfl⟩
theorem hw_1004 : GW (Cond.code yX11_byteAt cX11_byteAt 2 (some .int)) := ⟨tk_7 _ (List.mem_of_getElem? (l := tables_1_7) (i := 73) rfl), Or.inl rfl⟩
theorem hw_1005 : GW (Cond.methodLink RX11 79 yX11_tellsNothing) := ⟨tk_6 _ (List.mem_of_getElem? (l := tables_1_6) (i := 139) rfl), Or.inl rfl⟩
theorem hw_1006 : GW (Cond.instanceMethod yX11_tellsNothing) := ⟨tk_6 _ (List.mem_of_getElem? (l := tables_1_6) (i := 141) rfl), Or.inl rfl⟩
theorem hw_1007 : GW (Cond.selects RX11 yX11_tellsNothing yX11_tellsNothing) := ⟨tk_0 _ (List.mem_of_getElem? (l := k2_sels lw_privs) (i := 36) (by decide +kernel)), Or.inl rfl⟩
theorem hw_1008 : GW (Cond.code yX11_tellsNothing cX11_tellsNothing 2 none) := ⟨tk_6 _ (List.mem_of_getElem? (l := tables_1_6) (i := 142) rfl), Or.inl rfl⟩
theorem hw_1009 : GW (Cond.fieldLink RX11 20 "PaneDaysModel" "readTold" "[I") := ⟨tk_6 _ (List.mem_of_getElem? (l := tables_1_6) (i := 161) rfl), Or.inl rfl⟩
theorem hw_1010 : GW (Cond.methodLink RX11 165 yX11_clause) := ⟨tk_7 _ (List.mem_of_getElem? (l := tables_1_7) (i := 74) rfl), Or.inl rfl⟩
theorem hw_1011 : GW (Cond.instanceMethod yX11_clause) := ⟨tk_7 _ (List.mem_of_getElem? (l := tables_1_7) (i := 76) rfl), Or.inl rfl⟩
theorem hw_1012 : GW (Cond.selects RX11 yX11_clause yX11_clause) := ⟨tk_0 _ (List.mem_of_getElem? (l := k2_sels lw_privs) (i := 42) (by decide +kernel)), Or.inl rfl⟩
theorem hw_1013 : GW (Cond.code yX11_clause cX11_clause 4 none) := ⟨tk_7 _ (List.mem_of_getElem? (l := tables_1_7) (i := 77) rfl), Or.inl rfl⟩
theorem hw_1014 : GW (Cond.fieldLink RX11 28 "PaneDaysModel" "readPane" "[[I") := ⟨tk_6 _ (List.mem_of_getElem? (l := tables_1_6) (i := 163) rfl), Or.inl rfl⟩
theorem hw_1015 : GW (Cond.fieldLink RX11 40 "PaneDaysModel" "readOrder" "[[I") := ⟨tk_6 _ (List.mem_of_getElem? (l := tables_1_6) (i := 167) rfl), Or.inl rfl⟩
theorem hw_1016 : GW (Cond.fieldLink RX11 34 "PaneDaysModel" "readRain" "[[I") := ⟨tk_6 _ (List.mem_of_getElem? (l := tables_1_6) (i := 165) rfl), Or.inl rfl⟩
theorem hw_1017 : GW (Cond.methodLink RX11 147 yX11_kindHere) := ⟨tk_7 _ (List.mem_of_getElem? (l := tables_1_7) (i := 78) rfl), Or.inl rfl⟩
theorem hw_1018 : GW (Cond.instanceMethod yX11_kindHere) := ⟨tk_7 _ (List.mem_of_getElem? (l := tables_1_7) (i := 80) rfl), Or.inl rfl⟩
theorem hw_1019 : GW (Cond.selects RX11 yX11_kindHere yX11_kindHere) := ⟨tk_0 _ (List.mem_of_getElem? (l := k2_sels lw_privs) (i := 43) (by decide +kernel)), Or.inl rfl⟩
theorem hw_1020 : GW (Cond.code yX11_kindHere cX11_kindHere 1 (some .int)) := ⟨tk_7 _ (List.mem_of_getElem? (l := tables_1_7) (i := 81) rfl), Or.inl rfl⟩
theorem hw_1021 : GW (Cond.methodLink RX11 134 yX11_isWord) := ⟨tk_7 _ (List.mem_of_getElem? (l := tables_1_7) (i := 82) rfl), Or.inl rfl⟩
theorem hw_1022 : GW (Cond.instanceMethod yX11_isWord) := ⟨tk_7 _ (List.mem_of_getElem? (l := tables_1_7) (i := 84) rfl), Or.inl rfl⟩
theorem hw_1023 : GW (Cond.selects RX11 yX11_isWord yX11_isWord) := ⟨tk_0 _ (List.mem_of_getElem? (l := k2_sels lw_privs) (i := 44) (by decide +kernel)), Or.inl rfl⟩
theorem hw_1024 : GW (Cond.code yX11_isWord cX11_isWord 7 (some .boolean)) := ⟨tk_7 _ (List.mem_of_getElem? (l := tables_1_7) (i := 85) rfl), Or.inl rfl⟩
theorem hw_1025 : GW (Cond.methodLink RX11 126 yX11_wordHere) := ⟨tk_7 _ (List.mem_of_getElem? (l := tables_1_7) (i := 86) rfl), Or.inl rfl⟩
theorem hw_1026 : GW (Cond.instanceMethod yX11_wordHere) := ⟨tk_7 _ (List.mem_of_getElem? (l := tables_1_7) (i := 88) rfl), Or.inl rfl⟩
theorem hw_1027 : GW (Cond.selects RX11 yX11_wordHere yX11_wordHere) := ⟨tk_0 _ (List.mem_of_getElem? (l := k2_sels lw_privs) (i := 45) (by decide +kernel)), Or.inl rfl⟩
theorem hw_1028 : GW (Cond.code yX11_wordHere cX11_wordHere 3 (some .int)) := ⟨tk_7 _ (List.mem_of_getElem? (l := tables_1_7) (i := 89) rfl), Or.inl rfl⟩
theorem hw_1029 : GW (Cond.methodLink RX11 123 yX11_isSmall) := ⟨tk_7 _ (List.mem_of_getElem? (l := tables_1_7) (i := 90) rfl), Or.inl rfl⟩
theorem hw_1030 : GW (Cond.static yX11_isSmall) := ⟨tk_7 _ (List.mem_of_getElem? (l := tables_1_7) (i := 91) rfl), Or.inl rfl⟩
theorem hw_1031 : GW (Cond.code yX11_isSmall cX11_isSmall 1 (some .boolean)) := ⟨tk_7 _ (List.mem_of_getElem? (l := tables_1_7) (i := 92) rfl), Or.inl rfl⟩
theorem hw_1032 : GW (Cond.methodLink RX11 130 yX11_six) := ⟨tk_7 _ (List.mem_of_getElem? (l := tables_1_7) (i := 93) rfl), Or.inl rfl⟩
theorem hw_1033 : GW (Cond.static yX11_six) := ⟨tk_7 _ (List.mem_of_getElem? (l := tables_1_7) (i := 94) rfl), Or.inl rfl⟩
theorem hw_1034 : GW (Cond.code yX11_six cX11_six 7 (some .int)) := ⟨tk_7 _ (List.mem_of_getElem? (l := tables_1_7) (i := 95) rfl), Or.inl rfl⟩
theorem hw_1035 : GW (Cond.methodLink RX11 114 yX11_wrong) := ⟨tk_7 _ (List.mem_of_getElem? (l := tables_1_7) (i := 96) rfl), Or.inl rfl⟩
theorem hw_1036 : GW (Cond.instanceMethod yX11_wrong) := ⟨tk_7 _ (List.mem_of_getElem? (l := tables_1_7) (i := 98) rfl), Or.inl rfl⟩
theorem hw_1037 : GW (Cond.selects RX11 yX11_wrong yX11_wrong) := ⟨tk_0 _ (List.mem_of_getElem? (l := k2_sels lw_privs) (i := 46) (by decide +kernel)), Or.inl rfl⟩
theorem hw_1038 : GW (Cond.code yX11_wrong cX11_wrong 3 none) := ⟨tk_7 _ (List.mem_of_getElem? (l := tables_1_7) (i := 99) rfl), Or.inl rfl⟩
theorem hw_1039 : GW (Cond.methodLink RX11 138 yX11_skipWord) := ⟨tk_7 _ (List.mem_of_getElem? (l := tables_1_7) (i := 100) rfl), Or.inl rfl⟩
theorem hw_1040 : GW (Cond.instanceMethod yX11_skipWord) := ⟨tk_7 _ (List.mem_of_getElem? (l := tables_1_7) (i := 102) rfl), Or.inl rfl⟩
theorem hw_1041 : GW (Cond.selects RX11 yX11_skipWord yX11_skipWord) := ⟨tk_0 _ (List.mem_of_getElem? (l := k2_sels lw_privs) (i := 47) (by decide +kernel)), Or.inl rfl⟩
theorem hw_1042 : GW (Cond.code yX11_skipWord cX11_skipWord 1 none) := ⟨tk_7 _ (List.mem_of_getElem? (l := tables_1_7) (i := 103) rfl), Or.inl rfl⟩
theorem hw_1043 : GW (Cond.methodLink RX11 150 yX11_number) := ⟨tk_7 _ (List.mem_of_getElem? (l := tables_1_7) (i := 104) rfl), Or.inl rfl⟩
theorem hw_1044 : GW (Cond.instanceMethod yX11_number) := ⟨tk_7 _ (List.mem_of_getElem? (l := tables_1_7) (i := 106) rfl), Or.inl rfl⟩
theorem hw_1045 : GW (Cond.selects RX11 yX11_number yX11_number) := ⟨tk_0 _ (List.mem_of_getElem? (l := k2_sels lw_privs) (i := 48) (by decide +kernel)), Or.inl rfl⟩
theorem hw_1046 : GW (Cond.code yX11_number cX11_number 5 (some .int)) := ⟨tk_7 _ (List.mem_of_getElem? (l := tables_1_7) (i := 107) rfl), Or.inl rfl⟩
theorem hw_1047 : GW (Cond.constant RX11 118 (100000)) := ⟨tk_7 _ (List.mem_of_getElem? (l := tables_1_7) (i := 111) rfl), Or.inl rfl⟩
theorem hw_1048 : GW (Cond.methodLink RX11 110 yX11_isDigit) := ⟨tk_7 _ (List.mem_of_getElem? (l := tables_1_7) (i := 108) rfl), Or.inl rfl⟩
theorem hw_1049 : GW (Cond.static yX11_isDigit) := ⟨tk_7 _ (List.mem_of_getElem? (l := tables_1_7) (i := 109) rfl), Or.inl rfl⟩
theorem hw_1050 : GW (Cond.code yX11_isDigit cX11_isDigit 1 (some .boolean)) := ⟨tk_7 _ (List.mem_of_getElem? (l := tables_1_7) (i := 110) rfl), Or.inl rfl⟩
theorem hw_1051 : GW (Cond.methodLink RX11 154 yX11_sign) := ⟨tk_7 _ (List.mem_of_getElem? (l := tables_1_7) (i := 112) rfl), Or.inl rfl⟩
theorem hw_1052 : GW (Cond.instanceMethod yX11_sign) := ⟨tk_7 _ (List.mem_of_getElem? (l := tables_1_7) (i := 114) rfl), Or.inl rfl⟩
theorem hw_1053 : GW (Cond.selects RX11 yX11_sign yX11_sign) := ⟨tk_0 _ (List.mem_of_getElem? (l := k2_sels lw_privs) (i := 49) (by decide +kernel)), Or.inl rfl⟩
theorem hw_1054 : GW (Cond.code yX11_sign cX11_sign 2 none) := ⟨tk_7 _ (List.mem_of_getElem? (l := tables_1_7) (i := 115) rfl), Or.inl rfl⟩
theorem hw_1055 : GW (Cond.methodLink RX11 168 yX11_ends) := ⟨tk_7 _ (List.mem_of_getElem? (l := tables_1_7) (i := 116) rfl), Or.inl rfl⟩
theorem hw_1056 : GW (Cond.instanceMethod yX11_ends) := ⟨tk_7 _ (List.mem_of_getElem? (l := tables_1_7) (i := 118) rfl), Or.inl rfl⟩
theorem hw_1057 : GW (Cond.selects RX11 yX11_ends yX11_ends) := ⟨tk_0 _ (List.mem_of_getElem? (l := k2_sels lw_privs) (i := 50) (by decide +kernel)), Or.inl rfl⟩
theorem hw_1058 : GW (Cond.code yX11_ends cX11_ends 1 (some .int)) := ⟨tk_7 _ (List.mem_of_getElem? (l := tables_1_7) (i := 119) rfl), Or.inl rfl⟩
theorem hw_1059 : GW (Cond.methodLink RX11 82 yX11_stands) := ⟨tk_6 _ (List.mem_of_getElem? (l := tables_1_6) (i := 143) rfl), Or.inl rfl⟩
theorem hw_1060 : GW (Cond.instanceMethod yX11_stands) := ⟨tk_6 _ (List.mem_of_getElem? (l := tables_1_6) (i := 145) rfl), Or.inl rfl⟩
theorem hw_1061 : GW (Cond.selects RX11 yX11_stands yX11_stands) := ⟨tk_0 _ (List.mem_of_getElem? (l := k2_sels lw_privs) (i := 37) (by decide +kernel)), Or.inl rfl⟩
theorem hw_1062 : GW (Cond.code yX11_stands cX11_stands 2 none) := ⟨tk_6 _ (List.mem_of_getElem? (l := tables_1_6) (i := 146) rfl), Or.inl rfl⟩
theorem hw_1063 : GW (Cond.fieldLink RX11 31 "PaneDaysModel" "pane" "[[I") := ⟨tk_6 _ (List.mem_of_getElem? (l := tables_1_6) (i := 164) rfl), Or.inl rfl⟩
theorem hw_1064 : GW (Cond.fieldLink RX11 43 "PaneDaysModel" "order" "[[I") := ⟨tk_6 _ (List.mem_of_getElem? (l := tables_1_6) (i := 168) rfl), Or.inl rfl⟩
theorem hw_1065 : GW (Cond.fieldLink RX11 37 "PaneDaysModel" "rain" "[[I") := ⟨tk_6 _ (List.mem_of_getElem? (l := tables_1_6) (i := 166) rfl), Or.inl rfl⟩
theorem hw_1066 : GW (Cond.fieldLink RX11 67 "PaneDaysModel" "now" "[I") := ⟨tk_6 _ (List.mem_of_getElem? (l := tables_1_6) (i := 179) rfl), Or.inl rfl⟩
theorem hw_1067 : GW (Cond.fieldLink RX11 175 "PaneDaysModel" "lawMany" "I") := ⟨tk_6 _ (List.mem_of_getElem? (l := tables_1_6) (i := 169) rfl), Or.inl rfl⟩
theorem hw_1068 : GW (Cond.fieldLink RX11 178 "PaneDaysModel" "lines" "I") := ⟨tk_6 _ (List.mem_of_getElem? (l := tables_1_6) (i := 183) rfl), Or.inl rfl⟩
theorem hw_1069 : GW (Cond.fieldLink RX11 181 "PaneDaysModel" "works" "I") := ⟨tk_6 _ (List.mem_of_getElem? (l := tables_1_6) (i := 184) rfl), Or.inl rfl⟩
theorem hw_1070 : GW (Cond.fieldLink RX11 184 "PaneDaysModel" "refusedSteps" "I") := ⟨tk_6 _ (List.mem_of_getElem? (l := tables_1_6) (i := 185) rfl), Or.inl rfl⟩
theorem hw_1071 : GW (Cond.fieldLink RX11 187 "PaneDaysModel" "images" "I") := ⟨tk_6 _ (List.mem_of_getElem? (l := tables_1_6) (i := 186) rfl), Or.inl rfl⟩
theorem hw_1072 : GW (Cond.methodLink RX11 171 yX11_lays) := ⟨tk_6 _ (List.mem_of_getElem? (l := tables_1_6) (i := 147) rfl), Or.inl rfl⟩
theorem hw_1073 : GW (Cond.static yX11_lays) := ⟨tk_6 _ (List.mem_of_getElem? (l := tables_1_6) (i := 148) rfl), Or.inl rfl⟩
theorem hw_1074 : GW (Cond.code yX11_lays cX11_lays 5 none) := ⟨tk_6 _ (List.mem_of_getElem? (l := tables_1_6) (i := 149) rfl), Or.inl rfl⟩
theorem hw_1075 : GW (Cond.code yX11_law cX11_law 2 (some .int)) := ⟨tk_7 _ (List.mem_of_getElem? (l := tables_1_7) (i := 123) rfl), Or.inl rfl⟩
theorem hw_1076 : GW (Cond.fieldLink RX11 190 "PaneDaysModel" "readLawMany" "I") := ⟨tk_6 _ (List.mem_of_getElem? (l := tables_1_6) (i := 170) rfl), Or.inl rfl⟩
theorem hw_1077 : GW (Cond.fieldLink RX11 49 "PaneDaysModel" "readLaw" "[[I") := ⟨tk_6 _ (List.mem_of_getElem? (l := tables_1_6) (i := 172) rfl), Or.inl rfl⟩
theorem hw_1078 : GW (Cond.fieldLink RX11 46 "PaneDaysModel" "law" "[[I") := ⟨tk_6 _ (List.mem_of_getElem? (l := tables_1_6) (i := 171) rfl), Or.inl rfl⟩
theorem hw_1079 : GW (Cond.methodLink RX11 212 yX11_sum) := ⟨tk_7 _ (List.mem_of_getElem? (l := tables_1_7) (i := 124) rfl), Or.inl rfl⟩
theorem hw_1080 : GW (Cond.instanceMethod yX11_sum) := ⟨tk_7 _ (List.mem_of_getElem? (l := tables_1_7) (i := 126) rfl), Or.inl rfl⟩
theorem hw_1081 : GW (Cond.selects RX11 yX11_sum yX11_sum) := ⟨tk_0 _ (List.mem_of_getElem? (l := k2_sels lw_privs) (i := 51) (by decide +kernel)), Or.inl rfl⟩
theorem hw_1082 : GW (Cond.code yX11_sum cX11_sum 2 none) := ⟨tk_7 _ (List.mem_of_getElem? (l := tables_1_7) (i := 127) rfl), Or.inl rfl⟩
theorem hw_1083 : GW (Cond.methodLink RX11 193 yX11_product) := ⟨tk_7 _ (List.mem_of_getElem? (l := tables_1_7) (i := 128) rfl), Or.inl rfl⟩
theorem hw_1084 : GW (Cond.instanceMethod yX11_product) := ⟨tk_7 _ (List.mem_of_getElem? (l := tables_1_7) (i := 130) rfl), Or.inl rfl⟩
theorem hw_1085 : GW (Cond.selects RX11 yX11_product yX11_product) := ⟨tk_0 _ (List.mem_of_getElem? (l := k2_sels lw_privs) (i := 52) (by decide +kernel)), Or.inl rfl⟩
theorem hw_1086 : GW (Cond.methodLink RX11 196 yX11_takesSign) := ⟨tk_7 _ (List.mem_of_getElem? (l := tables_1_7) (i := 152) rfl), Or.inl rfl⟩
theorem hw_1087 : GW (Cond.instanceMethod yX11_takesSign) := ⟨tk_7 _ (List.mem_of_getElem? (l := tables_1_7) (i := 154) rfl), Or.inl rfl⟩
theorem hw_1088 : GW (Cond.selects RX11 yX11_takesSign yX11_takesSign) := ⟨tk_0 _ (List.mem_of_getElem? (l := k2_sels lw_privs) (i := 58) (by decide +kernel)), Or.inl rfl⟩
theorem hw_1089 : GW (Cond.code yX11_takesSign cX11_takesSign 3 (some .boolean)) := ⟨tk_7 _ (List.mem_of_getElem? (l := tables_1_7) (i := 155) rfl), Or.inl rfl⟩
theorem hw_1090 : GW (Cond.methodLink RX11 199 yX11_notes) := ⟨tk_7 _ (List.mem_of_getElem? (l := tables_1_7) (i := 140) rfl), Or.inl rfl⟩
theorem hw_1091 : GW (Cond.instanceMethod yX11_notes) := ⟨tk_7 _ (List.mem_of_getElem? (l := tables_1_7) (i := 142) rfl), Or.inl rfl⟩
theorem hw_1092 : GW (Cond.selects RX11 yX11_notes yX11_notes) := ⟨tk_0 _ (List.mem_of_getElem? (l := k2_sels lw_privs) (i := 55) (by decide +kernel)), Or.inl rfl⟩
theorem hw_1093 : GW (Cond.code yX11_notes cX11_notes 3 none) := ⟨tk_7 _ (List.mem_of_getElem? (l := tables_1_7) (i := 143) rfl), Or.inl rfl⟩
theorem hw_1094 : GW (Cond.code yX11_one cX11_one 3 none) := ⟨tk_7 _ (List.mem_of_getElem? (l := tables_1_7) (i := 135) rfl), Or.inl rfl⟩
theorem hw_1095 : GW (Cond.methodLink RX11 208 yX11_opens) := ⟨tk_7 _ (List.mem_of_getElem? (l := tables_1_7) (i := 136) rfl), Or.inl rfl⟩
theorem hw_1096 : GW (Cond.instanceMethod yX11_opens) := ⟨tk_7 _ (List.mem_of_getElem? (l := tables_1_7) (i := 138) rfl), Or.inl rfl⟩
theorem hw_1097 : GW (Cond.selects RX11 yX11_opens yX11_opens) := ⟨tk_0 _ (List.mem_of_getElem? (l := k2_sels lw_privs) (i := 54) (by decide +kernel)), Or.inl rfl⟩
theorem hw_1098 : GW (Cond.code yX11_opens cX11_opens 1 (some .boolean)) := ⟨tk_7 _ (List.mem_of_getElem? (l := tables_1_7) (i := 139) rfl), Or.inl rfl⟩
theorem hw_1099 : GW (Cond.methodLink RX11 215 yX11_knownHere) := ⟨tk_7 _ (List.mem_of_getElem? (l := tables_1_7) (i := 144) rfl), Or.inl rfl⟩
theorem hw_1100 : GW (Cond.instanceMethod yX11_knownHere) := ⟨tk_7 _ (List.mem_of_getElem? (l := tables_1_7) (i := 146) rfl), Or.inl rfl⟩
theorem hw_1101 : GW (Cond.selects RX11 yX11_knownHere yX11_knownHere) := ⟨tk_0 _ (List.mem_of_getElem? (l := k2_sels lw_privs) (i := 56) (by decide +kernel)), Or.inl rfl⟩
theorem hw_1102 : GW (Cond.code yX11_knownHere cX11_knownHere 1 (some .int)) := ⟨tk_7 _ (List.mem_of_getElem? (l := tables_1_7) (i := 147) rfl), Or.inl rfl⟩
theorem hw_1103 : GW (Cond.methodLink RX11 205 yX11_takes) := ⟨tk_7 _ (List.mem_of_getElem? (l := tables_1_7) (i := 148) rfl), Or.inl rfl⟩
theorem hw_1104 : GW (Cond.instanceMethod yX11_takes) := ⟨tk_7 _ (List.mem_of_getElem? (l := tables_1_7) (i := 150) rfl), Or.inl rfl⟩
theorem hw_1105 : GW (Cond.selects RX11 yX11_takes yX11_takes) := ⟨tk_0 _ (List.mem_of_getElem? (l := k2_sels lw_privs) (i := 57) (by decide +kernel)), Or.inl rfl⟩
theorem hw_1106 : GW (Cond.code yX11_takes cX11_takes 8 (some .boolean)) := ⟨tk_7 _ (List.mem_of_getElem? (l := tables_1_7) (i := 151) rfl), Or.inl rfl⟩
theorem hw_1107 : GW (Cond.code yX11_product cX11_product 2 none) := ⟨tk_7 _ (List.mem_of_getElem? (l := tables_1_7) (i := 131) rfl), Or.inl rfl⟩
theorem hw_1108 : GW (Cond.methodLink RX11 202 yX11_one) := ⟨tk_7 _ (List.mem_of_getElem? (l := tables_1_7) (i := 132) rfl), Or.inl rfl⟩
theorem hw_1109 : GW (Cond.instanceMethod yX11_one) := ⟨tk_7 _ (List.mem_of_getElem? (l := tables_1_7) (i := 134) rfl), Or.inl rfl⟩
theorem hw_1110 : GW (Cond.selects RX11 yX11_one yX11_one) := ⟨tk_0 _ (List.mem_of_getElem? (l := k2_sels lw_privs) (i := 53) (by decide +kernel)), Or.inl rfl⟩
theorem hw_1111 : GW (Cond.code yX11_work cX11_work 2 (some .int)) := ⟨tk_7 _ (List.mem_of_getElem? (l := tables_1_7) (i := 167) rfl), Or.inl rfl⟩
theorem hw_1112 : GW (Cond.fieldLink RX11 231 "PaneDaysModel" "steps" "I") := ⟨tk_6 _ (List.mem_of_getElem? (l := tables_1_6) (i := 178) rfl), Or.inl rfl⟩
theorem hw_1113 : GW (Cond.fieldLink RX11 73 "PaneDaysModel" "before" "[[I") := ⟨tk_6 _ (List.mem_of_getElem? (l := tables_1_6) (i := 181) rfl), Or.inl rfl⟩
theorem hw_1114 : GW (Cond.fieldLink RX11 295 "PaneDaysModel" "begun" "I") := ⟨tk_6 _ (List.mem_of_getElem? (l := tables_1_6) (i := 188) rfl), Or.inl rfl⟩
theorem hw_1115 : GW (Cond.fieldLink RX11 305 "PaneDaysModel" "doneSteps" "I") := ⟨tk_6 _ (List.mem_of_getElem? (l := tables_1_6) (i := 189) rfl), Or.inl rfl⟩
theorem hw_1116 : GW (Cond.methodLink RX11 234 yX11_readsStep) := ⟨tk_7 _ (List.mem_of_getElem? (l := tables_1_7) (i := 168) rfl), Or.inl rfl⟩
theorem hw_1117 : GW (Cond.instanceMethod yX11_readsStep) := ⟨tk_7 _ (List.mem_of_getElem? (l := tables_1_7) (i := 170) rfl), Or.inl rfl⟩
theorem hw_1118 : GW (Cond.selects RX11 yX11_readsStep yX11_readsStep) := ⟨tk_0 _ (List.mem_of_getElem? (l := k2_sels lw_privs) (i := 59) (by decide +kernel)), Or.inl rfl⟩
theorem hw_1119 : GW (Cond.code yX11_readsStep cX11_readsStep 3 none) := ⟨tk_7 _ (List.mem_of_getElem? (l := tables_1_7) (i := 171) rfl), Or.inl rfl⟩
theorem hw_1120 : GW (Cond.fieldLink RX11 64 "PaneDaysModel" "step" "[[I") := ⟨tk_6 _ (List.mem_of_getElem? (l := tables_1_6) (i := 177) rfl), Or.inl rfl⟩
theorem hw_1121 : GW (Cond.methodLink RX11 228 yX11_stepHere) := ⟨tk_7 _ (List.mem_of_getElem? (l := tables_1_7) (i := 172) rfl), Or.inl rfl⟩
theorem hw_1122 : GW (Cond.instanceMethod yX11_stepHere) := ⟨tk_7 _ (List.mem_of_getElem? (l := tables_1_7) (i := 174) rfl), Or.inl rfl⟩
theorem hw_1123 : GW (Cond.selects RX11 yX11_stepHere yX11_stepHere) := ⟨tk_0 _ (List.mem_of_getElem? (l := k2_sels lw_privs) (i := 60) (by decide +kernel)), Or.inl rfl⟩
theorem hw_1124 : GW (Cond.code yX11_stepHere cX11_stepHere 1 (some .int)) := ⟨tk_7 _ (List.mem_of_getElem? (l := tables_1_7) (i := 175) rfl), Or.inl rfl⟩
theorem hw_1125 : GW (Cond.methodLink RX11 308 yX11_copies) := ⟨tk_7 _ (List.mem_of_getElem? (l := tables_1_7) (i := 176) rfl), Or.inl rfl⟩
theorem hw_1126 : GW (Cond.static yX11_copies) := ⟨tk_7 _ (List.mem_of_getElem? (l := tables_1_7) (i := 177) rfl), Or.inl rfl⟩
theorem hw_1127 : GW (Cond.code yX11_copies cX11_copies 3 none) := ⟨tk_7 _ (List.mem_of_getElem? (l := tables_1_7) (i := 178) rfl), Or.inl rfl⟩
theorem hw_1128 : GW (Cond.methodLink RX11 298 yX11_goes) := ⟨tk_7 _ (List.mem_of_getElem? (l := tables_1_7) (i := 179) rfl), Or.inl rfl⟩
theorem hw_1129 : GW (Cond.instanceMethod yX11_goes) := ⟨tk_7 _ (List.mem_of_getElem? (l := tables_1_7) (i := 181) rfl), Or.inl rfl⟩
theorem hw_1130 : GW (Cond.selects RX11 yX11_goes yX11_goes) := ⟨tk_0 _ (List.mem_of_getElem? (l := k2_sels lw_privs) (i := 61) (by decide +kernel)), Or.inl rfl⟩
theorem hw_1131 : GW (Cond.code yX11_goes cX11_goes 5 none) := ⟨tk_7 _ (List.mem_of_getElem? (l := tables_1_7) (i := 182) rfl), Or.inl rfl⟩
theorem hw_1132 : GW (Cond.methodLink RX11 301 yX11_does) := ⟨tk_7 _ (List.mem_of_getElem? (l := tables_1_7) (i := 183) rfl), Or.inl rfl⟩
theorem hw_1133 : GW (Cond.instanceMethod yX11_does) := ⟨tk_7 _ (List.mem_of_getElem? (l := tables_1_7) (i := 185) rfl), Or.inl rfl⟩
theorem hw_1134 : GW (Cond.selects RX11 yX11_does yX11_does) := ⟨tk_0 _ (List.mem_of_getElem? (l := k2_sels lw_privs) (i := 62) (by decide +kernel)), Or.inl rfl⟩
theorem hw_1135 : GW (Cond.code yX11_does cX11_does 5 (some .boolean)) := ⟨tk_7 _ (List.mem_of_getElem? (l := tables_1_7) (i := 186) rfl), Or.inl rfl⟩
theorem hw_1136 : GW (Cond.methodLink RX11 280 yX11_wipes) := ⟨tk_7 _ (List.mem_of_getElem? (l := tables_1_7) (i := 187) rfl), Or.inl rfl⟩
theorem hw_1137 : GW (Cond.instanceMethod yX11_wipes) := ⟨tk_7 _ (List.mem_of_getElem? (l := tables_1_7) (i := 189) rfl), Or.inl rfl⟩
theorem hw_1138 : GW (Cond.selects RX11 yX11_wipes yX11_wipes) := ⟨tk_0 _ (List.mem_of_getElem? (l := k2_sels lw_privs) (i := 63) (by decide +kernel)), Or.inl rfl⟩
theorem hw_1139 : GW (Cond.code yX11_wipes cX11_wipes 9 (some .int)) := ⟨tk_7 _ (List.mem_of_getElem? (l := tables_1_7) (i := 190) rfl), Or.inl rfl⟩
theorem hw_1140 : GW (Cond.methodLink RX11 248 yX11_isOf) := ⟨tk_7 _ (List.mem_of_getElem? (l := tables_1_7) (i := 191) rfl), Or.inl rfl⟩
theorem hw_1141 : GW (Cond.instanceMethod yX11_isOf) := ⟨tk_7 _ (List.mem_of_getElem? (l := tables_1_7) (i := 193) rfl), Or.inl rfl⟩
theorem hw_1142 : GW (Cond.selects RX11 yX11_isOf yX11_isOf) := ⟨tk_0 _ (List.mem_of_getElem? (l := k2_sels lw_privs) (i := 64) (by decide +kernel)), Or.inl rfl⟩
theorem hw_1143 : GW (Cond.code yX11_isOf cX11_isOf 3 (some .boolean)) := ⟨tk_7 _ (List.mem_of_getElem? (l := tables_1_7) (i := 194) rfl), Or.inl rfl⟩
theorem hw_1144 : GW (Cond.methodLink RX11 237 yX11_isCell) := ⟨tk_7 _ (List.mem_of_getElem? (l := tables_1_7) (i := 195) rfl), Or.inl rfl⟩
theorem hw_1145 : GW (Cond.instanceMethod yX11_isCell) := ⟨tk_7 _ (List.mem_of_getElem? (l := tables_1_7) (i := 197) rfl), Or.inl rfl⟩
theorem hw_1146 : GW (Cond.selects RX11 yX11_isCell yX11_isCell) := ⟨tk_0 _ (List.mem_of_getElem? (l := k2_sels lw_privs) (i := 65) (by decide +kernel)), Or.inl rfl⟩
theorem hw_1147 : GW (Cond.code yX11_isCell cX11_isCell 4 (some .boolean)) := ⟨tk_7 _ (List.mem_of_getElem? (l := tables_1_7) (i := 198) rfl), Or.inl rfl⟩
theorem hw_1148 : GW (Cond.methodLink RX11 252 yX11_far) := ⟨tk_7 _ (List.mem_of_getElem? (l := tables_1_7) (i := 199) rfl), Or.inl rfl⟩
theorem hw_1149 : GW (Cond.static yX11_far) := ⟨tk_7 _ (List.mem_of_getElem? (l := tables_1_7) (i := 200) rfl), Or.inl rfl⟩
theorem hw_1150 : GW (Cond.code yX11_far cX11_far 2 (some .int)) := ⟨tk_7 _ (List.mem_of_getElem? (l := tables_1_7) (i := 201) rfl), Or.inl rfl⟩
theorem hw_1151 : GW (Cond.methodLink RX11 255 yX11_takesOff) := ⟨tk_7 _ (List.mem_of_getElem? (l := tables_1_7) (i := 202) rfl), Or.inl rfl⟩
theorem hw_1152 : GW (Cond.static yX11_takesOff) := ⟨tk_7 _ (List.mem_of_getElem? (l := tables_1_7) (i := 203) rfl), Or.inl rfl⟩
theorem hw_1153 : GW (Cond.code yX11_takesOff cX11_takesOff 6 (some .int)) := ⟨tk_7 _ (List.mem_of_getElem? (l := tables_1_7) (i := 204) rfl), Or.inl rfl⟩
theorem hw_1154 : GW (Cond.methodLink RX11 218 yX11_less) := ⟨tk_7 _ (List.mem_of_getElem? (l := tables_1_7) (i := 205) rfl), Or.inl rfl⟩
theorem hw_1155 : GW (Cond.static yX11_less) := ⟨tk_7 _ (List.mem_of_getElem? (l := tables_1_7) (i := 206) rfl), Or.inl rfl⟩
theorem hw_1156 : GW (Cond.code yX11_less cX11_less 2 (some .int)) := ⟨tk_7 _ (List.mem_of_getElem? (l := tables_1_7) (i := 207) rfl), Or.inl rfl⟩
theorem hw_1157 : GW (Cond.methodLink RX11 244 yX11_filmOf) := ⟨tk_7 _ (List.mem_of_getElem? (l := tables_1_7) (i := 208) rfl), Or.inl rfl⟩
theorem hw_1158 : GW (Cond.static yX11_filmOf) := ⟨tk_7 _ (List.mem_of_getElem? (l := tables_1_7) (i := 209) rfl), Or.inl rfl⟩
theorem hw_1159 : GW (Cond.code yX11_filmOf cX11_filmOf 4 (some .int)) := ⟨tk_7 _ (List.mem_of_getElem? (l := tables_1_7) (i := 210) rfl), Or.inl rfl⟩
theorem hw_1160 : GW (Cond.methodLink RX11 284 yX11_dayEnds) := ⟨tk_7 _ (List.mem_of_getElem? (l := tables_1_7) (i := 211) rfl), Or.inl rfl⟩
theorem hw_1161 : GW (Cond.instanceMethod yX11_dayEnds) := ⟨tk_7 _ (List.mem_of_getElem? (l := tables_1_7) (i := 213) rfl), Or.inl rfl⟩
theorem hw_1162 : GW (Cond.selects RX11 yX11_dayEnds yX11_dayEnds) := ⟨tk_0 _ (List.mem_of_getElem? (l := k2_sels lw_privs) (i := 66) (by decide +kernel)), Or.inl rfl⟩
theorem hw_1163 : GW (Cond.code yX11_dayEnds cX11_dayEnds 4 (some .boolean)) := ⟨tk_7 _ (List.mem_of_getElem? (l := tables_1_7) (i := 214) rfl), Or.inl rfl⟩
theorem hw_1164 : GW (Cond.methodLink RX11 265 yX11_isShown) := ⟨tk_7 _ (List.mem_of_getElem? (l := tables_1_7) (i := 215) rfl), Or.inl rfl⟩
theorem hw_1165 : GW (Cond.instanceMethod yX11_isShown) := ⟨tk_7 _ (List.mem_of_getElem? (l := tables_1_7) (i := 217) rfl), Or.inl rfl⟩
theorem hw_1166 : GW (Cond.selects RX11 yX11_isShown yX11_isShown) := ⟨tk_0 _ (List.mem_of_getElem? (l := k2_sels lw_privs) (i := 67) (by decide +kernel)), Or.inl rfl⟩
theorem hw_1167 : GW (Cond.code yX11_isShown cX11_isShown 3 (some .boolean)) := ⟨tk_7 _ (List.mem_of_getElem? (l := tables_1_7) (i := 218) rfl), Or.inl rfl⟩
theorem hw_1168 : GW (Cond.methodLink RX11 327 yX11_cellOfOrder) := ⟨tk_7 _ (List.mem_of_getElem? (l := tables_1_7) (i := 219) rfl), Or.inl rfl⟩
theorem hw_1169 : GW (Cond.static yX11_cellOfOrder) := ⟨tk_7 _ (List.mem_of_getElem? (l := tables_1_7) (i := 220) rfl), Or.inl rfl⟩
theorem hw_1170 : GW (Cond.code yX11_cellOfOrder cX11_cellOfOrder 1 (some .int)) := ⟨tk_7 _ (List.mem_of_getElem? (l := tables_1_7) (i := 221) rfl), Or.inl rfl⟩
theorem hw_1171 : GW (Cond.methodLink RX11 321 yX11_cellOf) := ⟨tk_7 _ (List.mem_of_getElem? (l := tables_1_7) (i := 222) rfl), Or.inl rfl⟩
theorem hw_1172 : GW (Cond.static yX11_cellOf) := ⟨tk_7 _ (List.mem_of_getElem? (l := tables_1_7) (i := 223) rfl), Or.inl rfl⟩
theorem hw_1173 : GW (Cond.code yX11_cellOf cX11_cellOf 3 (some .int)) := ⟨tk_7 _ (List.mem_of_getElem? (l := tables_1_7) (i := 224) rfl), Or.inl rfl⟩
theorem hw_1174 : GW (Cond.methodLink RX11 269 yX11_rainOn) := ⟨tk_7 _ (List.mem_of_getElem? (l := tables_1_7) (i := 225) rfl), Or.inl rfl⟩
theorem hw_1175 : GW (Cond.instanceMethod yX11_rainOn) := ⟨tk_7 _ (List.mem_of_getElem? (l := tables_1_7) (i := 227) rfl), Or.inl rfl⟩
theorem hw_1176 : GW (Cond.selects RX11 yX11_rainOn yX11_rainOn) := ⟨tk_0 _ (List.mem_of_getElem? (l := k2_sels lw_privs) (i := 68) (by decide +kernel)), Or.inl rfl⟩
theorem hw_1177 : GW (Cond.code yX11_rainOn cX11_rainOn 4 (some .int)) := ⟨tk_7 _ (List.mem_of_getElem? (l := tables_1_7) (i := 228) rfl), Or.inl rfl⟩
theorem hw_1178 : GW (Cond.methodLink RX11 272 yX11_isSettling) := ⟨tk_7 _ (List.mem_of_getElem? (l := tables_1_7) (i := 229) rfl), Or.inl rfl⟩
theorem hw_1179 : GW (Cond.instanceMethod yX11_isSettling) := ⟨tk_7 _ (List.mem_of_getElem? (l := tables_1_7) (i := 231) rfl), Or.inl rfl⟩
theorem hw_1180 : GW (Cond.selects RX11 yX11_isSettling yX11_isSettling) := ⟨tk_0 _ (List.mem_of_getElem? (l := k2_sels lw_privs) (i := 69) (by decide +kernel)), Or.inl rfl⟩
theorem hw_1181 : GW (Cond.code yX11_isSettling cX11_isSettling 6 (some .boolean)) := ⟨tk_7 _ (List.mem_of_getElem? (l := tables_1_7) (i := 232) rfl), Or.inl rfl⟩
theorem hw_1182 : GW (Cond.fieldLink RX11 61 "PaneDaysModel" "known" "[I") := ⟨tk_6 _ (List.mem_of_getElem? (l := tables_1_6) (i := 176) rfl), Or.inl rfl⟩
theorem hw_1183 : GW (Cond.methodLink RX11 259 yX11_has) := ⟨tk_7 _ (List.mem_of_getElem? (l := tables_1_7) (i := 233) rfl), Or.inl rfl⟩
theorem hw_1184 : GW (Cond.static yX11_has) := ⟨tk_7 _ (List.mem_of_getElem? (l := tables_1_7) (i := 234) rfl), Or.inl rfl⟩
theorem hw_1185 : GW (Cond.code yX11_has cX11_has 2 (some .boolean)) := ⟨tk_7 _ (List.mem_of_getElem? (l := tables_1_7) (i := 235) rfl), Or.inl rfl⟩
theorem hw_1186 : GW (Cond.methodLink RX11 262 yX11_byLaw) := ⟨tk_7 _ (List.mem_of_getElem? (l := tables_1_7) (i := 236) rfl), Or.inl rfl⟩
theorem hw_1187 : GW (Cond.instanceMethod yX11_byLaw) := ⟨tk_7 _ (List.mem_of_getElem? (l := tables_1_7) (i := 238) rfl), Or.inl rfl⟩
theorem hw_1188 : GW (Cond.selects RX11 yX11_byLaw yX11_byLaw) := ⟨tk_0 _ (List.mem_of_getElem? (l := k2_sels lw_privs) (i := 70) (by decide +kernel)), Or.inl rfl⟩
theorem hw_1189 : GW (Cond.code yX11_byLaw cX11_byLaw 3 (some .int)) := ⟨tk_7 _ (List.mem_of_getElem? (l := tables_1_7) (i := 239) rfl), Or.inl rfl⟩
theorem hw_1190 : GW (Cond.fieldLink RX11 58 "PaneDaysModel" "stack" "[I") := ⟨tk_6 _ (List.mem_of_getElem? (l := tables_1_6) (i := 175) rfl), Or.inl rfl⟩
theorem hw_1191 : GW (Cond.methodLink RX11 224 yX11_worked) := ⟨tk_8 _ (List.mem_of_getElem? (l := tables_1_8) (i := 0) rfl), Or.inl rfl⟩
theorem hw_1192 : GW (Cond.static yX11_worked) := ⟨tk_8 _ (List.mem_of_getElem? (l := tables_1_8) (i := 1) rfl), Or.inl rfl⟩
theorem hw_1193 : GW (Cond.code yX11_worked cX11_worked 3 (some .int)) := ⟨tk_8 _ (List.mem_of_getElem? (l := tables_1_8) (i := 2) rfl), Or.inl rfl⟩
theorem hw_1194 : GW (Cond.methodLink RX11 221 yX11_more) := ⟨tk_8 _ (List.mem_of_getElem? (l := tables_1_8) (i := 3) rfl), Or.inl rfl⟩
theorem hw_1195 : GW (Cond.static yX11_more) := ⟨tk_8 _ (List.mem_of_getElem? (l := tables_1_8) (i := 4) rfl), Or.inl rfl⟩
theorem hw_1196 : GW (Cond.code yX11_more cX11_more 2 (some .int)) := ⟨tk_8 _ (List.mem_of_getElem? (l := tables_1_8) (i := 5) rfl), Or.inl rfl⟩
theorem hw_1197 : GW (Cond.methodLink RX11 276 yX11_filmsOver) := ⟨tk_8 _ (List.mem_of_getElem? (l := tables_1_8) (i := 6) rfl), Or.inl rfl⟩
theorem hw_1198 : GW (Cond.instanceMethod yX11_filmsOver) := ⟨tk_8 _ (List.mem_of_getElem? (l := tables_1_8) (i := 8) rfl), Or.inl rfl⟩
theorem hw_1199 : GW (Cond.selects RX11 yX11_filmsOver yX11_filmsOver) := ⟨tk_0 _ (List.mem_of_getElem? (l := k2_sels lw_privs) (i := 71) (by decide +kernel)), Or.inl rfl⟩
theorem hw_1200 : GW (Cond.code yX11_filmsOver cX11_filmsOver 6 none) := ⟨tk_8 _ (List.mem_of_getElem? (l := tables_1_8) (i := 9) rfl), Or.inl rfl⟩
theorem hw_1201 : GW (Cond.methodLink RX11 288 yX11_onRag) := ⟨tk_8 _ (List.mem_of_getElem? (l := tables_1_8) (i := 10) rfl), Or.inl rfl⟩
theorem hw_1202 : GW (Cond.static yX11_onRag) := ⟨tk_8 _ (List.mem_of_getElem? (l := tables_1_8) (i := 11) rfl), Or.inl rfl⟩
theorem hw_1203 : GW (Cond.code yX11_onRag cX11_onRag 3 (some .int)) := ⟨tk_8 _ (List.mem_of_getElem? (l := tables_1_8) (i := 12) rfl), Or.inl rfl⟩
theorem hw_1204 : GW (Cond.methodLink RX11 292 yX11_breaks) := ⟨tk_8 _ (List.mem_of_getElem? (l := tables_1_8) (i := 13) rfl), Or.inl rfl⟩
theorem hw_1205 : GW (Cond.static yX11_breaks) := ⟨tk_8 _ (List.mem_of_getElem? (l := tables_1_8) (i := 14) rfl), Or.inl rfl⟩
theorem hw_1206 : GW (Cond.code yX11_breaks cX11_breaks 3 (some .boolean)) := ⟨tk_8 _ (List.mem_of_getElem? (l := tables_1_8) (i := 15) rfl), Or.inl rfl⟩
theorem hw_1207 : GW (Cond.code yX11_book cX11_book 7 (some .int)) := ⟨tk_7 _ (List.mem_of_getElem? (l := tables_1_7) (i := 159) rfl), Or.inl rfl⟩
theorem hw_1208 : GW (Cond.fieldLink RX11 55 "PaneDaysModel" "readBook" "[[I") := ⟨tk_6 _ (List.mem_of_getElem? (l := tables_1_6) (i := 174) rfl), Or.inl rfl⟩
theorem hw_1209 : GW (Cond.fieldLink RX11 52 "PaneDaysModel" "book" "[[I") := ⟨tk_6 _ (List.mem_of_getElem? (l := tables_1_6) (i := 173) rfl), Or.inl rfl⟩
theorem hw_1210 : GW (Cond.code yX11_fault cX11_fault 1 (some .int)) := ⟨tk_7 _ (List.mem_of_getElem? (l := tables_1_7) (i := 163) rfl), Or.inl rfl⟩
theorem hw_1211 : GW (Cond.code yX11_undo cX11_undo 1 (some .int)) := ⟨tk_8 _ (List.mem_of_getElem? (l := tables_1_8) (i := 19) rfl), Or.inl rfl⟩
theorem hw_1212 : GW (Cond.code yX11_told cX11_told 2 (some .int)) := ⟨tk_8 _ (List.mem_of_getElem? (l := tables_1_8) (i := 23) rfl), Or.inl rfl⟩
theorem hw_1213 : GW (Cond.methodLink RX11 312 yX11_onAll) := ⟨tk_8 _ (List.mem_of_getElem? (l := tables_1_8) (i := 24) rfl), Or.inl rfl⟩
theorem hw_1214 : GW (Cond.instanceMethod yX11_onAll) := ⟨tk_8 _ (List.mem_of_getElem? (l := tables_1_8) (i := 26) rfl), Or.inl rfl⟩
theorem hw_1215 : GW (Cond.selects RX11 yX11_onAll yX11_onAll) := ⟨tk_0 _ (List.mem_of_getElem? (l := k2_sels lw_privs) (i := 72) (by decide +kernel)), Or.inl rfl⟩
theorem hw_1216 : GW (Cond.code yX11_onAll cX11_onAll 4 (some .int)) := ⟨tk_8 _ (List.mem_of_getElem? (l := tables_1_8) (i := 27) rfl), Or.inl rfl⟩
theorem hw_1217 : GW (Cond.methodLink RX11 240 yX11_onPane) := ⟨tk_8 _ (List.mem_of_getElem? (l := tables_1_8) (i := 28) rfl), Or.inl rfl⟩
theorem hw_1218 : GW (Cond.static yX11_onPane) := ⟨tk_8 _ (List.mem_of_getElem? (l := tables_1_8) (i := 29) rfl), Or.inl rfl⟩
theorem hw_1219 : GW (Cond.code yX11_onPane cX11_onPane 4 (some .int)) := ⟨tk_8 _ (List.mem_of_getElem? (l := tables_1_8) (i := 30) rfl), Or.inl rfl⟩
theorem hw_1220 : GW (Cond.code yX11_pane cX11_pane 3 (some .int)) := ⟨tk_8 _ (List.mem_of_getElem? (l := tables_1_8) (i := 34) rfl), Or.inl rfl⟩
theorem hw_1221 : GW (Cond.methodLink RX11 315 yX11_isPane) := ⟨tk_8 _ (List.mem_of_getElem? (l := tables_1_8) (i := 35) rfl), Or.inl rfl⟩
theorem hw_1222 : GW (Cond.instanceMethod yX11_isPane) := ⟨tk_8 _ (List.mem_of_getElem? (l := tables_1_8) (i := 37) rfl), Or.inl rfl⟩
theorem hw_1223 : GW (Cond.selects RX11 yX11_isPane yX11_isPane) := ⟨tk_0 _ (List.mem_of_getElem? (l := k2_sels lw_privs) (i := 73) (by decide +kernel)), Or.inl rfl⟩
theorem hw_1224 : GW (Cond.code yX11_isPane cX11_isPane 2 (some .boolean)) := ⟨tk_8 _ (List.mem_of_getElem? (l := tables_1_8) (i := 38) rfl), Or.inl rfl⟩
theorem hw_1225 : GW (Cond.code yX11_shows cX11_shows 4 (some .int)) := ⟨tk_8 _ (List.mem_of_getElem? (l := tables_1_8) (i := 42) rfl), Or.inl rfl⟩
theorem hw_1226 : GW (Cond.methodLink RX11 318 yX11_noCell) := ⟨tk_8 _ (List.mem_of_getElem? (l := tables_1_8) (i := 43) rfl), Or.inl rfl⟩
theorem hw_1227 : GW (Cond.instanceMethod yX11_noCell) := ⟨tk_8 _ (List.mem_of_getElem? (l := tables_1_8) (i := 45) rfl), Or.inl rfl⟩
theorem hw_1228 : GW (Cond.selects RX11 yX11_noCell yX11_noCell) := ⟨tk_0 _ (List.mem_of_getElem? (l := k2_sels lw_privs) (i := 74) (by decide +kernel)), Or.inl rfl⟩
theorem hw_1229 : GW (Cond.code yX11_noCell cX11_noCell 4 (some .boolean)) := ⟨tk_8 _ (List.mem_of_getElem? (l := tables_1_8) (i := 46) rfl), Or.inl rfl⟩
theorem hw_1230 : GW (Cond.code yX11_deep cX11_deep 4 (some .int)) := ⟨tk_8 _ (List.mem_of_getElem? (l := tables_1_8) (i := 50) rfl), Or.inl rfl⟩
theorem hw_1231 : GW (Cond.code yX11_film cX11_film 5 (some .int)) := ⟨tk_8 _ (List.mem_of_getElem? (l := tables_1_8) (i := 54) rfl), Or.inl rfl⟩
theorem hw_1232 : GW (Cond.code yX11_films cX11_films 5 (some .int)) := ⟨tk_8 _ (List.mem_of_getElem? (l := tables_1_8) (i := 58) rfl), Or.inl rfl⟩
theorem hw_1233 : GW (Cond.methodLink RX11 324 yX11_onCell) := ⟨tk_8 _ (List.mem_of_getElem? (l := tables_1_8) (i := 59) rfl), Or.inl rfl⟩
theorem hw_1234 : GW (Cond.static yX11_onCell) := ⟨tk_8 _ (List.mem_of_getElem? (l := tables_1_8) (i := 60) rfl), Or.inl rfl⟩
theorem hw_1235 : GW (Cond.code yX11_onCell cX11_onCell 5 (some .int)) := ⟨tk_8 _ (List.mem_of_getElem? (l := tables_1_8) (i := 61) rfl), Or.inl rfl⟩
theorem hw_1236 : GW (Cond.code yX11_have cX11_have 5 (some .int)) := ⟨tk_8 _ (List.mem_of_getElem? (l := tables_1_8) (i := 65) rfl), Or.inl rfl⟩
theorem hw_1237 : GW (Cond.code yX11_showing cX11_showing 5 (some .int)) := ⟨tk_8 _ (List.mem_of_getElem? (l := tables_1_8) (i := 69) rfl), Or.inl rfl⟩
theorem hw_1238 : GW (Cond.code yX11_settles cX11_settles 4 (some .boolean)) := ⟨tk_8 _ (List.mem_of_getElem? (l := tables_1_8) (i := 73) rfl), Or.inl rfl⟩
theorem hw_1239 : GW (Cond.code yX11_order cX11_order 3 (some .int)) := ⟨tk_8 _ (List.mem_of_getElem? (l := tables_1_8) (i := 77) rfl), Or.inl rfl⟩
theorem hw_1240 : GW (Cond.methodLink RX11 330 yX11_isOrder) := ⟨tk_8 _ (List.mem_of_getElem? (l := tables_1_8) (i := 78) rfl), Or.inl rfl⟩
theorem hw_1241 : GW (Cond.instanceMethod yX11_isOrder) := ⟨tk_8 _ (List.mem_of_getElem? (l := tables_1_8) (i := 80) rfl), Or.inl rfl⟩
theorem hw_1242 : GW (Cond.selects RX11 yX11_isOrder yX11_isOrder) := ⟨tk_0 _ (List.mem_of_getElem? (l := k2_sels lw_privs) (i := 75) (by decide +kernel)), Or.inl rfl⟩
theorem hw_1243 : GW (Cond.code yX11_isOrder cX11_isOrder 2 (some .boolean)) := ⟨tk_8 _ (List.mem_of_getElem? (l := tables_1_8) (i := 81) rfl), Or.inl rfl⟩
theorem hw_1244 : GW (Cond.methodLink RX11 333 yX11_stateOf) := ⟨tk_8 _ (List.mem_of_getElem? (l := tables_1_8) (i := 82) rfl), Or.inl rfl⟩
theorem hw_1245 : GW (Cond.instanceMethod yX11_stateOf) := ⟨tk_8 _ (List.mem_of_getElem? (l := tables_1_8) (i := 84) rfl), Or.inl rfl⟩
theorem hw_1246 : GW (Cond.selects RX11 yX11_stateOf yX11_stateOf) := ⟨tk_0 _ (List.mem_of_getElem? (l := k2_sels lw_privs) (i := 76) (by decide +kernel)), Or.inl rfl⟩
theorem hw_1247 : GW (Cond.code yX11_stateOf cX11_stateOf 2 (some .int)) := ⟨tk_8 _ (List.mem_of_getElem? (l := tables_1_8) (i := 85) rfl), Or.inl rfl⟩
theorem hw_1248 : GW (Cond.code yX11_needs cX11_needs 2 (some .int)) := ⟨tk_8 _ (List.mem_of_getElem? (l := tables_1_8) (i := 89) rfl), Or.inl rfl⟩
theorem hw_1249 : GW (Cond.methodLink RX11 336 yX11_outsideOf) := ⟨tk_8 _ (List.mem_of_getElem? (l := tables_1_8) (i := 90) rfl), Or.inl rfl⟩
theorem hw_1250 : GW (Cond.static yX11_outsideOf) := ⟨tk_8 _ (List.mem_of_getElem? (l := tables_1_8) (i := 91) rfl), Or.inl rfl⟩
theorem hw_1251 : GW (Cond.code yX11_outsideOf cX11_outsideOf 4 (some .int)) := ⟨tk_8 _ (List.mem_of_getElem? (l := tables_1_8) (i := 92) rfl), Or.inl rfl⟩
theorem hw_1252 : GW (Cond.code yX11_lost cX11_lost 2 (some .int)) := ⟨tk_8 _ (List.mem_of_getElem? (l := tables_1_8) (i := 96) rfl), Or.inl rfl⟩
theorem hw_1253 : GW (Cond.code yX11_cost cX11_cost 4 (some .int)) := ⟨tk_8 _ (List.mem_of_getElem? (l := tables_1_8) (i := 100) rfl), Or.inl rfl⟩
theorem hw_1254 : GW (Cond.methodLink RX11 342 yX11_areCells) := ⟨tk_8 _ (List.mem_of_getElem? (l := tables_1_8) (i := 101) rfl), Or.inl rfl⟩
theorem hw_1255 : GW (Cond.instanceMethod yX11_areCells) := ⟨tk_8 _ (List.mem_of_getElem? (l := tables_1_8) (i := 103) rfl), Or.inl rfl⟩
theorem hw_1256 : GW (Cond.selects RX11 yX11_areCells yX11_areCells) := ⟨tk_0 _ (List.mem_of_getElem? (l := k2_sels lw_privs) (i := 77) (by decide +kernel)), Or.inl rfl⟩
theorem hw_1257 : GW (Cond.code yX11_areCells cX11_areCells 3 (some .boolean)) := ⟨tk_8 _ (List.mem_of_getElem? (l := tables_1_8) (i := 104) rfl), Or.inl rfl⟩
theorem hw_1258 : GW (Cond.methodLink RX11 339 yX11_cellsOf) := ⟨tk_8 _ (List.mem_of_getElem? (l := tables_1_8) (i := 105) rfl), Or.inl rfl⟩
theorem hw_1259 : GW (Cond.instanceMethod yX11_cellsOf) := ⟨tk_8 _ (List.mem_of_getElem? (l := tables_1_8) (i := 107) rfl), Or.inl rfl⟩
theorem hw_1260 : GW (Cond.selects RX11 yX11_cellsOf yX11_cellsOf) := ⟨tk_0 _ (List.mem_of_getElem? (l := k2_sels lw_privs) (i := 78) (by decide +kernel)), Or.inl rfl⟩
theorem hw_1261 : GW (Cond.code yX11_cellsOf cX11_cellsOf 4 (some .int)) := ⟨tk_8 _ (List.mem_of_getElem? (l := tables_1_8) (i := 108) rfl), Or.inl rfl⟩
theorem hw_1262 : GW (Cond.methodLink RX11 345 yX11_costOf) := ⟨tk_8 _ (List.mem_of_getElem? (l := tables_1_8) (i := 109) rfl), Or.inl rfl⟩
theorem hw_1263 : GW (Cond.instanceMethod yX11_costOf) := ⟨tk_8 _ (List.mem_of_getElem? (l := tables_1_8) (i := 111) rfl), Or.inl rfl⟩
theorem hw_1264 : GW (Cond.selects RX11 yX11_costOf yX11_costOf) := ⟨tk_0 _ (List.mem_of_getElem? (l := k2_sels lw_privs) (i := 79) (by decide +kernel)), Or.inl rfl⟩
theorem hw_1265 : GW (Cond.code yX11_costOf cX11_costOf 7 (some .int)) := ⟨tk_8 _ (List.mem_of_getElem? (l := tables_1_8) (i := 112) rfl), Or.inl rfl⟩
theorem hw_1266 : GW (Cond.code yX11_view cX11_view 8 (some .int)) := ⟨tk_8 _ (List.mem_of_getElem? (l := tables_1_8) (i := 116) rfl), Or.inl rfl⟩
theorem hw_1267 : GW (Cond.code yX11_seams cX11_seams 2 (some .int)) := ⟨tk_8 _ (List.mem_of_getElem? (l := tables_1_8) (i := 120) rfl), Or.inl rfl⟩
theorem hw_1268 : GW (Cond.methodLink RX11 348 yX11_seamsOf) := ⟨tk_8 _ (List.mem_of_getElem? (l := tables_1_8) (i := 121) rfl), Or.inl rfl⟩
theorem hw_1269 : GW (Cond.instanceMethod yX11_seamsOf) := ⟨tk_8 _ (List.mem_of_getElem? (l := tables_1_8) (i := 123) rfl), Or.inl rfl⟩
theorem hw_1270 : GW (Cond.selects RX11 yX11_seamsOf yX11_seamsOf) := ⟨tk_0 _ (List.mem_of_getElem? (l := k2_sels lw_privs) (i := 80) (by decide +kernel)), Or.inl rfl⟩
theorem hw_1271 : GW (Cond.code yX11_seamsOf cX11_seamsOf 6 (some .int)) := ⟨tk_8 _ (List.mem_of_getElem? (l := tables_1_8) (i := 124) rfl), Or.inl rfl⟩
theorem hw_1272 : GW (Cond.code yX11_sights cX11_sights 2 (some .int)) := ⟨tk_8 _ (List.mem_of_getElem? (l := tables_1_8) (i := 128) rfl), Or.inl rfl⟩
theorem hw_1273 : GW (Cond.methodLink RX11 351 yX11_sightsOf) := ⟨tk_8 _ (List.mem_of_getElem? (l := tables_1_8) (i := 129) rfl), Or.inl rfl⟩
theorem hw_1274 : GW (Cond.static yX11_sightsOf) := ⟨tk_8 _ (List.mem_of_getElem? (l := tables_1_8) (i := 130) rfl), Or.inl rfl⟩
theorem hw_1275 : GW (Cond.code yX11_sightsOf cX11_sightsOf 7 (some .int)) := ⟨tk_8 _ (List.mem_of_getElem? (l := tables_1_8) (i := 131) rfl), Or.inl rfl⟩
theorem hw_1276 : GW (Cond.code yX11_alike cX11_alike 5 (some .int)) := ⟨tk_8 _ (List.mem_of_getElem? (l := tables_1_8) (i := 135) rfl), Or.inl rfl⟩
theorem hw_1277 : GW (Cond.code yX11_oldest cX11_oldest 8 (some .int)) := ⟨tk_8 _ (List.mem_of_getElem? (l := tables_1_8) (i := 139) rfl), Or.inl rfl⟩
theorem hw_1278 : GW (Cond.code yX11_thick cX11_thick 4 (some .int)) := ⟨tk_8 _ (List.mem_of_getElem? (l := tables_1_8) (i := 143) rfl), Or.inl rfl⟩
theorem hw_1279 : GW (Cond.code yX11_patch cX11_patch 10 (some .int)) := ⟨tk_8 _ (List.mem_of_getElem? (l := tables_1_8) (i := 147) rfl), Or.inl rfl⟩
theorem hw_1280 : GW (Cond.methodLink RX11 354 yX11_patchOf) := ⟨tk_8 _ (List.mem_of_getElem? (l := tables_1_8) (i := 148) rfl), Or.inl rfl⟩
theorem hw_1281 : GW (Cond.instanceMethod yX11_patchOf) := ⟨tk_8 _ (List.mem_of_getElem? (l := tables_1_8) (i := 150) rfl), Or.inl rfl⟩
theorem hw_1282 : GW (Cond.selects RX11 yX11_patchOf yX11_patchOf) := ⟨tk_0 _ (List.mem_of_getElem? (l := k2_sels lw_privs) (i := 81) (by decide +kernel)), Or.inl rfl⟩
theorem hw_1283 : GW (Cond.code yX11_patchOf cX11_patchOf 8 (some .int)) := ⟨tk_8 _ (List.mem_of_getElem? (l := tables_1_8) (i := 151) rfl), Or.inl rfl⟩
theorem hw_1284 : GW (Cond.code yX11_tells cX11_tells 2 (some .int)) := ⟨tk_8 _ (List.mem_of_getElem? (l := tables_1_8) (i := 155) rfl), Or.inl rfl⟩
theorem hw_1285 : GW (Cond.methodLink RX11 360 yX11_depthsOf) := ⟨tk_8 _ (List.mem_of_getElem? (l := tables_1_8) (i := 156) rfl), Or.inl rfl⟩
theorem hw_1286 : GW (Cond.instanceMethod yX11_depthsOf) := ⟨tk_8 _ (List.mem_of_getElem? (l := tables_1_8) (i := 158) rfl), Or.inl rfl⟩
theorem hw_1287 : GW (Cond.selects RX11 yX11_depthsOf yX11_depthsOf) := ⟨tk_0 _ (List.mem_of_getElem? (l := k2_sels lw_privs) (i := 82) (by decide +kernel)), Or.inl rfl⟩
theorem hw_1288 : GW (Cond.code yX11_depthsOf cX11_depthsOf 4 (some .int)) := ⟨tk_8 _ (List.mem_of_getElem? (l := tables_1_8) (i := 159) rfl), Or.inl rfl⟩
theorem hw_1289 : GW (Cond.methodLink RX11 357 yX11_isToldBy) := ⟨tk_8 _ (List.mem_of_getElem? (l := tables_1_8) (i := 160) rfl), Or.inl rfl⟩
theorem hw_1290 : GW (Cond.instanceMethod yX11_isToldBy) := ⟨tk_8 _ (List.mem_of_getElem? (l := tables_1_8) (i := 162) rfl), Or.inl rfl⟩
theorem hw_1291 : GW (Cond.selects RX11 yX11_isToldBy yX11_isToldBy) := ⟨tk_0 _ (List.mem_of_getElem? (l := k2_sels lw_privs) (i := 83) (by decide +kernel)), Or.inl rfl⟩
theorem hw_1292 : GW (Cond.code yX11_isToldBy cX11_isToldBy 4 (some .boolean)) := ⟨tk_8 _ (List.mem_of_getElem? (l := tables_1_8) (i := 163) rfl), Or.inl rfl⟩
theorem hw_1293 : GW (Cond.code yX11_look cX11_look 8 (some .int)) := ⟨tk_8 _ (List.mem_of_getElem? (l := tables_1_8) (i := 167) rfl), Or.inl rfl⟩
theorem hw_1294 : GW (Cond.methodLink RX11 363 yX11_isInBook) := ⟨tk_8 _ (List.mem_of_getElem? (l := tables_1_8) (i := 168) rfl), Or.inl rfl⟩
theorem hw_1295 : GW (Cond.instanceMethod yX11_isInBook) := ⟨tk_8 _ (List.mem_of_getElem? (l := tables_1_8) (i := 170) rfl), Or.inl rfl⟩
theorem hw_1296 : GW (Cond.selects RX11 yX11_isInBook yX11_isInBook) := ⟨tk_0 _ (List.mem_of_getElem? (l := k2_sels lw_privs) (i := 84) (by decide +kernel)), Or.inl rfl⟩
theorem hw_1297 : GW (Cond.code yX11_isInBook cX11_isInBook 3 (some .boolean)) := ⟨tk_8 _ (List.mem_of_getElem? (l := tables_1_8) (i := 171) rfl), Or.inl rfl⟩
theorem hw_1298 : GW (Cond.methodLink RX11 366 yX11_worstOf) := ⟨tk_8 _ (List.mem_of_getElem? (l := tables_1_8) (i := 172) rfl), Or.inl rfl⟩
theorem hw_1299 : GW (Cond.instanceMethod yX11_worstOf) := ⟨tk_8 _ (List.mem_of_getElem? (l := tables_1_8) (i := 174) rfl), Or.inl rfl⟩
theorem hw_1300 : GW (Cond.selects RX11 yX11_worstOf yX11_worstOf) := ⟨tk_0 _ (List.mem_of_getElem? (l := k2_sels lw_privs) (i := 85) (by decide +kernel)), Or.inl rfl⟩
theorem hw_1301 : GW (Cond.code yX11_worstOf cX11_worstOf 8 (some .int)) := ⟨tk_8 _ (List.mem_of_getElem? (l := tables_1_8) (i := 175) rfl), Or.inl rfl⟩
theorem hw_1302 : GW (Cond.code yX11_cover cX11_cover 6 (some .int)) := ⟨tk_8 _ (List.mem_of_getElem? (l := tables_1_8) (i := 179) rfl), Or.inl rfl⟩
theorem hw_1303 : GW (Cond.fieldLink RX11 369 "PaneDaysModel" "coverRow" "I") := ⟨tk_6 _ (List.mem_of_getElem? (l := tables_1_6) (i := 190) rfl), Or.inl rfl⟩
theorem hw_1304 : GW (Cond.methodLink RX11 375 yX11_covers) := ⟨tk_8 _ (List.mem_of_getElem? (l := tables_1_8) (i := 180) rfl), Or.inl rfl⟩
theorem hw_1305 : GW (Cond.instanceMethod yX11_covers) := ⟨tk_8 _ (List.mem_of_getElem? (l := tables_1_8) (i := 182) rfl), Or.inl rfl⟩
theorem hw_1306 : GW (Cond.selects RX11 yX11_covers yX11_covers) := ⟨tk_0 _ (List.mem_of_getElem? (l := k2_sels lw_privs) (i := 86) (by decide +kernel)), Or.inl rfl⟩
theorem hw_1307 : GW (Cond.code yX11_covers cX11_covers 8 (some .boolean)) := ⟨tk_8 _ (List.mem_of_getElem? (l := tables_1_8) (i := 183) rfl), Or.inl rfl⟩
theorem hw_1308 : GW (Cond.methodLink RX11 372 yX11_circleOf) := ⟨tk_8 _ (List.mem_of_getElem? (l := tables_1_8) (i := 184) rfl), Or.inl rfl⟩
theorem hw_1309 : GW (Cond.instanceMethod yX11_circleOf) := ⟨tk_8 _ (List.mem_of_getElem? (l := tables_1_8) (i := 186) rfl), Or.inl rfl⟩
theorem hw_1310 : GW (Cond.selects RX11 yX11_circleOf yX11_circleOf) := ⟨tk_0 _ (List.mem_of_getElem? (l := k2_sels lw_privs) (i := 87) (by decide +kernel)), Or.inl rfl⟩
theorem hw_1311 : GW (Cond.code yX11_circleOf cX11_circleOf 6 (some .int)) := ⟨tk_8 _ (List.mem_of_getElem? (l := tables_1_8) (i := 187) rfl), Or.inl rfl⟩
theorem hw_1312 : GW (Cond.code yX11_game cX11_game 10 (some .int)) := ⟨tk_8 _ (List.mem_of_getElem? (l := tables_1_8) (i := 191) rfl), Or.inl rfl⟩
theorem hw_1313 : GW (Cond.code yX11_round cX11_round 3 (some .int)) := ⟨tk_8 _ (List.mem_of_getElem? (l := tables_1_8) (i := 195) rfl), Or.inl rfl⟩
theorem hw_1314 : GW (Cond.fieldLink RX11 378 "PaneDaysModel" "roundLeast" "I") := ⟨tk_6 _ (List.mem_of_getElem? (l := tables_1_6) (i := 191) rfl), Or.inl rfl⟩
theorem hw_1315 : GW (Cond.fieldLink RX11 381 "PaneDaysModel" "roundRow" "I") := ⟨tk_6 _ (List.mem_of_getElem? (l := tables_1_6) (i := 192) rfl), Or.inl rfl⟩
theorem hw_1316 : GW (Cond.methodLink RX11 391 yX11_areOrders) := ⟨tk_8 _ (List.mem_of_getElem? (l := tables_1_8) (i := 196) rfl), Or.inl rfl⟩
theorem hw_1317 : GW (Cond.instanceMethod yX11_areOrders) := ⟨tk_8 _ (List.mem_of_getElem? (l := tables_1_8) (i := 198) rfl), Or.inl rfl⟩
theorem hw_1318 : GW (Cond.selects RX11 yX11_areOrders yX11_areOrders) := ⟨tk_0 _ (List.mem_of_getElem? (l := k2_sels lw_privs) (i := 88) (by decide +kernel)), Or.inl rfl⟩
theorem hw_1319 : GW (Cond.code yX11_areOrders cX11_areOrders 2 (some .boolean)) := ⟨tk_8 _ (List.mem_of_getElem? (l := tables_1_8) (i := 199) rfl), Or.inl rfl⟩
theorem hw_1320 : GW (Cond.methodLink RX11 394 yX11_panesOf) := ⟨tk_8 _ (List.mem_of_getElem? (l := tables_1_8) (i := 200) rfl), Or.inl rfl⟩
theorem hw_1321 : GW (Cond.instanceMethod yX11_panesOf) := ⟨tk_8 _ (List.mem_of_getElem? (l := tables_1_8) (i := 202) rfl), Or.inl rfl⟩
theorem hw_1322 : GW (Cond.selects RX11 yX11_panesOf yX11_panesOf) := ⟨tk_0 _ (List.mem_of_getElem? (l := k2_sels lw_privs) (i := 89) (by decide +kernel)), Or.inl rfl⟩
theorem hw_1323 : GW (Cond.code yX11_panesOf cX11_panesOf 4 (some .int)) := ⟨tk_8 _ (List.mem_of_getElem? (l := tables_1_8) (i := 203) rfl), Or.inl rfl⟩
theorem hw_1324 : GW (Cond.methodLink RX11 387 yX11_rounds) := ⟨tk_8 _ (List.mem_of_getElem? (l := tables_1_8) (i := 204) rfl), Or.inl rfl⟩
theorem hw_1325 : GW (Cond.instanceMethod yX11_rounds) := ⟨tk_8 _ (List.mem_of_getElem? (l := tables_1_8) (i := 206) rfl), Or.inl rfl⟩
theorem hw_1326 : GW (Cond.selects RX11 yX11_rounds yX11_rounds) := ⟨tk_0 _ (List.mem_of_getElem? (l := k2_sels lw_privs) (i := 90) (by decide +kernel)), Or.inl rfl⟩
theorem hw_1327 : GW (Cond.code yX11_rounds cX11_rounds 6 none) := ⟨tk_8 _ (List.mem_of_getElem? (l := tables_1_8) (i := 207) rfl), Or.inl rfl⟩
theorem hw_1328 : GW (Cond.methodLink RX11 384 yX11_wayTo) := ⟨tk_8 _ (List.mem_of_getElem? (l := tables_1_8) (i := 208) rfl), Or.inl rfl⟩
theorem hw_1329 : GW (Cond.instanceMethod yX11_wayTo) := ⟨tk_8 _ (List.mem_of_getElem? (l := tables_1_8) (i := 210) rfl), Or.inl rfl⟩
theorem hw_1330 : GW (Cond.selects RX11 yX11_wayTo yX11_wayTo) := ⟨tk_0 _ (List.mem_of_getElem? (l := k2_sels lw_privs) (i := 91) (by decide +kernel)), Or.inl rfl⟩
theorem hw_1331 : GW (Cond.code yX11_wayTo cX11_wayTo 3 (some .int)) := ⟨tk_8 _ (List.mem_of_getElem? (l := tables_1_8) (i := 211) rfl), Or.inl rfl⟩
theorem hw_1332 : GW (Cond.code yX11_by cX11_by 4 (some .boolean)) := ⟨tk_8 _ (List.mem_of_getElem? (l := tables_1_8) (i := 215) rfl), Or.inl rfl⟩
theorem hw_1333 : GW (Cond.methodLink RX11 397 yX11_isInTime) := ⟨tk_8 _ (List.mem_of_getElem? (l := tables_1_8) (i := 216) rfl), Or.inl rfl⟩
theorem hw_1334 : GW (Cond.instanceMethod yX11_isInTime) := ⟨tk_8 _ (List.mem_of_getElem? (l := tables_1_8) (i := 218) rfl), Or.inl rfl⟩
theorem hw_1335 : GW (Cond.selects RX11 yX11_isInTime yX11_isInTime) := ⟨tk_0 _ (List.mem_of_getElem? (l := k2_sels lw_privs) (i := 92) (by decide +kernel)), Or.inl rfl⟩
theorem hw_1336 : GW (Cond.code yX11_isInTime cX11_isInTime 10 (some .boolean)) := ⟨tk_8 _ (List.mem_of_getElem? (l := tables_1_8) (i := 219) rfl), Or.inl rfl⟩
theorem hw_1337 : GW (Cond.code yX11_share cX11_share 9 (some .int)) := ⟨tk_8 _ (List.mem_of_getElem? (l := tables_1_8) (i := 223) rfl), Or.inl rfl⟩
theorem hw_1338 : GW (Cond.code yX11_ahead cX11_ahead 5 (some .int)) := ⟨tk_8 _ (List.mem_of_getElem? (l := tables_1_8) (i := 227) rfl), Or.inl rfl⟩
theorem hw_1339 : GW (Cond.fieldLink RX11 70 "PaneDaysModel" "trial" "[I") := ⟨tk_6 _ (List.mem_of_getElem? (l := tables_1_6) (i := 180) rfl), Or.inl rfl⟩
theorem hw_1340 : GW (Cond.code yX11_decade cX11_decade 5 (some .int)) := ⟨tk_8 _ (List.mem_of_getElem? (l := tables_1_8) (i := 231) rfl), Or.inl rfl⟩
theorem hw_1341 : GW (Cond.methodLink RX11 405 yX11_decades) := ⟨tk_8 _ (List.mem_of_getElem? (l := tables_1_8) (i := 232) rfl), Or.inl rfl⟩
theorem hw_1342 : GW (Cond.instanceMethod yX11_decades) := ⟨tk_8 _ (List.mem_of_getElem? (l := tables_1_8) (i := 234) rfl), Or.inl rfl⟩
theorem hw_1343 : GW (Cond.selects RX11 yX11_decades yX11_decades) := ⟨tk_0 _ (List.mem_of_getElem? (l := k2_sels lw_privs) (i := 93) (by decide +kernel)), Or.inl rfl⟩
theorem hw_1344 : GW (Cond.code yX11_decades cX11_decades 6 none) := ⟨tk_8 _ (List.mem_of_getElem? (l := tables_1_8) (i := 235) rfl), Or.inl rfl⟩
theorem hw_1345 : GW (Cond.fieldLink RX11 401 "PaneDaysModel" "lots" "I") := ⟨tk_6 _ (List.mem_of_getElem? (l := tables_1_6) (i := 193) rfl), Or.inl rfl⟩
theorem hw_1346 : GW (Cond.constant RX11 404 (1103515245)) := ⟨tk_8 _ (List.mem_of_getElem? (l := tables_1_8) (i := 236) rfl), Or.inl rfl⟩
theorem hw_1347 : GW (Cond.methodLink RX11 409 yX11_ones) := ⟨tk_8 _ (List.mem_of_getElem? (l := tables_1_8) (i := 237) rfl), Or.inl rfl⟩
theorem hw_1348 : GW (Cond.static yX11_ones) := ⟨tk_8 _ (List.mem_of_getElem? (l := tables_1_8) (i := 238) rfl), Or.inl rfl⟩
theorem hw_1349 : GW (Cond.code yX11_ones cX11_ones 3 (some .int)) := ⟨tk_8 _ (List.mem_of_getElem? (l := tables_1_8) (i := 239) rfl), Or.inl rfl⟩
theorem hw_1350 : GW (Cond.code yX11_span cX11_span 12 (some .int)) := ⟨tk_9 _ (List.mem_of_getElem? (l := tables_1_9) (i := 3) rfl), Or.inl rfl⟩
theorem hw_1351 : GW (Cond.code yX11_image cX11_image 1 (some .int)) := ⟨tk_9 _ (List.mem_of_getElem? (l := tables_1_9) (i := 7) rfl), Or.inl rfl⟩
theorem hw_1352 : GW (Cond.fieldLink RX11 76 "PaneDaysModel" "kept" "[[I") := ⟨tk_6 _ (List.mem_of_getElem? (l := tables_1_6) (i := 182) rfl), Or.inl rfl⟩
theorem hw_1353 : GW (Cond.methodLink RX11 419 yX11_putsAll) := ⟨tk_9 _ (List.mem_of_getElem? (l := tables_1_9) (i := 8) rfl), Or.inl rfl⟩
theorem hw_1354 : GW (Cond.instanceMethod yX11_putsAll) := ⟨tk_9 _ (List.mem_of_getElem? (l := tables_1_9) (i := 10) rfl), Or.inl rfl⟩
theorem hw_1355 : GW (Cond.selects RX11 yX11_putsAll yX11_putsAll) := ⟨tk_0 _ (List.mem_of_getElem? (l := k2_sels lw_privs) (i := 94) (by decide +kernel)), Or.inl rfl⟩
theorem hw_1356 : GW (Cond.code yX11_putsAll cX11_putsAll 5 none) := ⟨tk_9 _ (List.mem_of_getElem? (l := tables_1_9) (i := 11) rfl), Or.inl rfl⟩
theorem hw_1357 : GW (Cond.fieldLink RX11 412 "PaneDaysModel" "spot" "I") := ⟨tk_6 _ (List.mem_of_getElem? (l := tables_1_6) (i := 187) rfl), Or.inl rfl⟩
theorem hw_1358 : GW (Cond.methodLink RX11 415 yX11_puts) := ⟨tk_9 _ (List.mem_of_getElem? (l := tables_1_9) (i := 12) rfl), Or.inl rfl⟩
theorem hw_1359 : GW (Cond.instanceMethod yX11_puts) := ⟨tk_9 _ (List.mem_of_getElem? (l := tables_1_9) (i := 14) rfl), Or.inl rfl⟩
theorem hw_1360 : GW (Cond.selects RX11 yX11_puts yX11_puts) := ⟨tk_0 _ (List.mem_of_getElem? (l := k2_sels lw_privs) (i := 95) (by decide +kernel)), Or.inl rfl⟩
theorem hw_1361 : GW (Cond.code yX11_puts cX11_puts 4 (some .int)) := ⟨tk_9 _ (List.mem_of_getElem? (l := tables_1_9) (i := 15) rfl), Or.inl rfl⟩
theorem hw_1362 : GW (Cond.code yX11_restore cX11_restore 1 (some .int)) := ⟨tk_9 _ (List.mem_of_getElem? (l := tables_1_9) (i := 19) rfl), Or.inl rfl⟩
theorem hw_1363 : GW (Cond.code yX11_status cX11_status 2 (some .int)) := ⟨tk_9 _ (List.mem_of_getElem? (l := tables_1_9) (i := 23) rfl), Or.inl rfl⟩
theorem hw_1364 : GW (Cond.code yX11_count cX11_count 2 (some .int)) := ⟨tk_9 _ (List.mem_of_getElem? (l := tables_1_9) (i := 27) rfl), Or.inl rfl⟩
theorem hw_1365 : GW (Cond.code yX11_thrown cX11_thrown 1 (some .int)) := ⟨tk_7 _ (List.mem_of_getElem? (l := tables_1_7) (i := 46) rfl), Or.inl rfl⟩
theorem hw_1366 : GW (Cond.code yX11_init cX11_init 1 none) := ⟨tk_6 _ (List.mem_of_getElem? (l := tables_1_6) (i := 135) rfl), Or.inl rfl⟩
theorem hw_1367 : GW (Cond.methodLink RX11 3 objectInit) := ⟨tk_6 _ (List.mem_of_getElem? (l := tables_1_6) (i := 136) rfl), Or.inl rfl⟩
theorem hw_1368 : GW (Cond.classLink RX11 26 "[[I") := ⟨tk_6 _ (List.mem_of_getElem? (l := tables_1_6) (i := 137) rfl), Or.inl rfl⟩
theorem hw_1369 : GW (Cond.code yX10_feed cX10_feed 6 (some .int)) := ⟨tk_2 _ (List.mem_of_getElem? (l := tables_1_2) (i := 191) rfl), Or.inl rfl⟩
theorem hw_1370 : GW (Cond.methodLink RX10 95 yX7_hasRoom) := ⟨tk_2 _ (List.mem_of_getElem? (l := tables_1_2) (i := 192) rfl), Or.inl rfl⟩
theorem hw_1371 : GW (Cond.instanceMethod yX7_hasRoom) := ⟨tk_2 _ (List.mem_of_getElem? (l := tables_1_2) (i := 193) rfl), Or.inl rfl⟩
theorem hw_1372 : GW (Cond.selects RX7 yX7_hasRoom yX7_hasRoom) := ⟨tk_2 _ (List.mem_of_getElem? (l := tables_1_2) (i := 194) rfl), Or.inl rfl⟩
theorem hw_1373 : GW (Cond.code yX7_hasRoom cX7_hasRoom 1 (some .boolean)) := ⟨tk_2 _ (List.mem_of_getElem? (l := tables_1_2) (i := 195) rfl), Or.inl rfl⟩
theorem hw_1374 : GW (Cond.fieldLink RX7 19 "PaneDays$Tape" "count" "I") := ⟨tk_1 _ (List.mem_of_getElem? (l := tables_1_1) (i := 42) rfl), Or.inl rfl⟩
theorem hw_1375 : GW (Cond.methodLink RX10 99 yX7_put) := ⟨tk_2 _ (List.mem_of_getElem? (l := tables_1_2) (i := 196) rfl), Or.inl rfl⟩
theorem hw_1376 : GW (Cond.instanceMethod yX7_put) := ⟨tk_2 _ (List.mem_of_getElem? (l := tables_1_2) (i := 197) rfl), Or.inl rfl⟩
theorem hw_1377 : GW (Cond.selects RX7 yX7_put yX7_put) := ⟨tk_2 _ (List.mem_of_getElem? (l := tables_1_2) (i := 198) rfl), Or.inl rfl⟩
theorem hw_1378 : GW (Cond.code yX7_put cX7_put 3 none) := ⟨tk_2 _ (List.mem_of_getElem? (l := tables_1_2) (i := 199) rfl), Or.inl rfl⟩
theorem hw_1379 : GW (Cond.code yX10_fault cX10_fault 1 (some .int)) := ⟨tk_2 _ (List.mem_of_getElem? (l := tables_1_2) (i := 203) rfl), Or.inl rfl⟩
theorem hw_1380 : GW (Cond.fieldLink RX10 156 "PaneDays$Tape" "place" "I") := ⟨tk_1 _ (List.mem_of_getElem? (l := tables_1_1) (i := 59) rfl), Or.inl rfl⟩
theorem hw_1381 : GW (Cond.code yX10_undo cX10_undo 1 (some .int)) := ⟨tk_2 _ (List.mem_of_getElem? (l := tables_1_2) (i := 207) rfl), Or.inl rfl⟩
theorem hw_1382 : GW (Cond.methodLink RX10 159 yX4_goBack) := ⟨tk_2 _ (List.mem_of_getElem? (l := tables_1_2) (i := 208) rfl), Or.inl rfl⟩
theorem hw_1383 : GW (Cond.instanceMethod yX4_goBack) := ⟨tk_2 _ (List.mem_of_getElem? (l := tables_1_2) (i := 209) rfl), Or.inl rfl⟩
theorem hw_1384 : GW (Cond.selects RX4 yX4_goBack yX4_goBack) := ⟨tk_2 _ (List.mem_of_getElem? (l := tables_1_2) (i := 210) rfl), Or.inl rfl⟩
theorem hw_1385 : GW (Cond.code yX4_goBack cX4_goBack 1 none) := ⟨tk_2 _ (List.mem_of_getElem? (l := tables_1_2) (i := 211) rfl), Or.inl rfl⟩
theorem hw_1386 : GW (Cond.code yX10_lost cX10_lost 2 (some .int)) := ⟨tk_2 _ (List.mem_of_getElem? (l := tables_1_2) (i := 226) rfl), Or.inl rfl⟩
theorem hw_1387 : GW (Cond.code yX10_thick cX10_thick 1 (some .int)) := ⟨tk_3 _ (List.mem_of_getElem? (l := tables_1_3) (i := 17) rfl), Or.inl rfl⟩
theorem hw_1388 : GW (Cond.methodLink RX10 288 yX2_thickest) := ⟨tk_3 _ (List.mem_of_getElem? (l := tables_1_3) (i := 18) rfl), Or.inl rfl⟩
theorem hw_1389 : GW (Cond.instanceMethod yX2_thickest) := ⟨tk_3 _ (List.mem_of_getElem? (l := tables_1_3) (i := 19) rfl), Or.inl rfl⟩
theorem hw_1390 : GW (Cond.selects RX2 yX2_thickest yX2_thickest) := ⟨tk_3 _ (List.mem_of_getElem? (l := tables_1_3) (i := 20) rfl), Or.inl rfl⟩
theorem hw_1391 : GW (Cond.code yX2_thickest cX2_thickest 4 (some .int)) := ⟨tk_3 _ (List.mem_of_getElem? (l := tables_1_3) (i := 21) rfl), Or.inl rfl⟩
theorem hw_1392 : GW (Cond.code yX10_image cX10_image 2 (some .int)) := ⟨tk_3 _ (List.mem_of_getElem? (l := tables_1_3) (i := 25) rfl), Or.inl rfl⟩
theorem hw_1393 : GW (Cond.fieldLink RX10 87 "PaneDays" "images" "[LPaneDays$Past;") := ⟨tk_2 _ (List.mem_of_getElem? (l := tables_1_2) (i := 151) rfl), Or.inl rfl⟩
theorem hw_1394 : GW (Cond.classLink RX10 60 RX4) := ⟨tk_1 _ (List.mem_of_getElem? (l := tables_1_1) (i := 236) rfl), Or.inl rfl⟩
theorem hw_1395 : GW (Cond.instantiable RX4 3) := ⟨tk_1 _ (List.mem_of_getElem? (l := tables_1_1) (i := 237) rfl), Or.inl rfl⟩
theorem hw_1396 : GW (Cond.instanceMethod yX4_init) := ⟨tk_1 _ (List.mem_of_getElem? (l := tables_1_1) (i := 239) rfl), Or.inl rfl⟩
theorem hw_1397 : GW (Cond.code yX4_init cX4_init 1 none) := ⟨tk_2 _ (List.mem_of_getElem? (l := tables_1_2) (i := 0) rfl), Or.inl rfl⟩
theorem hw_1398 : GW (Cond.methodLink RX4 3 objectInit) := ⟨tk_2 _ (List.mem_of_getElem? (l := tables_1_2) (i := 1) rfl), Or.inl rfl⟩
theorem hw_1399 : GW (Cond.methodLink RX10 374 yX4_copy) := ⟨tk_3 _ (List.mem_of_getElem? (l := tables_1_3) (i := 26) rfl), Or.inl rfl⟩
theorem hw_1400 : GW (Cond.instanceMethod yX4_copy) := ⟨tk_3 _ (List.mem_of_getElem? (l := tables_1_3) (i := 27) rfl), Or.inl rfl⟩
theorem hw_1401 : GW (Cond.selects RX4 yX4_copy yX4_copy) := ⟨tk_3 _ (List.mem_of_getElem? (l := tables_1_3) (i := 28) rfl), Or.inl rfl⟩
theorem hw_1402 : GW (Cond.code yX4_copy cX4_copy 3 none) := ⟨tk_3 _ (List.mem_of_getElem? (l := tables_1_3) (i := 29) rfl), Or.inl rfl⟩
theorem hw_1403 : GW (Cond.code yX10_restore cX10_restore 2 (some .int)) := ⟨tk_3 _ (List.mem_of_getElem? (l := tables_1_3) (i := 33) rfl), Or.inl rfl⟩
theorem hw_1404 : GW (Cond.code yX10_status cX10_status 2 (some .int)) := ⟨tk_3 _ (List.mem_of_getElem? (l := tables_1_3) (i := 37) rfl), Or.inl rfl⟩
theorem hw_1405 : GW (Cond.code yX10_count cX10_count 2 (some .int)) := ⟨tk_3 _ (List.mem_of_getElem? (l := tables_1_3) (i := 41) rfl), Or.inl rfl⟩
theorem hw_1406 : GW (Cond.code yX10_init cX10_init 1 none) := ⟨tk_1 _ (List.mem_of_getElem? (l := tables_1_1) (i := 31) rfl), Or.inl rfl⟩
theorem hw_1407 : GW (Cond.methodLink RX10 1 objectInit) := ⟨tk_1 _ (List.mem_of_getElem? (l := tables_1_1) (i := 32) rfl), Or.inl rfl⟩
theorem hw_1408 : GW (Cond.classLink RX10 7 RX7) := ⟨tk_1 _ (List.mem_of_getElem? (l := tables_1_1) (i := 35) rfl), Or.inl rfl⟩
theorem hw_1409 : GW (Cond.instantiable RX7 9) := ⟨tk_1 _ (List.mem_of_getElem? (l := tables_1_1) (i := 36) rfl), Or.inl rfl⟩
theorem hw_1410 : GW (Cond.classLink RX10 16 RX6) := ⟨tk_1 _ (List.mem_of_getElem? (l := tables_1_1) (i := 80) rfl), Or.inl rfl⟩
theorem hw_1411 : GW (Cond.instantiable RX6 13) := ⟨tk_1 _ (List.mem_of_getElem? (l := tables_1_1) (i := 81) rfl), Or.inl rfl⟩
theorem hw_1412 : GW (Cond.classLink RX10 26 RX3) := ⟨tk_1 _ (List.mem_of_getElem? (l := tables_1_1) (i := 157) rfl), Or.inl rfl⟩
theorem hw_1413 : GW (Cond.instantiable RX3 3) := ⟨tk_1 _ (List.mem_of_getElem? (l := tables_1_1) (i := 158) rfl), Or.inl rfl⟩
theorem hw_1414 : GW (Cond.classLink RX10 36 RX0) := ⟨tk_1 _ (List.mem_of_getElem? (l := tables_1_1) (i := 177) rfl), Or.inl rfl⟩
theorem hw_1415 : GW (Cond.instantiable RX0 4) := ⟨tk_1 _ (List.mem_of_getElem? (l := tables_1_1) (i := 178) rfl), Or.inl rfl⟩
theorem hw_1416 : GW (Cond.classLink RX10 46 RX1) := ⟨tk_1 _ (List.mem_of_getElem? (l := tables_1_1) (i := 197) rfl), Or.inl rfl⟩
theorem hw_1417 : GW (Cond.instantiable RX1 4) := ⟨tk_1 _ (List.mem_of_getElem? (l := tables_1_1) (i := 198) rfl), Or.inl rfl⟩
theorem hw_1418 : GW (Cond.classLink RX10 53 RX5) := ⟨tk_1 _ (List.mem_of_getElem? (l := tables_1_1) (i := 218) rfl), Or.inl rfl⟩
theorem hw_1419 : GW (Cond.instantiable RX5 3) := ⟨tk_1 _ (List.mem_of_getElem? (l := tables_1_1) (i := 219) rfl), Or.inl rfl⟩
theorem hw_1420 : GW (Cond.classLink RX10 67 RX8) := ⟨tk_2 _ (List.mem_of_getElem? (l := tables_1_2) (i := 59) rfl), Or.inl rfl⟩
theorem hw_1421 : GW (Cond.instantiable RX8 6) := ⟨tk_2 _ (List.mem_of_getElem? (l := tables_1_2) (i := 60) rfl), Or.inl rfl⟩
theorem hw_1422 : GW (Cond.classLink RX10 74 RX9) := ⟨tk_2 _ (List.mem_of_getElem? (l := tables_1_2) (i := 90) rfl), Or.inl rfl⟩
theorem hw_1423 : GW (Cond.instantiable RX9 13) := ⟨tk_2 _ (List.mem_of_getElem? (l := tables_1_2) (i := 91) rfl), Or.inl rfl⟩
theorem hw_1424 : GW (Cond.instanceMethod yX7_init) := ⟨tk_1 _ (List.mem_of_getElem? (l := tables_1_1) (i := 38) rfl), Or.inl rfl⟩
theorem hw_1425 : GW (Cond.code yX7_init cX7_init 1 none) := ⟨tk_1 _ (List.mem_of_getElem? (l := tables_1_1) (i := 39) rfl), Or.inl rfl⟩
theorem hw_1426 : GW (Cond.methodLink RX7 3 objectInit) := ⟨tk_1 _ (List.mem_of_getElem? (l := tables_1_1) (i := 40) rfl), Or.inl rfl⟩
theorem hw_1427 : GW (Cond.arrayClass .byte) := ⟨tk_1 _ (List.mem_of_getElem? (l := tables_1_1) (i := 79) rfl), Or.inr ⟨_, rfl⟩⟩
theorem hw_1428 : GW (Cond.methodLink RX10 18 yX6_init) := ⟨tk_1 _ (List.mem_of_getElem? (l := tables_1_1) (i := 82) rfl), Or.inl rfl⟩
theorem hw_1429 : GW (Cond.instanceMethod yX6_init) := ⟨tk_1 _ (List.mem_of_getElem? (l := tables_1_1) (i := 83) rfl), Or.inl rfl⟩
theorem hw_1430 : GW (Cond.code yX6_init cX6_init 1 none) := ⟨tk_1 _ (List.mem_of_getElem? (l := tables_1_1) (i := 84) rfl), Or.inl rfl⟩
theorem hw_1431 : GW (Cond.methodLink RX6 3 objectInit) := ⟨tk_1 _ (List.mem_of_getElem? (l := tables_1_1) (i := 85) rfl), Or.inl rfl⟩
theorem hw_1432 : GW (Cond.methodLink RX10 28 yX3_init) := ⟨tk_1 _ (List.mem_of_getElem? (l := tables_1_1) (i := 159) rfl), Or.inl rfl⟩
theorem hw_1433 : GW (Cond.instanceMethod yX3_init) := ⟨tk_1 _ (List.mem_of_getElem? (l := tables_1_1) (i := 160) rfl), Or.inl rfl⟩
theorem hw_1434 : GW (Cond.code yX3_init cX3_init 1 none) := ⟨tk_1 _ (List.mem_of_getElem? (l := tables_1_1) (i := 161) rfl), Or.inl rfl⟩
theorem hw_1435 : GW (Cond.methodLink RX3 3 objectInit) := ⟨tk_1 _ (List.mem_of_getElem? (l := tables_1_1) (i := 162) rfl), Or.inl rfl⟩
theorem hw_1436 : GW (Cond.methodLink RX3 18 yX3_forget) := ⟨tk_1 _ (List.mem_of_getElem? (l := tables_1_1) (i := 163) rfl), Or.inl rfl⟩
theorem hw_1437 : GW (Cond.instanceMethod yX0_init) := ⟨tk_1 _ (List.mem_of_getElem? (l := tables_1_1) (i := 180) rfl), Or.inl rfl⟩
theorem hw_1438 : GW (Cond.code yX0_init cX0_init 1 none) := ⟨tk_1 _ (List.mem_of_getElem? (l := tables_1_1) (i := 181) rfl), Or.inl rfl⟩
theorem hw_1439 : GW (Cond.methodLink RX0 3 objectInit) := ⟨tk_1 _ (List.mem_of_getElem? (l := tables_1_1) (i := 182) rfl), Or.inl rfl⟩
theorem hw_1440 : GW (Cond.instanceMethod yX1_init) := ⟨tk_1 _ (List.mem_of_getElem? (l := tables_1_1) (i := 200) rfl), Or.inl rfl⟩
theorem hw_1441 : GW (Cond.code yX1_init cX1_init 1 none) := ⟨tk_1 _ (List.mem_of_getElem? (l := tables_1_1) (i := 201) rfl), Or.inl rfl⟩
theorem hw_1442 : GW (Cond.methodLink RX1 3 objectInit) := ⟨tk_1 _ (List.mem_of_getElem? (l := tables_1_1) (i := 202) rfl), Or.inl rfl⟩
theorem hw_1443 : GW (Cond.instanceMethod yX5_init) := ⟨tk_1 _ (List.mem_of_getElem? (l := tables_1_1) (i := 221) rfl), Or.inl rfl⟩
theorem hw_1444 : GW (Cond.code yX5_init cX5_init 1 none) := ⟨tk_1 _ (List.mem_of_getElem? (l := tables_1_1) (i := 222) rfl), Or.inl rfl⟩
theorem hw_1445 : GW (Cond.methodLink RX5 3 objectInit) := ⟨tk_1 _ (List.mem_of_getElem? (l := tables_1_1) (i := 223) rfl), Or.inl rfl⟩
theorem hw_1446 : GW (Cond.instanceMethod yX8_init) := ⟨tk_2 _ (List.mem_of_getElem? (l := tables_1_2) (i := 62) rfl), Or.inl rfl⟩
theorem hw_1447 : GW (Cond.code yX8_init cX8_init 1 none) := ⟨tk_2 _ (List.mem_of_getElem? (l := tables_1_2) (i := 63) rfl), Or.inl rfl⟩
theorem hw_1448 : GW (Cond.methodLink RX8 3 objectInit) := ⟨tk_2 _ (List.mem_of_getElem? (l := tables_1_2) (i := 64) rfl), Or.inl rfl⟩
theorem hw_1449 : GW (Cond.classLink RX8 9 RX2) := ⟨tk_2 _ (List.mem_of_getElem? (l := tables_1_2) (i := 65) rfl), Or.inl rfl⟩
theorem hw_1450 : GW (Cond.methodLink RX10 80 yX9_init) := ⟨tk_2 _ (List.mem_of_getElem? (l := tables_1_2) (i := 92) rfl), Or.inl rfl⟩
theorem hw_1451 : GW (Cond.instanceMethod yX9_init) := ⟨tk_2 _ (List.mem_of_getElem? (l := tables_1_2) (i := 93) rfl), Or.inl rfl⟩
theorem hw_1452 : GW (Cond.code yX9_init cX9_init 3 none) := ⟨tk_2 _ (List.mem_of_getElem? (l := tables_1_2) (i := 94) rfl), Or.inl rfl⟩
theorem hw_1453 : GW (Cond.methodLink RX9 3 objectInit) := ⟨tk_2 _ (List.mem_of_getElem? (l := tables_1_2) (i := 95) rfl), Or.inl rfl⟩
theorem hw_1454 : GW (Cond.classLink RL 8 RX10) := ⟨tk_1 _ (List.mem_of_getElem? (l := tables_1_1) (i := 27) rfl), Or.inl rfl⟩
theorem hw_1455 : GW (Cond.instantiable RX10 16) := ⟨tk_1 _ (List.mem_of_getElem? (l := tables_1_1) (i := 28) rfl), Or.inl rfl⟩
theorem hw_1456 : GW (Cond.classLink RL 119 RX11) := ⟨tk_6 _ (List.mem_of_getElem? (l := tables_1_6) (i := 131) rfl), Or.inl rfl⟩
theorem hw_1457 : GW (Cond.instantiable RX11 44) := ⟨tk_6 _ (List.mem_of_getElem? (l := tables_1_6) (i := 132) rfl), Or.inl rfl⟩
theorem hw_1458 : GW (Cond.arrayClass .long) := ⟨tk_9 _ (List.mem_of_getElem? (l := tables_1_9) (i := 28) rfl), Or.inr ⟨_, rfl⟩⟩
theorem hw_1459 : GW (Cond.methodLink RL 118 yX10_init) := ⟨tk_1 _ (List.mem_of_getElem? (l := tables_1_1) (i := 29) rfl), Or.inl rfl⟩
theorem hw_1460 : GW (Cond.instanceMethod yX10_init) := ⟨tk_1 _ (List.mem_of_getElem? (l := tables_1_1) (i := 30) rfl), Or.inl rfl⟩
theorem hw_1461 : GW (Cond.methodLink RL 121 yX11_init) := ⟨tk_6 _ (List.mem_of_getElem? (l := tables_1_6) (i := 133) rfl), Or.inl rfl⟩
theorem hw_1462 : GW (Cond.instanceMethod yX11_init) := ⟨tk_6 _ (List.mem_of_getElem? (l := tables_1_6) (i := 134) rfl), Or.inl rfl⟩
theorem hw_1463 : GW (Cond.methodLink RL 122 yX10_feed) := ⟨tk_2 _ (List.mem_of_getElem? (l := tables_1_2) (i := 188) rfl), Or.inl rfl⟩
theorem hw_1464 : GW (Cond.instanceMethod yX10_feed) := ⟨tk_2 _ (List.mem_of_getElem? (l := tables_1_2) (i := 189) rfl), Or.inl rfl⟩
theorem hw_1465 : GW (Cond.selects RX10 yX10_feed yX10_feed) := ⟨tk_2 _ (List.mem_of_getElem? (l := tables_1_2) (i := 190) rfl), Or.inl rfl⟩
theorem hw_1466 : GW (Cond.methodLink RL 126 yX11_feed) := ⟨tk_7 _ (List.mem_of_getElem? (l := tables_1_7) (i := 47) rfl), Or.inl rfl⟩
theorem hw_1467 : GW (Cond.instanceMethod yX11_feed) := ⟨tk_7 _ (List.mem_of_getElem? (l := tables_1_7) (i := 48) rfl), Or.inl rfl⟩
theorem hw_1468 : GW (Cond.selects RX11 yX11_feed yX11_feed) := ⟨tk_7 _ (List.mem_of_getElem? (l := tables_1_7) (i := 49) rfl), Or.inl rfl⟩
theorem hw_1469 : GW (Cond.methodLink RL 127 yL_street) := ⟨tk_3 _ (List.mem_of_getElem? (l := tables_1_3) (i := 42) rfl), Or.inl rfl⟩
theorem hw_1470 : GW (Cond.static yL_street) := ⟨tk_3 _ (List.mem_of_getElem? (l := tables_1_3) (i := 43) rfl), Or.inl rfl⟩
theorem hw_1471 : GW (Cond.initialized RL) := ⟨tk_1 _ (List.mem_of_getElem? (l := tables_1_1) (i := 0) rfl), Or.inl rfl⟩
theorem hw_1472 : GW (Cond.methodLink RL 132 yX11_street) := ⟨tk_7 _ (List.mem_of_getElem? (l := tables_1_7) (i := 51) rfl), Or.inl rfl⟩
theorem hw_1473 : GW (Cond.instanceMethod yX11_street) := ⟨tk_7 _ (List.mem_of_getElem? (l := tables_1_7) (i := 52) rfl), Or.inl rfl⟩
theorem hw_1474 : GW (Cond.selects RX11 yX11_street yX11_street) := ⟨tk_7 _ (List.mem_of_getElem? (l := tables_1_7) (i := 53) rfl), Or.inl rfl⟩
theorem hw_1475 : GW (Cond.methodLink RL 133 yX11_thrown) := ⟨tk_7 _ (List.mem_of_getElem? (l := tables_1_7) (i := 43) rfl), Or.inl rfl⟩
theorem hw_1476 : GW (Cond.instanceMethod yX11_thrown) := ⟨tk_7 _ (List.mem_of_getElem? (l := tables_1_7) (i := 44) rfl), Or.inl rfl⟩
theorem hw_1477 : GW (Cond.selects RX11 yX11_thrown yX11_thrown) := ⟨tk_7 _ (List.mem_of_getElem? (l := tables_1_7) (i := 45) rfl), Or.inl rfl⟩
theorem hw_1478 : GW (Cond.methodLink RL 137 yL_law) := ⟨tk_4 _ (List.mem_of_getElem? (l := tables_1_4) (i := 13) rfl), Or.inl rfl⟩
theorem hw_1479 : GW (Cond.static yL_law) := ⟨tk_4 _ (List.mem_of_getElem? (l := tables_1_4) (i := 14) rfl), Or.inl rfl⟩
theorem hw_1480 : GW (Cond.methodLink RL 139 yX11_law) := ⟨tk_7 _ (List.mem_of_getElem? (l := tables_1_7) (i := 120) rfl), Or.inl rfl⟩
theorem hw_1481 : GW (Cond.instanceMethod yX11_law) := ⟨tk_7 _ (List.mem_of_getElem? (l := tables_1_7) (i := 121) rfl), Or.inl rfl⟩
theorem hw_1482 : GW (Cond.selects RX11 yX11_law yX11_law) := ⟨tk_7 _ (List.mem_of_getElem? (l := tables_1_7) (i := 122) rfl), Or.inl rfl⟩
theorem hw_1483 : GW (Cond.methodLink RL 140 yL_work) := ⟨tk_4 _ (List.mem_of_getElem? (l := tables_1_4) (i := 60) rfl), Or.inl rfl⟩
theorem hw_1484 : GW (Cond.static yL_work) := ⟨tk_4 _ (List.mem_of_getElem? (l := tables_1_4) (i := 61) rfl), Or.inl rfl⟩
theorem hw_1485 : GW (Cond.methodLink RL 142 yX11_work) := ⟨tk_7 _ (List.mem_of_getElem? (l := tables_1_7) (i := 164) rfl), Or.inl rfl⟩
theorem hw_1486 : GW (Cond.instanceMethod yX11_work) := ⟨tk_7 _ (List.mem_of_getElem? (l := tables_1_7) (i := 165) rfl), Or.inl rfl⟩
theorem hw_1487 : GW (Cond.selects RX11 yX11_work yX11_work) := ⟨tk_7 _ (List.mem_of_getElem? (l := tables_1_7) (i := 166) rfl), Or.inl rfl⟩
theorem hw_1488 : GW (Cond.methodLink RL 143 yL_book) := ⟨tk_4 _ (List.mem_of_getElem? (l := tables_1_4) (i := 179) rfl), Or.inl rfl⟩
theorem hw_1489 : GW (Cond.static yL_book) := ⟨tk_4 _ (List.mem_of_getElem? (l := tables_1_4) (i := 180) rfl), Or.inl rfl⟩
theorem hw_1490 : GW (Cond.methodLink RL 145 yX11_book) := ⟨tk_7 _ (List.mem_of_getElem? (l := tables_1_7) (i := 156) rfl), Or.inl rfl⟩
theorem hw_1491 : GW (Cond.instanceMethod yX11_book) := ⟨tk_7 _ (List.mem_of_getElem? (l := tables_1_7) (i := 157) rfl), Or.inl rfl⟩
theorem hw_1492 : GW (Cond.selects RX11 yX11_book yX11_book) := ⟨tk_7 _ (List.mem_of_getElem? (l := tables_1_7) (i := 158) rfl), Or.inl rfl⟩
theorem hw_1493 : GW (Cond.methodLink RL 146 yX10_fault) := ⟨tk_2 _ (List.mem_of_getElem? (l := tables_1_2) (i := 200) rfl), Or.inl rfl⟩
theorem hw_1494 : GW (Cond.instanceMethod yX10_fault) := ⟨tk_2 _ (List.mem_of_getElem? (l := tables_1_2) (i := 201) rfl), Or.inl rfl⟩
theorem hw_1495 : GW (Cond.selects RX10 yX10_fault yX10_fault) := ⟨tk_2 _ (List.mem_of_getElem? (l := tables_1_2) (i := 202) rfl), Or.inl rfl⟩
theorem hw_1496 : GW (Cond.methodLink RL 149 yX11_fault) := ⟨tk_7 _ (List.mem_of_getElem? (l := tables_1_7) (i := 160) rfl), Or.inl rfl⟩
theorem hw_1497 : GW (Cond.instanceMethod yX11_fault) := ⟨tk_7 _ (List.mem_of_getElem? (l := tables_1_7) (i := 161) rfl), Or.inl rfl⟩
theorem hw_1498 : GW (Cond.selects RX11 yX11_fault yX11_fault) := ⟨tk_7 _ (List.mem_of_getElem? (l := tables_1_7) (i := 162) rfl), Or.inl rfl⟩
theorem hw_1499 : GW (Cond.methodLink RL 150 yX10_undo) := ⟨tk_2 _ (List.mem_of_getElem? (l := tables_1_2) (i := 204) rfl), Or.inl rfl⟩
theorem hw_1500 : GW (Cond.instanceMethod yX10_undo) := ⟨tk_2 _ (List.mem_of_getElem? (l := tables_1_2) (i := 205) rfl), Or.inl rfl⟩
theorem hw_1501 : GW (Cond.selects RX10 yX10_undo yX10_undo) := ⟨tk_2 _ (List.mem_of_getElem? (l := tables_1_2) (i := 206) rfl), Or.inl rfl⟩
theorem hw_1502 : GW (Cond.methodLink RL 153 yX11_undo) := ⟨tk_8 _ (List.mem_of_getElem? (l := tables_1_8) (i := 16) rfl), Or.inl rfl⟩
theorem hw_1503 : GW (Cond.instanceMethod yX11_undo) := ⟨tk_8 _ (List.mem_of_getElem? (l := tables_1_8) (i := 17) rfl), Or.inl rfl⟩
theorem hw_1504 : GW (Cond.selects RX11 yX11_undo yX11_undo) := ⟨tk_8 _ (List.mem_of_getElem? (l := tables_1_8) (i := 18) rfl), Or.inl rfl⟩
theorem hw_1505 : GW (Cond.methodLink RL 154 yL_told) := ⟨tk_4 _ (List.mem_of_getElem? (l := tables_1_4) (i := 199) rfl), Or.inl rfl⟩
theorem hw_1506 : GW (Cond.static yL_told) := ⟨tk_4 _ (List.mem_of_getElem? (l := tables_1_4) (i := 200) rfl), Or.inl rfl⟩
theorem hw_1507 : GW (Cond.methodLink RL 156 yX11_told) := ⟨tk_8 _ (List.mem_of_getElem? (l := tables_1_8) (i := 20) rfl), Or.inl rfl⟩
theorem hw_1508 : GW (Cond.instanceMethod yX11_told) := ⟨tk_8 _ (List.mem_of_getElem? (l := tables_1_8) (i := 21) rfl), Or.inl rfl⟩
theorem hw_1509 : GW (Cond.selects RX11 yX11_told yX11_told) := ⟨tk_8 _ (List.mem_of_getElem? (l := tables_1_8) (i := 22) rfl), Or.inl rfl⟩
theorem hw_1510 : GW (Cond.methodLink RL 157 yL_pane) := ⟨tk_4 _ (List.mem_of_getElem? (l := tables_1_4) (i := 218) rfl), Or.inl rfl⟩
theorem hw_1511 : GW (Cond.static yL_pane) := ⟨tk_4 _ (List.mem_of_getElem? (l := tables_1_4) (i := 219) rfl), Or.inl rfl⟩
theorem hw_1512 : GW (Cond.methodLink RL 160 yX11_pane) := ⟨tk_8 _ (List.mem_of_getElem? (l := tables_1_8) (i := 31) rfl), Or.inl rfl⟩
theorem hw_1513 : GW (Cond.instanceMethod yX11_pane) := ⟨tk_8 _ (List.mem_of_getElem? (l := tables_1_8) (i := 32) rfl), Or.inl rfl⟩
theorem hw_1514 : GW (Cond.selects RX11 yX11_pane yX11_pane) := ⟨tk_8 _ (List.mem_of_getElem? (l := tables_1_8) (i := 33) rfl), Or.inl rfl⟩
theorem hw_1515 : GW (Cond.methodLink RL 161 yL_shows) := ⟨tk_5 _ (List.mem_of_getElem? (l := tables_1_5) (i := 7) rfl), Or.inl rfl⟩
theorem hw_1516 : GW (Cond.static yL_shows) := ⟨tk_5 _ (List.mem_of_getElem? (l := tables_1_5) (i := 8) rfl), Or.inl rfl⟩
theorem hw_1517 : GW (Cond.methodLink RL 164 yX11_shows) := ⟨tk_8 _ (List.mem_of_getElem? (l := tables_1_8) (i := 39) rfl), Or.inl rfl⟩
theorem hw_1518 : GW (Cond.instanceMethod yX11_shows) := ⟨tk_8 _ (List.mem_of_getElem? (l := tables_1_8) (i := 40) rfl), Or.inl rfl⟩
theorem hw_1519 : GW (Cond.selects RX11 yX11_shows yX11_shows) := ⟨tk_8 _ (List.mem_of_getElem? (l := tables_1_8) (i := 41) rfl), Or.inl rfl⟩
theorem hw_1520 : GW (Cond.methodLink RL 165 yL_deep) := ⟨tk_5 _ (List.mem_of_getElem? (l := tables_1_5) (i := 35) rfl), Or.inl rfl⟩
theorem hw_1521 : GW (Cond.static yL_deep) := ⟨tk_5 _ (List.mem_of_getElem? (l := tables_1_5) (i := 36) rfl), Or.inl rfl⟩
theorem hw_1522 : GW (Cond.methodLink RL 167 yX11_deep) := ⟨tk_8 _ (List.mem_of_getElem? (l := tables_1_8) (i := 47) rfl), Or.inl rfl⟩
theorem hw_1523 : GW (Cond.instanceMethod yX11_deep) := ⟨tk_8 _ (List.mem_of_getElem? (l := tables_1_8) (i := 48) rfl), Or.inl rfl⟩
theorem hw_1524 : GW (Cond.selects RX11 yX11_deep yX11_deep) := ⟨tk_8 _ (List.mem_of_getElem? (l := tables_1_8) (i := 49) rfl), Or.inl rfl⟩
theorem hw_1525 : GW (Cond.methodLink RL 168 yL_film) := ⟨tk_5 _ (List.mem_of_getElem? (l := tables_1_5) (i := 42) rfl), Or.inl rfl⟩
theorem hw_1526 : GW (Cond.static yL_film) := ⟨tk_5 _ (List.mem_of_getElem? (l := tables_1_5) (i := 43) rfl), Or.inl rfl⟩
theorem hw_1527 : GW (Cond.methodLink RL 171 yX11_film) := ⟨tk_8 _ (List.mem_of_getElem? (l := tables_1_8) (i := 51) rfl), Or.inl rfl⟩
theorem hw_1528 : GW (Cond.instanceMethod yX11_film) := ⟨tk_8 _ (List.mem_of_getElem? (l := tables_1_8) (i := 52) rfl), Or.inl rfl⟩
theorem hw_1529 : GW (Cond.selects RX11 yX11_film yX11_film) := ⟨tk_8 _ (List.mem_of_getElem? (l := tables_1_8) (i := 53) rfl), Or.inl rfl⟩
theorem hw_1530 : GW (Cond.methodLink RL 172 yL_films) := ⟨tk_5 _ (List.mem_of_getElem? (l := tables_1_5) (i := 50) rfl), Or.inl rfl⟩
theorem hw_1531 : GW (Cond.static yL_films) := ⟨tk_5 _ (List.mem_of_getElem? (l := tables_1_5) (i := 51) rfl), Or.inl rfl⟩
theorem hw_1532 : GW (Cond.methodLink RL 174 yX11_films) := ⟨tk_8 _ (List.mem_of_getElem? (l := tables_1_8) (i := 55) rfl), Or.inl rfl⟩
theorem hw_1533 : GW (Cond.instanceMethod yX11_films) := ⟨tk_8 _ (List.mem_of_getElem? (l := tables_1_8) (i := 56) rfl), Or.inl rfl⟩
theorem hw_1534 : GW (Cond.selects RX11 yX11_films yX11_films) := ⟨tk_8 _ (List.mem_of_getElem? (l := tables_1_8) (i := 57) rfl), Or.inl rfl⟩
theorem hw_1535 : GW (Cond.methodLink RL 175 yL_have) := ⟨tk_5 _ (List.mem_of_getElem? (l := tables_1_5) (i := 62) rfl), Or.inl rfl⟩
theorem hw_1536 : GW (Cond.static yL_have) := ⟨tk_5 _ (List.mem_of_getElem? (l := tables_1_5) (i := 63) rfl), Or.inl rfl⟩
theorem hw_1537 : GW (Cond.methodLink RL 177 yX11_have) := ⟨tk_8 _ (List.mem_of_getElem? (l := tables_1_8) (i := 62) rfl), Or.inl rfl⟩
theorem hw_1538 : GW (Cond.instanceMethod yX11_have) := ⟨tk_8 _ (List.mem_of_getElem? (l := tables_1_8) (i := 63) rfl), Or.inl rfl⟩
theorem hw_1539 : GW (Cond.selects RX11 yX11_have yX11_have) := ⟨tk_8 _ (List.mem_of_getElem? (l := tables_1_8) (i := 64) rfl), Or.inl rfl⟩
theorem hw_1540 : GW (Cond.methodLink RL 178 yL_showing) := ⟨tk_5 _ (List.mem_of_getElem? (l := tables_1_5) (i := 74) rfl), Or.inl rfl⟩
theorem hw_1541 : GW (Cond.static yL_showing) := ⟨tk_5 _ (List.mem_of_getElem? (l := tables_1_5) (i := 75) rfl), Or.inl rfl⟩
theorem hw_1542 : GW (Cond.methodLink RL 180 yX11_showing) := ⟨tk_8 _ (List.mem_of_getElem? (l := tables_1_8) (i := 66) rfl), Or.inl rfl⟩
theorem hw_1543 : GW (Cond.instanceMethod yX11_showing) := ⟨tk_8 _ (List.mem_of_getElem? (l := tables_1_8) (i := 67) rfl), Or.inl rfl⟩
theorem hw_1544 : GW (Cond.selects RX11 yX11_showing yX11_showing) := ⟨tk_8 _ (List.mem_of_getElem? (l := tables_1_8) (i := 68) rfl), Or.inl rfl⟩
theorem hw_1545 : GW (Cond.methodLink RL 181 yL_settles) := ⟨tk_5 _ (List.mem_of_getElem? (l := tables_1_5) (i := 86) rfl), Or.inl rfl⟩
theorem hw_1546 : GW (Cond.static yL_settles) := ⟨tk_5 _ (List.mem_of_getElem? (l := tables_1_5) (i := 87) rfl), Or.inl rfl⟩
theorem hw_1547 : GW (Cond.methodLink RL 183 yX11_settles) := ⟨tk_8 _ (List.mem_of_getElem? (l := tables_1_8) (i := 70) rfl), Or.inl rfl⟩
theorem hw_1548 : GW (Cond.instanceMethod yX11_settles) := ⟨tk_8 _ (List.mem_of_getElem? (l := tables_1_8) (i := 71) rfl), Or.inl rfl⟩
theorem hw_1549 : GW (Cond.selects RX11 yX11_settles yX11_settles) := ⟨tk_8 _ (List.mem_of_getElem? (l := tables_1_8) (i := 72) rfl), Or.inl rfl⟩
theorem hw_1550 : GW (Cond.methodLink RL 184 yL_order) := ⟨tk_5 _ (List.mem_of_getElem? (l := tables_1_5) (i := 97) rfl), Or.inl rfl⟩
theorem hw_1551 : GW (Cond.static yL_order) := ⟨tk_5 _ (List.mem_of_getElem? (l := tables_1_5) (i := 98) rfl), Or.inl rfl⟩
theorem hw_1552 : GW (Cond.methodLink RL 186 yX11_order) := ⟨tk_8 _ (List.mem_of_getElem? (l := tables_1_8) (i := 74) rfl), Or.inl rfl⟩
theorem hw_1553 : GW (Cond.instanceMethod yX11_order) := ⟨tk_8 _ (List.mem_of_getElem? (l := tables_1_8) (i := 75) rfl), Or.inl rfl⟩
theorem hw_1554 : GW (Cond.selects RX11 yX11_order yX11_order) := ⟨tk_8 _ (List.mem_of_getElem? (l := tables_1_8) (i := 76) rfl), Or.inl rfl⟩
theorem hw_1555 : GW (Cond.methodLink RL 187 yL_needs) := ⟨tk_5 _ (List.mem_of_getElem? (l := tables_1_5) (i := 108) rfl), Or.inl rfl⟩
theorem hw_1556 : GW (Cond.static yL_needs) := ⟨tk_5 _ (List.mem_of_getElem? (l := tables_1_5) (i := 109) rfl), Or.inl rfl⟩
theorem hw_1557 : GW (Cond.methodLink RL 189 yX11_needs) := ⟨tk_8 _ (List.mem_of_getElem? (l := tables_1_8) (i := 86) rfl), Or.inl rfl⟩
theorem hw_1558 : GW (Cond.instanceMethod yX11_needs) := ⟨tk_8 _ (List.mem_of_getElem? (l := tables_1_8) (i := 87) rfl), Or.inl rfl⟩
theorem hw_1559 : GW (Cond.selects RX11 yX11_needs yX11_needs) := ⟨tk_8 _ (List.mem_of_getElem? (l := tables_1_8) (i := 88) rfl), Or.inl rfl⟩
theorem hw_1560 : GW (Cond.methodLink RL 190 yX10_lost) := ⟨tk_2 _ (List.mem_of_getElem? (l := tables_1_2) (i := 223) rfl), Or.inl rfl⟩
theorem hw_1561 : GW (Cond.instanceMethod yX10_lost) := ⟨tk_2 _ (List.mem_of_getElem? (l := tables_1_2) (i := 224) rfl), Or.inl rfl⟩
theorem hw_1562 : GW (Cond.selects RX10 yX10_lost yX10_lost) := ⟨tk_2 _ (List.mem_of_getElem? (l := tables_1_2) (i := 225) rfl), Or.inl rfl⟩
theorem hw_1563 : GW (Cond.methodLink RL 193 yX11_lost) := ⟨tk_8 _ (List.mem_of_getElem? (l := tables_1_8) (i := 93) rfl), Or.inl rfl⟩
theorem hw_1564 : GW (Cond.instanceMethod yX11_lost) := ⟨tk_8 _ (List.mem_of_getElem? (l := tables_1_8) (i := 94) rfl), Or.inl rfl⟩
theorem hw_1565 : GW (Cond.selects RX11 yX11_lost yX11_lost) := ⟨tk_8 _ (List.mem_of_getElem? (l := tables_1_8) (i := 95) rfl), Or.inl rfl⟩
theorem hw_1566 : GW (Cond.methodLink RL 194 yL_cost) := ⟨tk_5 _ (List.mem_of_getElem? (l := tables_1_5) (i := 115) rfl), Or.inl rfl⟩
theorem hw_1567 : GW (Cond.static yL_cost) := ⟨tk_5 _ (List.mem_of_getElem? (l := tables_1_5) (i := 116) rfl), Or.inl rfl⟩
theorem hw_1568 : GW (Cond.methodLink RL 196 yX11_cost) := ⟨tk_8 _ (List.mem_of_getElem? (l := tables_1_8) (i := 97) rfl), Or.inl rfl⟩
theorem hw_1569 : GW (Cond.instanceMethod yX11_cost) := ⟨tk_8 _ (List.mem_of_getElem? (l := tables_1_8) (i := 98) rfl), Or.inl rfl⟩
theorem hw_1570 : GW (Cond.selects RX11 yX11_cost yX11_cost) := ⟨tk_8 _ (List.mem_of_getElem? (l := tables_1_8) (i := 99) rfl), Or.inl rfl⟩
theorem hw_1571 : GW (Cond.methodLink RL 197 yL_view) := ⟨tk_5 _ (List.mem_of_getElem? (l := tables_1_5) (i := 130) rfl), Or.inl rfl⟩
theorem hw_1572 : GW (Cond.static yL_view) := ⟨tk_5 _ (List.mem_of_getElem? (l := tables_1_5) (i := 131) rfl), Or.inl rfl⟩
theorem hw_1573 : GW (Cond.methodLink RL 199 yX11_view) := ⟨tk_8 _ (List.mem_of_getElem? (l := tables_1_8) (i := 113) rfl), Or.inl rfl⟩
theorem hw_1574 : GW (Cond.instanceMethod yX11_view) := ⟨tk_8 _ (List.mem_of_getElem? (l := tables_1_8) (i := 114) rfl), Or.inl rfl⟩
theorem hw_1575 : GW (Cond.selects RX11 yX11_view yX11_view) := ⟨tk_8 _ (List.mem_of_getElem? (l := tables_1_8) (i := 115) rfl), Or.inl rfl⟩
theorem hw_1576 : GW (Cond.methodLink RL 200 yL_seams) := ⟨tk_5 _ (List.mem_of_getElem? (l := tables_1_5) (i := 143) rfl), Or.inl rfl⟩
theorem hw_1577 : GW (Cond.static yL_seams) := ⟨tk_5 _ (List.mem_of_getElem? (l := tables_1_5) (i := 144) rfl), Or.inl rfl⟩
theorem hw_1578 : GW (Cond.methodLink RL 202 yX11_seams) := ⟨tk_8 _ (List.mem_of_getElem? (l := tables_1_8) (i := 117) rfl), Or.inl rfl⟩
theorem hw_1579 : GW (Cond.instanceMethod yX11_seams) := ⟨tk_8 _ (List.mem_of_getElem? (l := tables_1_8) (i := 118) rfl), Or.inl rfl⟩
theorem hw_1580 : GW (Cond.selects RX11 yX11_seams yX11_seams) := ⟨tk_8 _ (List.mem_of_getElem? (l := tables_1_8) (i := 119) rfl), Or.inl rfl⟩
theorem hw_1581 : GW (Cond.methodLink RL 203 yL_sights) := ⟨tk_5 _ (List.mem_of_getElem? (l := tables_1_5) (i := 157) rfl), Or.inl rfl⟩
theorem hw_1582 : GW (Cond.static yL_sights) := ⟨tk_5 _ (List.mem_of_getElem? (l := tables_1_5) (i := 158) rfl), Or.inl rfl⟩
theorem hw_1583 : GW (Cond.methodLink RL 205 yX11_sights) := ⟨tk_8 _ (List.mem_of_getElem? (l := tables_1_8) (i := 125) rfl), Or.inl rfl⟩
theorem hw_1584 : GW (Cond.instanceMethod yX11_sights) := ⟨tk_8 _ (List.mem_of_getElem? (l := tables_1_8) (i := 126) rfl), Or.inl rfl⟩
theorem hw_1585 : GW (Cond.selects RX11 yX11_sights yX11_sights) := ⟨tk_8 _ (List.mem_of_getElem? (l := tables_1_8) (i := 127) rfl), Or.inl rfl⟩
theorem hw_1586 : GW (Cond.methodLink RL 206 yL_alike) := ⟨tk_5 _ (List.mem_of_getElem? (l := tables_1_5) (i := 173) rfl), Or.inl rfl⟩
theorem hw_1587 : GW (Cond.static yL_alike) := ⟨tk_5 _ (List.mem_of_getElem? (l := tables_1_5) (i := 174) rfl), Or.inl rfl⟩
theorem hw_1588 : GW (Cond.methodLink RL 208 yX11_alike) := ⟨tk_8 _ (List.mem_of_getElem? (l := tables_1_8) (i := 132) rfl), Or.inl rfl⟩
theorem hw_1589 : GW (Cond.instanceMethod yX11_alike) := ⟨tk_8 _ (List.mem_of_getElem? (l := tables_1_8) (i := 133) rfl), Or.inl rfl⟩
theorem hw_1590 : GW (Cond.selects RX11 yX11_alike yX11_alike) := ⟨tk_8 _ (List.mem_of_getElem? (l := tables_1_8) (i := 134) rfl), Or.inl rfl⟩
theorem hw_1591 : GW (Cond.methodLink RL 209 yL_oldest) := ⟨tk_5 _ (List.mem_of_getElem? (l := tables_1_5) (i := 184) rfl), Or.inl rfl⟩
theorem hw_1592 : GW (Cond.static yL_oldest) := ⟨tk_5 _ (List.mem_of_getElem? (l := tables_1_5) (i := 185) rfl), Or.inl rfl⟩
theorem hw_1593 : GW (Cond.methodLink RL 211 yX11_oldest) := ⟨tk_8 _ (List.mem_of_getElem? (l := tables_1_8) (i := 136) rfl), Or.inl rfl⟩
theorem hw_1594 : GW (Cond.instanceMethod yX11_oldest) := ⟨tk_8 _ (List.mem_of_getElem? (l := tables_1_8) (i := 137) rfl), Or.inl rfl⟩
theorem hw_1595 : GW (Cond.selects RX11 yX11_oldest yX11_oldest) := ⟨tk_8 _ (List.mem_of_getElem? (l := tables_1_8) (i := 138) rfl), Or.inl rfl⟩
theorem hw_1596 : GW (Cond.methodLink RL 212 yX10_thick) := ⟨tk_3 _ (List.mem_of_getElem? (l := tables_1_3) (i := 14) rfl), Or.inl rfl⟩
theorem hw_1597 : GW (Cond.instanceMethod yX10_thick) := ⟨tk_3 _ (List.mem_of_getElem? (l := tables_1_3) (i := 15) rfl), Or.inl rfl⟩
theorem hw_1598 : GW (Cond.selects RX10 yX10_thick yX10_thick) := ⟨tk_3 _ (List.mem_of_getElem? (l := tables_1_3) (i := 16) rfl), Or.inl rfl⟩
theorem hw_1599 : GW (Cond.methodLink RL 215 yX11_thick) := ⟨tk_8 _ (List.mem_of_getElem? (l := tables_1_8) (i := 140) rfl), Or.inl rfl⟩
theorem hw_1600 : GW (Cond.instanceMethod yX11_thick) := ⟨tk_8 _ (List.mem_of_getElem? (l := tables_1_8) (i := 141) rfl), Or.inl rfl⟩
theorem hw_1601 : GW (Cond.selects RX11 yX11_thick yX11_thick) := ⟨tk_8 _ (List.mem_of_getElem? (l := tables_1_8) (i := 142) rfl), Or.inl rfl⟩
theorem hw_1602 : GW (Cond.methodLink RL 216 yL_patch) := ⟨tk_5 _ (List.mem_of_getElem? (l := tables_1_5) (i := 199) rfl), Or.inl rfl⟩
theorem hw_1603 : GW (Cond.static yL_patch) := ⟨tk_5 _ (List.mem_of_getElem? (l := tables_1_5) (i := 200) rfl), Or.inl rfl⟩
theorem hw_1604 : GW (Cond.methodLink RL 218 yX11_patch) := ⟨tk_8 _ (List.mem_of_getElem? (l := tables_1_8) (i := 144) rfl), Or.inl rfl⟩
theorem hw_1605 : GW (Cond.instanceMethod yX11_patch) := ⟨tk_8 _ (List.mem_of_getElem? (l := tables_1_8) (i := 145) rfl), Or.inl rfl⟩
theorem hw_1606 : GW (Cond.selects RX11 yX11_patch yX11_patch) := ⟨tk_8 _ (List.mem_of_getElem? (l := tables_1_8) (i := 146) rfl), Or.inl rfl⟩
theorem hw_1607 : GW (Cond.methodLink RL 219 yL_tells) := ⟨tk_5 _ (List.mem_of_getElem? (l := tables_1_5) (i := 221) rfl), Or.inl rfl⟩
theorem hw_1608 : GW (Cond.static yL_tells) := ⟨tk_5 _ (List.mem_of_getElem? (l := tables_1_5) (i := 222) rfl), Or.inl rfl⟩
theorem hw_1609 : GW (Cond.methodLink RL 221 yX11_tells) := ⟨tk_8 _ (List.mem_of_getElem? (l := tables_1_8) (i := 152) rfl), Or.inl rfl⟩
theorem hw_1610 : GW (Cond.instanceMethod yX11_tells) := ⟨tk_8 _ (List.mem_of_getElem? (l := tables_1_8) (i := 153) rfl), Or.inl rfl⟩
theorem hw_1611 : GW (Cond.selects RX11 yX11_tells yX11_tells) := ⟨tk_8 _ (List.mem_of_getElem? (l := tables_1_8) (i := 154) rfl), Or.inl rfl⟩
theorem hw_1612 : GW (Cond.methodLink RL 222 yL_look) := ⟨tk_5 _ (List.mem_of_getElem? (l := tables_1_5) (i := 237) rfl), Or.inl rfl⟩
theorem hw_1613 : GW (Cond.static yL_look) := ⟨tk_5 _ (List.mem_of_getElem? (l := tables_1_5) (i := 238) rfl), Or.inl rfl⟩
theorem hw_1614 : GW (Cond.methodLink RL 224 yX11_look) := ⟨tk_8 _ (List.mem_of_getElem? (l := tables_1_8) (i := 164) rfl), Or.inl rfl⟩
theorem hw_1615 : GW (Cond.instanceMethod yX11_look) := ⟨tk_8 _ (List.mem_of_getElem? (l := tables_1_8) (i := 165) rfl), Or.inl rfl⟩
theorem hw_1616 : GW (Cond.selects RX11 yX11_look yX11_look) := ⟨tk_8 _ (List.mem_of_getElem? (l := tables_1_8) (i := 166) rfl), Or.inl rfl⟩
theorem hw_1617 : GW (Cond.methodLink RL 225 yL_cover) := ⟨tk_6 _ (List.mem_of_getElem? (l := tables_1_6) (i := 14) rfl), Or.inl rfl⟩
theorem hw_1618 : GW (Cond.static yL_cover) := ⟨tk_6 _ (List.mem_of_getElem? (l := tables_1_6) (i := 15) rfl), Or.inl rfl⟩
theorem hw_1619 : GW (Cond.methodLink RL 227 yX11_cover) := ⟨tk_8 _ (List.mem_of_getElem? (l := tables_1_8) (i := 176) rfl), Or.inl rfl⟩
theorem hw_1620 : GW (Cond.instanceMethod yX11_cover) := ⟨tk_8 _ (List.mem_of_getElem? (l := tables_1_8) (i := 177) rfl), Or.inl rfl⟩
theorem hw_1621 : GW (Cond.selects RX11 yX11_cover yX11_cover) := ⟨tk_8 _ (List.mem_of_getElem? (l := tables_1_8) (i := 178) rfl), Or.inl rfl⟩
theorem hw_1622 : GW (Cond.methodLink RL 228 yL_game) := ⟨tk_6 _ (List.mem_of_getElem? (l := tables_1_6) (i := 30) rfl), Or.inl rfl⟩
theorem hw_1623 : GW (Cond.static yL_game) := ⟨tk_6 _ (List.mem_of_getElem? (l := tables_1_6) (i := 31) rfl), Or.inl rfl⟩
theorem hw_1624 : GW (Cond.methodLink RL 230 yX11_game) := ⟨tk_8 _ (List.mem_of_getElem? (l := tables_1_8) (i := 188) rfl), Or.inl rfl⟩
theorem hw_1625 : GW (Cond.instanceMethod yX11_game) := ⟨tk_8 _ (List.mem_of_getElem? (l := tables_1_8) (i := 189) rfl), Or.inl rfl⟩
theorem hw_1626 : GW (Cond.selects RX11 yX11_game yX11_game) := ⟨tk_8 _ (List.mem_of_getElem? (l := tables_1_8) (i := 190) rfl), Or.inl rfl⟩
theorem hw_1627 : GW (Cond.methodLink RL 231 yL_round) := ⟨tk_6 _ (List.mem_of_getElem? (l := tables_1_6) (i := 41) rfl), Or.inl rfl⟩
theorem hw_1628 : GW (Cond.static yL_round) := ⟨tk_6 _ (List.mem_of_getElem? (l := tables_1_6) (i := 42) rfl), Or.inl rfl⟩
theorem hw_1629 : GW (Cond.methodLink RL 233 yX11_round) := ⟨tk_8 _ (List.mem_of_getElem? (l := tables_1_8) (i := 192) rfl), Or.inl rfl⟩
theorem hw_1630 : GW (Cond.instanceMethod yX11_round) := ⟨tk_8 _ (List.mem_of_getElem? (l := tables_1_8) (i := 193) rfl), Or.inl rfl⟩
theorem hw_1631 : GW (Cond.selects RX11 yX11_round yX11_round) := ⟨tk_8 _ (List.mem_of_getElem? (l := tables_1_8) (i := 194) rfl), Or.inl rfl⟩
theorem hw_1632 : GW (Cond.methodLink RL 234 yL_by) := ⟨tk_6 _ (List.mem_of_getElem? (l := tables_1_6) (i := 68) rfl), Or.inl rfl⟩
theorem hw_1633 : GW (Cond.static yL_by) := ⟨tk_6 _ (List.mem_of_getElem? (l := tables_1_6) (i := 69) rfl), Or.inl rfl⟩
theorem hw_1634 : GW (Cond.methodLink RL 236 yX11_by) := ⟨tk_8 _ (List.mem_of_getElem? (l := tables_1_8) (i := 212) rfl), Or.inl rfl⟩
theorem hw_1635 : GW (Cond.instanceMethod yX11_by) := ⟨tk_8 _ (List.mem_of_getElem? (l := tables_1_8) (i := 213) rfl), Or.inl rfl⟩
theorem hw_1636 : GW (Cond.selects RX11 yX11_by yX11_by) := ⟨tk_8 _ (List.mem_of_getElem? (l := tables_1_8) (i := 214) rfl), Or.inl rfl⟩
theorem hw_1637 : GW (Cond.methodLink RL 237 yL_share) := ⟨tk_6 _ (List.mem_of_getElem? (l := tables_1_6) (i := 80) rfl), Or.inl rfl⟩
theorem hw_1638 : GW (Cond.static yL_share) := ⟨tk_6 _ (List.mem_of_getElem? (l := tables_1_6) (i := 81) rfl), Or.inl rfl⟩
theorem hw_1639 : GW (Cond.methodLink RL 239 yX11_share) := ⟨tk_8 _ (List.mem_of_getElem? (l := tables_1_8) (i := 220) rfl), Or.inl rfl⟩
theorem hw_1640 : GW (Cond.instanceMethod yX11_share) := ⟨tk_8 _ (List.mem_of_getElem? (l := tables_1_8) (i := 221) rfl), Or.inl rfl⟩
theorem hw_1641 : GW (Cond.selects RX11 yX11_share yX11_share) := ⟨tk_8 _ (List.mem_of_getElem? (l := tables_1_8) (i := 222) rfl), Or.inl rfl⟩
theorem hw_1642 : GW (Cond.methodLink RL 240 yL_ahead) := ⟨tk_6 _ (List.mem_of_getElem? (l := tables_1_6) (i := 92) rfl), Or.inl rfl⟩
theorem hw_1643 : GW (Cond.static yL_ahead) := ⟨tk_6 _ (List.mem_of_getElem? (l := tables_1_6) (i := 93) rfl), Or.inl rfl⟩
theorem hw_1644 : GW (Cond.methodLink RL 242 yX11_ahead) := ⟨tk_8 _ (List.mem_of_getElem? (l := tables_1_8) (i := 224) rfl), Or.inl rfl⟩
theorem hw_1645 : GW (Cond.instanceMethod yX11_ahead) := ⟨tk_8 _ (List.mem_of_getElem? (l := tables_1_8) (i := 225) rfl), Or.inl rfl⟩
theorem hw_1646 : GW (Cond.selects RX11 yX11_ahead yX11_ahead) := ⟨tk_8 _ (List.mem_of_getElem? (l := tables_1_8) (i := 226) rfl), Or.inl rfl⟩
theorem hw_1647 : GW (Cond.methodLink RL 243 yL_decade) := ⟨tk_6 _ (List.mem_of_getElem? (l := tables_1_6) (i := 104) rfl), Or.inl rfl⟩
theorem hw_1648 : GW (Cond.static yL_decade) := ⟨tk_6 _ (List.mem_of_getElem? (l := tables_1_6) (i := 105) rfl), Or.inl rfl⟩
theorem hw_1649 : GW (Cond.methodLink RL 245 yX11_decade) := ⟨tk_8 _ (List.mem_of_getElem? (l := tables_1_8) (i := 228) rfl), Or.inl rfl⟩
theorem hw_1650 : GW (Cond.instanceMethod yX11_decade) := ⟨tk_8 _ (List.mem_of_getElem? (l := tables_1_8) (i := 229) rfl), Or.inl rfl⟩
theorem hw_1651 : GW (Cond.selects RX11 yX11_decade yX11_decade) := ⟨tk_8 _ (List.mem_of_getElem? (l := tables_1_8) (i := 230) rfl), Or.inl rfl⟩
theorem hw_1652 : GW (Cond.methodLink RL 246 yL_span) := ⟨tk_6 _ (List.mem_of_getElem? (l := tables_1_6) (i := 122) rfl), Or.inl rfl⟩
theorem hw_1653 : GW (Cond.static yL_span) := ⟨tk_6 _ (List.mem_of_getElem? (l := tables_1_6) (i := 123) rfl), Or.inl rfl⟩
theorem hw_1654 : GW (Cond.methodLink RL 249 yX11_span) := ⟨tk_9 _ (List.mem_of_getElem? (l := tables_1_9) (i := 0) rfl), Or.inl rfl⟩
theorem hw_1655 : GW (Cond.instanceMethod yX11_span) := ⟨tk_9 _ (List.mem_of_getElem? (l := tables_1_9) (i := 1) rfl), Or.inl rfl⟩
theorem hw_1656 : GW (Cond.selects RX11 yX11_span yX11_span) := ⟨tk_9 _ (List.mem_of_getElem? (l := tables_1_9) (i := 2) rfl), Or.inl rfl⟩
theorem hw_1657 : GW (Cond.methodLink RL 250 yX10_image) := ⟨tk_3 _ (List.mem_of_getElem? (l := tables_1_3) (i := 22) rfl), Or.inl rfl⟩
theorem hw_1658 : GW (Cond.instanceMethod yX10_image) := ⟨tk_3 _ (List.mem_of_getElem? (l := tables_1_3) (i := 23) rfl), Or.inl rfl⟩
theorem hw_1659 : GW (Cond.selects RX10 yX10_image yX10_image) := ⟨tk_3 _ (List.mem_of_getElem? (l := tables_1_3) (i := 24) rfl), Or.inl rfl⟩
theorem hw_1660 : GW (Cond.methodLink RL 253 yX11_image) := ⟨tk_9 _ (List.mem_of_getElem? (l := tables_1_9) (i := 4) rfl), Or.inl rfl⟩
theorem hw_1661 : GW (Cond.instanceMethod yX11_image) := ⟨tk_9 _ (List.mem_of_getElem? (l := tables_1_9) (i := 5) rfl), Or.inl rfl⟩
theorem hw_1662 : GW (Cond.selects RX11 yX11_image yX11_image) := ⟨tk_9 _ (List.mem_of_getElem? (l := tables_1_9) (i := 6) rfl), Or.inl rfl⟩
theorem hw_1663 : GW (Cond.methodLink RL 254 yX10_restore) := ⟨tk_3 _ (List.mem_of_getElem? (l := tables_1_3) (i := 30) rfl), Or.inl rfl⟩
theorem hw_1664 : GW (Cond.instanceMethod yX10_restore) := ⟨tk_3 _ (List.mem_of_getElem? (l := tables_1_3) (i := 31) rfl), Or.inl rfl⟩
theorem hw_1665 : GW (Cond.selects RX10 yX10_restore yX10_restore) := ⟨tk_3 _ (List.mem_of_getElem? (l := tables_1_3) (i := 32) rfl), Or.inl rfl⟩
theorem hw_1666 : GW (Cond.methodLink RL 257 yX11_restore) := ⟨tk_9 _ (List.mem_of_getElem? (l := tables_1_9) (i := 16) rfl), Or.inl rfl⟩
theorem hw_1667 : GW (Cond.instanceMethod yX11_restore) := ⟨tk_9 _ (List.mem_of_getElem? (l := tables_1_9) (i := 17) rfl), Or.inl rfl⟩
theorem hw_1668 : GW (Cond.selects RX11 yX11_restore yX11_restore) := ⟨tk_9 _ (List.mem_of_getElem? (l := tables_1_9) (i := 18) rfl), Or.inl rfl⟩
theorem hw_1669 : GW (Cond.methodLink RL 258 yX10_status) := ⟨tk_3 _ (List.mem_of_getElem? (l := tables_1_3) (i := 34) rfl), Or.inl rfl⟩
theorem hw_1670 : GW (Cond.instanceMethod yX10_status) := ⟨tk_3 _ (List.mem_of_getElem? (l := tables_1_3) (i := 35) rfl), Or.inl rfl⟩
theorem hw_1671 : GW (Cond.selects RX10 yX10_status yX10_status) := ⟨tk_3 _ (List.mem_of_getElem? (l := tables_1_3) (i := 36) rfl), Or.inl rfl⟩
theorem hw_1672 : GW (Cond.methodLink RL 261 yX11_status) := ⟨tk_9 _ (List.mem_of_getElem? (l := tables_1_9) (i := 20) rfl), Or.inl rfl⟩
theorem hw_1673 : GW (Cond.instanceMethod yX11_status) := ⟨tk_9 _ (List.mem_of_getElem? (l := tables_1_9) (i := 21) rfl), Or.inl rfl⟩
theorem hw_1674 : GW (Cond.selects RX11 yX11_status yX11_status) := ⟨tk_9 _ (List.mem_of_getElem? (l := tables_1_9) (i := 22) rfl), Or.inl rfl⟩
theorem hw_1675 : GW (Cond.methodLink RL 262 yX10_count) := ⟨tk_3 _ (List.mem_of_getElem? (l := tables_1_3) (i := 38) rfl), Or.inl rfl⟩
theorem hw_1676 : GW (Cond.instanceMethod yX10_count) := ⟨tk_3 _ (List.mem_of_getElem? (l := tables_1_3) (i := 39) rfl), Or.inl rfl⟩
theorem hw_1677 : GW (Cond.selects RX10 yX10_count yX10_count) := ⟨tk_3 _ (List.mem_of_getElem? (l := tables_1_3) (i := 40) rfl), Or.inl rfl⟩
theorem hw_1678 : GW (Cond.methodLink RL 265 yX11_count) := ⟨tk_9 _ (List.mem_of_getElem? (l := tables_1_9) (i := 24) rfl), Or.inl rfl⟩
theorem hw_1679 : GW (Cond.instanceMethod yX11_count) := ⟨tk_9 _ (List.mem_of_getElem? (l := tables_1_9) (i := 25) rfl), Or.inl rfl⟩
theorem hw_1680 : GW (Cond.selects RX11 yX11_count yX11_count) := ⟨tk_9 _ (List.mem_of_getElem? (l := tables_1_9) (i := 26) rfl), Or.inl rfl⟩
