def G : List Cond := lw_tbl.filter goodWord
theorem inG {w : Cond} (h : w ∈ lw_tbl) (g : goodWord w = true) : w ∈ G := List.mem_filter.mpr ⟨h, g⟩
theorem G_tbl : ∀ w ∈ G, w ∈ lw_tbl := fun w h => (List.mem_filter.mp h).1
theorem G_good : ∀ w ∈ G, (w.onTables && w.keeps) = true ∨ ∃ ty, w = .arrayClass ty := fun w h => good_of_word (List.mem_filter.mp h).2
theorem inT {w : Cond} (h : w ∈ tables_1) : w ∈ lw_tbl := List.mem_append_right _ h
abbrev WV (y : MethodName) (C : String) (cc : ByteArray) (maxL : Nat) (ret : Option FieldType) (n : Nat) : Prop := (Cond.instanceMethod y ∈ G ∧ Cond.selects C y y ∈ G ∧ Cond.initialized C ∈ G ∧ Cond.code y cc maxL ret ∈ G) ∧ y.cls = C ∧ y.cls ≠ "java/lang/invoke/MethodHandle" ∧ y.cls ≠ "java/lang/invoke/VarHandle" ∧ (parseMethodDescriptor y.desc).map (fun d => d.parameters.length) = some n
abbrev WS (y : MethodName) (cc : ByteArray) (maxL : Nat) (ret : Option FieldType) (n : Nat) : Prop := (Cond.static y ∈ G ∧ Cond.initialized y.cls ∈ G ∧ Cond.code y cc maxL ret ∈ G) ∧ y.cls ≠ "java/lang/invoke/MethodHandle" ∧ y.cls ≠ "java/lang/invoke/VarHandle" ∧ (parseMethodDescriptor y.desc).map (fun d => d.parameters.length) = some n
abbrev WI (y : MethodName) (cc : ByteArray) (maxL : Nat) (ret : Option FieldType) (n : Nat) : Prop := (Cond.instanceMethod y ∈ G ∧ Cond.initialized y.cls ∈ G ∧ Cond.code y cc maxL ret ∈ G) ∧ y.cls ≠ "java/lang/invoke/MethodHandle" ∧ y.cls ≠ "java/lang/invoke/VarHandle" ∧ (parseMethodDescriptor y.desc).map (fun d => d.parameters.length) = some n
theorem inT1 {w : Cond} {k : Nat} (h : tables_1_1[k]? = some w) : w ∈ lw_tbl := inT (List.mem_append_left _ (List.mem_of_getElem? h))
theorem inT2 {w : Cond} {k : Nat} (h : tables_1_2[k]? = some w) : w ∈ lw_tbl := inT (List.mem_append_right _ (List.mem_append_left _ (List.mem_of_getElem? h)))
theorem inT3 {w : Cond} {k : Nat} (h : tables_1_3[k]? = some w) : w ∈ lw_tbl := inT (List.mem_append_right _ (List.mem_append_right _ (List.mem_append_left _ (List.mem_of_getElem? h))))
theorem inT4 {w : Cond} {k : Nat} (h : tables_1_4[k]? = some w) : w ∈ lw_tbl := inT (List.mem_append_right _ (List.mem_append_right _ (List.mem_append_right _ (List.mem_append_left _ (List.mem_of_getElem? h)))))
theorem inT5 {w : Cond} {k : Nat} (h : tables_1_5[k]? = some w) : w ∈ lw_tbl := inT (List.mem_append_right _ (List.mem_append_right _ (List.mem_append_right _ (List.mem_append_right _ (List.mem_append_left _ (List.mem_of_getElem? h))))))
theorem inT6 {w : Cond} {k : Nat} (h : tables_1_6[k]? = some w) : w ∈ lw_tbl := inT (List.mem_append_right _ (List.mem_append_right _ (List.mem_append_right _ (List.mem_append_right _ (List.mem_append_right _ ((List.mem_of_getElem? h)))))))
theorem inS {q : MethodName × Nat} {k : Nat} (h : lw_privs[k]? = some q) : Cond.selects q.1.cls q.1 q.1 ∈ lw_tbl := List.mem_append_left _ (List.mem_map.mpr ⟨q, List.mem_of_getElem? h, rfl⟩)
theorem wi_J0 : Cond.initialized RJ0 ∈ G := inG (inT1 (k := 7) rfl) rfl
theorem wi_J1 : Cond.initialized RJ1 ∈ G := inG (inT1 (k := 8) rfl) rfl
theorem wi_J10 : Cond.initialized RJ10 ∈ G := inG (inT1 (k := 14) rfl) rfl
theorem wi_J2 : Cond.initialized RJ2 ∈ G := inG (inT1 (k := 10) rfl) rfl
theorem wi_J3 : Cond.initialized RJ3 ∈ G := inG (inT1 (k := 9) rfl) rfl
theorem wi_J6 : Cond.initialized RJ6 ∈ G := inG (inT1 (k := 11) rfl) rfl
theorem wi_J9 : Cond.initialized RJ9 ∈ G := inG (inT1 (k := 13) rfl) rfl
theorem wi_L : Cond.initialized RL ∈ G := inG (inT1 (k := 0) rfl) rfl
theorem wi_X0 : Cond.initialized RX0 ∈ G := inG (inT1 (k := 15) rfl) rfl
theorem wi_X1 : Cond.initialized RX1 ∈ G := inG (inT1 (k := 2) rfl) rfl
theorem wn_X1 : Cond.instantiable RX1 9 ∈ G := inG (inT1 (k := 27) rfl) rfl
theorem wi_X2 : Cond.initialized RX2 ∈ G := inG (inT1 (k := 4) rfl) rfl
theorem wn_X2 : Cond.instantiable RX2 2 ∈ G := inG (inT1 (k := 122) rfl) rfl
theorem wi_X3 : Cond.initialized RX3 ∈ G := inG (inT1 (k := 3) rfl) rfl
theorem wn_X3 : Cond.instantiable RX3 10 ∈ G := inG (inT1 (k := 33) rfl) rfl
theorem wi_X4 : Cond.initialized RX4 ∈ G := inG (inT1 (k := 16) rfl) rfl
theorem wi_X5 : Cond.initialized RX5 ∈ G := inG (inT1 (k := 12) rfl) rfl
theorem wi_X6 : Cond.initialized RX6 ∈ G := inG (inT1 (k := 17) rfl) rfl
theorem wi_X7 : Cond.initialized RX7 ∈ G := inG (inT1 (k := 5) rfl) rfl
theorem wn_X7 : Cond.instantiable RX7 6 ∈ G := inG (inT1 (k := 128) rfl) rfl
theorem wi_X8 : Cond.initialized RX8 ∈ G := inG (inT1 (k := 1) rfl) rfl
theorem wn_X8 : Cond.instantiable RX8 8 ∈ G := inG (inT1 (k := 19) rfl) rfl
theorem wi_X9 : Cond.initialized RX9 ∈ G := inG (inT1 (k := 6) rfl) rfl
theorem wn_X9 : Cond.instantiable RX9 28 ∈ G := inG (inT4 (k := 31) rfl) rfl
theorem wc_L_7 : Cond.classLink RL 7 RX8 ∈ G := inG (inT1 (k := 18) rfl) rfl
theorem wl_L_9 : Cond.methodLink RL 9 yX8_init ∈ G := inG (inT1 (k := 20) rfl) rfl
theorem wl_X8_1 : Cond.methodLink RX8 1 objectInit ∈ G := inG (inT1 (k := 23) rfl) rfl
theorem wc_X8_7 : Cond.classLink RX8 7 RX1 ∈ G := inG (inT1 (k := 26) rfl) rfl
theorem wl_X1_3 : Cond.methodLink RX1 3 objectInit ∈ G := inG (inT1 (k := 31) rfl) rfl
theorem wc_X1_9 : Cond.classLink RX1 9 RX3 ∈ G := inG (inT1 (k := 32) rfl) rfl
theorem wl_X3_3 : Cond.methodLink RX3 3 objectInit ∈ G := inG (inT1 (k := 37) rfl) rfl
theorem wf_X3_9 : Cond.fieldLink RX3 9 (TX3 0).1 (TX3 0).2.1 (TX3 0).2.2.1 ∈ G := inG (inT1 (k := 38) rfl) rfl
theorem wf_X8_175 : Cond.fieldLink RX8 175 (TX3 0).1 (TX3 0).2.1 (TX3 0).2.2.1 ∈ G := inG (inT1 (k := 39) rfl) rfl
theorem wf_X3_15 : Cond.fieldLink RX3 15 (TX3 1).1 (TX3 1).2.1 (TX3 1).2.2.1 ∈ G := inG (inT1 (k := 40) rfl) rfl
theorem wf_X8_75 : Cond.fieldLink RX8 75 (TX3 1).1 (TX3 1).2.1 (TX3 1).2.2.1 ∈ G := inG (inT1 (k := 41) rfl) rfl
theorem wf_X2_87 : Cond.fieldLink RX2 87 (TX3 1).1 (TX3 1).2.1 (TX3 1).2.2.1 ∈ G := inG (inT1 (k := 42) rfl) rfl
theorem wf_X3_18 : Cond.fieldLink RX3 18 (TX3 2).1 (TX3 2).2.1 (TX3 2).2.2.1 ∈ G := inG (inT1 (k := 43) rfl) rfl
theorem wf_X8_166 : Cond.fieldLink RX8 166 (TX3 2).1 (TX3 2).2.1 (TX3 2).2.2.1 ∈ G := inG (inT1 (k := 44) rfl) rfl
theorem wf_X3_21 : Cond.fieldLink RX3 21 (TX3 3).1 (TX3 3).2.1 (TX3 3).2.2.1 ∈ G := inG (inT1 (k := 45) rfl) rfl
theorem wf_X8_169 : Cond.fieldLink RX8 169 (TX3 3).1 (TX3 3).2.1 (TX3 3).2.2.1 ∈ G := inG (inT1 (k := 46) rfl) rfl
theorem wf_X3_24 : Cond.fieldLink RX3 24 (TX3 4).1 (TX3 4).2.1 (TX3 4).2.2.1 ∈ G := inG (inT1 (k := 47) rfl) rfl
theorem wf_X8_172 : Cond.fieldLink RX8 172 (TX3 4).1 (TX3 4).2.1 (TX3 4).2.2.1 ∈ G := inG (inT1 (k := 48) rfl) rfl
theorem wf_X8_60 : Cond.fieldLink RX8 60 (TX3 5).1 (TX3 5).2.1 (TX3 5).2.2.1 ∈ G := inG (inT1 (k := 49) rfl) rfl
theorem wf_X3_31 : Cond.fieldLink RX3 31 (TX3 5).1 (TX3 5).2.1 (TX3 5).2.2.1 ∈ G := inG (inT1 (k := 50) rfl) rfl
theorem wf_X2_98 : Cond.fieldLink RX2 98 (TX3 5).1 (TX3 5).2.1 (TX3 5).2.2.1 ∈ G := inG (inT1 (k := 51) rfl) rfl
theorem wf_X3_34 : Cond.fieldLink RX3 34 (TX3 6).1 (TX3 6).2.1 (TX3 6).2.2.1 ∈ G := inG (inT1 (k := 52) rfl) rfl
theorem wf_X2_101 : Cond.fieldLink RX2 101 (TX3 6).1 (TX3 6).2.1 (TX3 6).2.2.1 ∈ G := inG (inT1 (k := 53) rfl) rfl
theorem wf_X8_120 : Cond.fieldLink RX8 120 (TX3 6).1 (TX3 6).2.1 (TX3 6).2.2.1 ∈ G := inG (inT1 (k := 54) rfl) rfl
theorem wf_X3_37 : Cond.fieldLink RX3 37 (TX3 7).1 (TX3 7).2.1 (TX3 7).2.2.1 ∈ G := inG (inT1 (k := 55) rfl) rfl
theorem wf_X4_35 : Cond.fieldLink RX4 35 (TX3 7).1 (TX3 7).2.1 (TX3 7).2.2.1 ∈ G := inG (inT1 (k := 56) rfl) rfl
theorem wf_X8_136 : Cond.fieldLink RX8 136 (TX3 7).1 (TX3 7).2.1 (TX3 7).2.2.1 ∈ G := inG (inT1 (k := 57) rfl) rfl
theorem wf_X3_40 : Cond.fieldLink RX3 40 (TX3 8).1 (TX3 8).2.1 (TX3 8).2.2.1 ∈ G := inG (inT1 (k := 58) rfl) rfl
theorem wf_X8_145 : Cond.fieldLink RX8 145 (TX3 8).1 (TX3 8).2.1 (TX3 8).2.2.1 ∈ G := inG (inT1 (k := 59) rfl) rfl
theorem wf_X3_27 : Cond.fieldLink RX3 27 (TX3 9).1 (TX3 9).2.1 (TX3 9).2.2.1 ∈ G := inG (inT1 (k := 60) rfl) rfl
theorem wf_X1_12 : Cond.fieldLink RX1 12 (TX1 0).1 (TX1 0).2.1 (TX1 0).2.2.1 ∈ G := inG (inT1 (k := 83) rfl) rfl
theorem wf_X8_57 : Cond.fieldLink RX8 57 (TX1 0).1 (TX1 0).2.1 (TX1 0).2.2.1 ∈ G := inG (inT1 (k := 84) rfl) rfl
theorem wf_X1_18 : Cond.fieldLink RX1 18 (TX1 1).1 (TX1 1).2.1 (TX1 1).2.2.1 ∈ G := inG (inT1 (k := 85) rfl) rfl
theorem wf_X8_209 : Cond.fieldLink RX8 209 (TX1 1).1 (TX1 1).2.1 (TX1 1).2.2.1 ∈ G := inG (inT1 (k := 86) rfl) rfl
theorem wf_X1_36 : Cond.fieldLink RX1 36 (TX1 2).1 (TX1 2).2.1 (TX1 2).2.2.1 ∈ G := inG (inT1 (k := 87) rfl) rfl
theorem wf_X8_206 : Cond.fieldLink RX8 206 (TX1 2).1 (TX1 2).2.1 (TX1 2).2.2.1 ∈ G := inG (inT1 (k := 88) rfl) rfl
theorem wf_X1_22 : Cond.fieldLink RX1 22 (TX1 3).1 (TX1 3).2.1 (TX1 3).2.2.1 ∈ G := inG (inT1 (k := 89) rfl) rfl
theorem wf_X1_40 : Cond.fieldLink RX1 40 (TX1 4).1 (TX1 4).2.1 (TX1 4).2.2.1 ∈ G := inG (inT1 (k := 90) rfl) rfl
theorem wf_X8_219 : Cond.fieldLink RX8 219 (TX1 4).1 (TX1 4).2.1 (TX1 4).2.2.1 ∈ G := inG (inT1 (k := 91) rfl) rfl
theorem wf_X1_25 : Cond.fieldLink RX1 25 (TX1 5).1 (TX1 5).2.1 (TX1 5).2.2.1 ∈ G := inG (inT1 (k := 92) rfl) rfl
theorem wf_X1_43 : Cond.fieldLink RX1 43 (TX1 6).1 (TX1 6).2.1 (TX1 6).2.2.1 ∈ G := inG (inT1 (k := 93) rfl) rfl
theorem wf_X8_226 : Cond.fieldLink RX8 226 (TX1 6).1 (TX1 6).2.1 (TX1 6).2.2.1 ∈ G := inG (inT1 (k := 94) rfl) rfl
theorem wf_X1_28 : Cond.fieldLink RX1 28 (TX1 7).1 (TX1 7).2.1 (TX1 7).2.2.1 ∈ G := inG (inT1 (k := 95) rfl) rfl
theorem wf_X1_46 : Cond.fieldLink RX1 46 (TX1 8).1 (TX1 8).2.1 (TX1 8).2.2.1 ∈ G := inG (inT1 (k := 96) rfl) rfl
theorem wf_X8_148 : Cond.fieldLink RX8 148 (TX1 8).1 (TX1 8).2.1 (TX1 8).2.2.1 ∈ G := inG (inT1 (k := 97) rfl) rfl
theorem wc_X8_24 : Cond.classLink RX8 24 RX3 ∈ G := inG (inT1 (k := 119) rfl) rfl
theorem wc_X8_31 : Cond.classLink RX8 31 RX2 ∈ G := inG (inT1 (k := 121) rfl) rfl
theorem wl_X2_3 : Cond.methodLink RX2 3 objectInit ∈ G := inG (inT1 (k := 126) rfl) rfl
theorem wc_X2_9 : Cond.classLink RX2 9 RX7 ∈ G := inG (inT1 (k := 127) rfl) rfl
theorem wl_X7_3 : Cond.methodLink RX7 3 objectInit ∈ G := inG (inT1 (k := 132) rfl) rfl
theorem wf_X7_9 : Cond.fieldLink RX7 9 (TX7 0).1 (TX7 0).2.1 (TX7 0).2.2.1 ∈ G := inG (inT1 (k := 133) rfl) rfl
theorem wf_X7_15 : Cond.fieldLink RX7 15 (TX7 1).1 (TX7 1).2.1 (TX7 1).2.2.1 ∈ G := inG (inT1 (k := 134) rfl) rfl
theorem wf_X8_97 : Cond.fieldLink RX8 97 (TX7 1).1 (TX7 1).2.1 (TX7 1).2.2.1 ∈ G := inG (inT1 (k := 135) rfl) rfl
theorem wf_X2_31 : Cond.fieldLink RX2 31 (TX7 2).1 (TX7 2).2.1 (TX7 2).2.2.1 ∈ G := inG (inT1 (k := 136) rfl) rfl
theorem wf_X7_19 : Cond.fieldLink RX7 19 (TX7 2).1 (TX7 2).2.1 (TX7 2).2.2.1 ∈ G := inG (inT1 (k := 137) rfl) rfl
theorem wf_X7_22 : Cond.fieldLink RX7 22 (TX7 3).1 (TX7 3).2.1 (TX7 3).2.2.1 ∈ G := inG (inT1 (k := 138) rfl) rfl
theorem wf_X8_109 : Cond.fieldLink RX8 109 (TX7 3).1 (TX7 3).2.1 (TX7 3).2.2.1 ∈ G := inG (inT1 (k := 139) rfl) rfl
theorem wf_X2_73 : Cond.fieldLink RX2 73 (TX7 4).1 (TX7 4).2.1 (TX7 4).2.2.1 ∈ G := inG (inT1 (k := 140) rfl) rfl
theorem wf_X7_35 : Cond.fieldLink RX7 35 (TX7 4).1 (TX7 4).2.1 (TX7 4).2.2.1 ∈ G := inG (inT1 (k := 141) rfl) rfl
theorem wf_X7_25 : Cond.fieldLink RX7 25 (TX7 5).1 (TX7 5).2.1 (TX7 5).2.2.1 ∈ G := inG (inT1 (k := 142) rfl) rfl
theorem wc_X2_18 : Cond.classLink RX2 18 RX3 ∈ G := inG (inT1 (k := 157) rfl) rfl
theorem wf_X2_12 : Cond.fieldLink RX2 12 (TX2 0).1 (TX2 0).2.1 (TX2 0).2.2.1 ∈ G := inG (inT1 (k := 159) rfl) rfl
theorem wf_X8_93 : Cond.fieldLink RX8 93 (TX2 0).1 (TX2 0).2.1 (TX2 0).2.2.1 ∈ G := inG (inT1 (k := 160) rfl) rfl
theorem wf_X2_21 : Cond.fieldLink RX2 21 (TX2 1).1 (TX2 1).2.1 (TX2 1).2.2.1 ∈ G := inG (inT1 (k := 161) rfl) rfl
theorem wf_X8_112 : Cond.fieldLink RX8 112 (TX2 1).1 (TX2 1).2.1 (TX2 1).2.2.1 ∈ G := inG (inT1 (k := 162) rfl) rfl
theorem wf_X8_10 : Cond.fieldLink RX8 10 (TX8 0).1 (TX8 0).2.1 (TX8 0).2.2.1 ∈ G := inG (inT1 (k := 168) rfl) rfl
theorem wf_X8_16 : Cond.fieldLink RX8 16 (TX8 1).1 (TX8 1).2.1 (TX8 1).2.2.1 ∈ G := inG (inT1 (k := 169) rfl) rfl
theorem wf_X8_20 : Cond.fieldLink RX8 20 (TX8 2).1 (TX8 2).2.1 (TX8 2).2.2.1 ∈ G := inG (inT1 (k := 170) rfl) rfl
theorem wf_X8_27 : Cond.fieldLink RX8 27 (TX8 3).1 (TX8 3).2.1 (TX8 3).2.2.1 ∈ G := inG (inT1 (k := 171) rfl) rfl
theorem wf_X8_34 : Cond.fieldLink RX8 34 (TX8 4).1 (TX8 4).2.1 (TX8 4).2.2.1 ∈ G := inG (inT1 (k := 172) rfl) rfl
theorem wf_X8_38 : Cond.fieldLink RX8 38 (TX8 5).1 (TX8 5).2.1 (TX8 5).2.2.1 ∈ G := inG (inT1 (k := 173) rfl) rfl
theorem wf_X8_42 : Cond.fieldLink RX8 42 (TX8 6).1 (TX8 6).2.1 (TX8 6).2.2.1 ∈ G := inG (inT1 (k := 174) rfl) rfl
theorem wf_X8_46 : Cond.fieldLink RX8 46 (TX8 7).1 (TX8 7).2.1 (TX8 7).2.2.1 ∈ G := inG (inT1 (k := 175) rfl) rfl
theorem wl_L_13 : Cond.methodLink RL 13 yX8_suit ∈ G := inG (inT1 (k := 193) rfl) rfl
theorem wl_X8_49 : Cond.methodLink RX8 49 yX8_isKind ∈ G := inG (inT1 (k := 197) rfl) rfl
theorem wl_X8_71 : Cond.methodLink RX8 71 yX8_within ∈ G := inG (inT1 (k := 200) rfl) rfl
theorem wl_X8_53 : Cond.methodLink RX8 53 yX8_refuseAsBad ∈ G := inG (inT1 (k := 203) rfl) rfl
theorem wl_X8_64 : Cond.methodLink RX8 64 yX1_begin ∈ G := inG (inT1 (k := 207) rfl) rfl
theorem wl_X1_32 : Cond.methodLink RX1 32 yX3_begin ∈ G := inG (inT1 (k := 211) rfl) rfl
theorem wl_L_18 : Cond.methodLink RL 18 yX8_bows ∈ G := inG (inT1 (k := 215) rfl) rfl
theorem wl_X8_68 : Cond.methodLink RX8 68 yX8_isCounsel ∈ G := inG (inT1 (k := 219) rfl) rfl
theorem wl_X8_78 : Cond.methodLink RX8 78 yX1_dropPast ∈ G := inG (inT1 (k := 222) rfl) rfl
theorem wl_L_22 : Cond.methodLink RL 22 yX8_point ∈ G := inG (inT1 (k := 226) rfl) rfl
theorem wl_X8_81 : Cond.methodLink RX8 81 yX3_hasRoom ∈ G := inG (inT1 (k := 230) rfl) rfl
theorem wl_X8_85 : Cond.methodLink RX8 85 yX8_refuseAsFull ∈ G := inG (inT1 (k := 234) rfl) rfl
theorem wl_X8_89 : Cond.methodLink RX8 89 yX3_add ∈ G := inG (inT1 (k := 238) rfl) rfl
theorem wl_L_27 : Cond.methodLink RL 27 yX8_type ∈ G := inG (inT2 (k := 3) rfl) rfl
theorem wl_X8_102 : Cond.methodLink RX8 102 yX7_append ∈ G := inG (inT2 (k := 7) rfl) rfl
theorem wl_L_32 : Cond.methodLink RL 32 yX8_clear ∈ G := inG (inT2 (k := 11) rfl) rfl
theorem wl_L_37 : Cond.methodLink RL 37 yX8_read ∈ G := inG (inT2 (k := 15) rfl) rfl
theorem wl_X8_106 : Cond.methodLink RX8 106 yX2_readAll ∈ G := inG (inT2 (k := 19) rfl) rfl
theorem wl_X2_25 : Cond.methodLink RX2 25 yX7_rewind ∈ G := inG (inT2 (k := 23) rfl) rfl
theorem wl_X2_28 : Cond.methodLink RX2 28 yX7_next ∈ G := inG (inT2 (k := 27) rfl) rfl
theorem wl_X7_28 : Cond.methodLink RX7 28 yX7_kindAt ∈ G := inG (inT2 (k := 31) rfl) rfl
theorem wl_X7_38 : Cond.methodLink RX7 38 yX7_byteAt ∈ G := inG (inT2 (k := 35) rfl) rfl
theorem wl_X7_32 : Cond.methodLink RX7 32 yX7_takeNumber ∈ G := inG (inT2 (k := 39) rfl) rfl
theorem wl_X2_35 : Cond.methodLink RX2 35 yX2_readItem ∈ G := inG (inT2 (k := 43) rfl) rfl
theorem wl_X2_41 : Cond.methodLink RX2 41 yX7_tokenIs ∈ G := inG (inT2 (k := 48) rfl) rfl
theorem wl_X7_41 : Cond.methodLink RX7 41 yJ0_length_8abf5 ∈ G := inG (inT2 (k := 52) rfl) rfl
theorem wl_J0_335 : Cond.methodLink RJ0 335 yJ0_coder_7d493 ∈ G := inG (inT2 (k := 56) rfl) rfl
theorem wf_J0_38 : Cond.fieldLink RJ0 38 "java/lang/String" "COMPACT_STRINGS" "Z" ∈ G := inG (inT2 (k := 60) rfl) rfl
theorem wl_X7_46 : Cond.methodLink RX7 46 yJ0_charAt_5068e ∈ G := inG (inT2 (k := 62) rfl) rfl
theorem wl_J0_492 : Cond.methodLink RJ0 492 yJ0_isLatin1_aae02 ∈ G := inG (inT2 (k := 66) rfl) rfl
theorem wl_J0_495 : Cond.methodLink RJ0 495 yJ1_charAt_3b067 ∈ G := inG (inT2 (k := 70) rfl) rfl
theorem wl_J1_9 : Cond.methodLink RJ1 9 yJ0_checkIndex_df160 ∈ G := inG (inT2 (k := 73) rfl) rfl
theorem wf_J0_1053 : Cond.fieldLink RJ0 1053 "jdk/internal/util/Preconditions" "SIOOBE_FORMATTER" "Ljava/util/function/BiFunction;" ∈ G := inG (inT2 (k := 76) rfl) rfl
theorem wl_J0_1059 : Cond.methodLink RJ0 1059 yJ3_checkIndex_8e157 ∈ G := inG (inT2 (k := 78) rfl) rfl
theorem wl_J0_498 : Cond.methodLink RJ0 498 yJ2_charAt_3b067 ∈ G := inG (inT2 (k := 81) rfl) rfl
theorem wl_J2_67 : Cond.methodLink RJ2 67 yJ2_checkIndex_2214a ∈ G := inG (inT2 (k := 84) rfl) rfl
theorem wl_J2_48 : Cond.methodLink RJ2 48 yJ2_length_9d52b ∈ G := inG (inT2 (k := 87) rfl) rfl
theorem wl_J2_414 : Cond.methodLink RJ2 414 yJ0_checkIndex_df160 ∈ G := inG (inT2 (k := 90) rfl) rfl
theorem wl_J2_71 : Cond.methodLink RJ2 71 yJ2_getChar_3b067 ∈ G := inG (inT2 (k := 91) rfl) rfl
theorem wf_J2_44 : Cond.fieldLink RJ2 44 "java/lang/StringUTF16" "$assertionsDisabled" "Z" ∈ G := inG (inT2 (k := 94) rfl) rfl
theorem wf_J2_59 : Cond.fieldLink RJ2 59 "java/lang/StringUTF16" "HI_BYTE_SHIFT" "I" ∈ G := inG (inT2 (k := 96) rfl) rfl
theorem wf_J2_63 : Cond.fieldLink RJ2 63 "java/lang/StringUTF16" "LO_BYTE_SHIFT" "I" ∈ G := inG (inT2 (k := 98) rfl) rfl
theorem wl_X2_45 : Cond.methodLink RX2 45 yX2_readCase ∈ G := inG (inT2 (k := 100) rfl) rfl
theorem wl_X2_69 : Cond.methodLink RX2 69 yX2_numberWithin ∈ G := inG (inT2 (k := 104) rfl) rfl
theorem wl_X2_76 : Cond.methodLink RX2 76 yX3_begin ∈ G := inG (inT2 (k := 109) rfl) rfl
theorem wl_X2_80 : Cond.methodLink RX2 80 yX2_semicolon ∈ G := inG (inT2 (k := 110) rfl) rfl
theorem wl_X2_51 : Cond.methodLink RX2 51 yX2_readBows ∈ G := inG (inT2 (k := 115) rfl) rfl
theorem wl_X2_56 : Cond.methodLink RX2 56 yX2_readPoint ∈ G := inG (inT2 (k := 121) rfl) rfl
theorem wl_X2_91 : Cond.methodLink RX2 91 yX3_hasRoom ∈ G := inG (inT2 (k := 125) rfl) rfl
theorem wl_X2_94 : Cond.methodLink RX2 94 yX3_add ∈ G := inG (inT2 (k := 126) rfl) rfl
theorem wl_X2_61 : Cond.methodLink RX2 61 yX2_readSaying ∈ G := inG (inT2 (k := 128) rfl) rfl
theorem wl_X2_107 : Cond.methodLink RX2 107 yX3_speak ∈ G := inG (inT2 (k := 135) rfl) rfl
theorem wl_X3_63 : Cond.methodLink RX3 63 yX3_hasPoint ∈ G := inG (inT2 (k := 139) rfl) rfl
theorem wl_X3_83 : Cond.methodLink RX3 83 yX3_counting ∈ G := inG (inT2 (k := 143) rfl) rfl
theorem wl_X3_67 : Cond.methodLink RX3 67 yX3_speaker ∈ G := inG (inT2 (k := 147) rfl) rfl
theorem wl_X3_47 : Cond.methodLink RX3 47 yJ6_bitCount_0f7a4 ∈ G := inG (inT2 (k := 151) rfl) rfl
theorem wk_J6_265 : Cond.constant RJ6 265 (1431655765) ∈ G := inG (inT2 (k := 154) rfl) rfl
theorem wk_J6_266 : Cond.constant RJ6 266 (858993459) ∈ G := inG (inT2 (k := 155) rfl) rfl
theorem wk_J6_267 : Cond.constant RJ6 267 (252645135) ∈ G := inG (inT2 (k := 156) rfl) rfl
theorem wl_X3_53 : Cond.methodLink RX3 53 yX3_chairOf ∈ G := inG (inT2 (k := 157) rfl) rfl
theorem wl_X3_56 : Cond.methodLink RX3 56 yX3_meritOfChair ∈ G := inG (inT2 (k := 161) rfl) rfl
theorem wl_X3_70 : Cond.methodLink RX3 70 yX3_turn ∈ G := inG (inT2 (k := 165) rfl) rfl
theorem wl_X3_73 : Cond.methodLink RX3 73 yX5_moved ∈ G := inG (inT2 (k := 169) rfl) rfl
theorem wl_X5_9 : Cond.methodLink RX5 9 yX5_hearsay ∈ G := inG (inT2 (k := 172) rfl) rfl
theorem wl_X5_15 : Cond.methodLink RX5 15 yX5_evidence ∈ G := inG (inT2 (k := 175) rfl) rfl
theorem wl_X3_79 : Cond.methodLink RX3 79 yX5_counted ∈ G := inG (inT2 (k := 178) rfl) rfl
theorem wl_X5_19 : Cond.methodLink RX5 19 yX5_fierce ∈ G := inG (inT2 (k := 181) rfl) rfl
theorem wl_X5_22 : Cond.methodLink RX5 22 yX5_mild ∈ G := inG (inT2 (k := 184) rfl) rfl
theorem wl_X3_86 : Cond.methodLink RX3 86 Lib.Math.min.name ∈ G := inG (inT2 (k := 187) rfl) rfl
theorem wl_X3_92 : Cond.methodLink RX3 92 Lib.Math.max.name ∈ G := inG (inT2 (k := 190) rfl) rfl
theorem wl_X2_66 : Cond.methodLink RX2 66 yX2_readObjecting ∈ G := inG (inT2 (k := 194) rfl) rfl
theorem wl_X2_111 : Cond.methodLink RX2 111 yX3_mayObject ∈ G := inG (inT2 (k := 198) rfl) rfl
theorem wl_X2_114 : Cond.methodLink RX2 114 yX3_bow ∈ G := inG (inT2 (k := 202) rfl) rfl
theorem wl_X3_95 : Cond.methodLink RX3 95 yX3_mayObject ∈ G := inG (inT2 (k := 206) rfl) rfl
theorem wl_X8_113 : Cond.methodLink RX8 113 yX3_copy ∈ G := inG (inT2 (k := 207) rfl) rfl
theorem wl_L_41 : Cond.methodLink RL 41 yX8_says ∈ G := inG (inT2 (k := 212) rfl) rfl
theorem wl_X8_117 : Cond.methodLink RX8 117 yX3_hasPoint ∈ G := inG (inT2 (k := 216) rfl) rfl
theorem wl_X8_123 : Cond.methodLink RX8 123 yX8_has ∈ G := inG (inT2 (k := 217) rfl) rfl
theorem wl_X8_127 : Cond.methodLink RX8 127 yX8_refuseAsNo ∈ G := inG (inT2 (k := 218) rfl) rfl
theorem wl_X8_130 : Cond.methodLink RX8 130 yX1_remember ∈ G := inG (inT2 (k := 222) rfl) rfl
theorem wl_X1_53 : Cond.methodLink RX1 53 arraycopyName ∈ G := inG (inT2 (k := 226) rfl) rfl
theorem wl_X1_59 : Cond.methodLink RX1 59 yX3_keep ∈ G := inG (inT2 (k := 229) rfl) rfl
theorem wl_X8_133 : Cond.methodLink RX8 133 yX3_speak ∈ G := inG (inT2 (k := 233) rfl) rfl
theorem wl_L_45 : Cond.methodLink RL 45 yX8_objects ∈ G := inG (inT2 (k := 234) rfl) rfl
theorem wl_X8_139 : Cond.methodLink RX8 139 yX3_mayObject ∈ G := inG (inT2 (k := 238) rfl) rfl
theorem wl_X8_142 : Cond.methodLink RX8 142 yX3_bow ∈ G := inG (inT2 (k := 239) rfl) rfl
theorem wl_L_49 : Cond.methodLink RL 49 yX8_undo ∈ G := inG (inT3 (k := 0) rfl) rfl
theorem wl_X8_151 : Cond.methodLink RX8 151 yX1_goBack ∈ G := inG (inT3 (k := 4) rfl) rfl
theorem wl_X1_63 : Cond.methodLink RX1 63 yX3_back ∈ G := inG (inT3 (k := 8) rfl) rfl
theorem wk_X3_99 : Cond.constantLong RX3 99 (7) ∈ G := inG (inT3 (k := 12) rfl) rfl
theorem wk_X3_101 : Cond.constantLong RX3 101 (255) ∈ G := inG (inT3 (k := 13) rfl) rfl
theorem wk_X3_103 : Cond.constantLong RX3 103 (3) ∈ G := inG (inT3 (k := 14) rfl) rfl
theorem wl_X8_154 : Cond.methodLink RX8 154 yX3_turn ∈ G := inG (inT3 (k := 15) rfl) rfl
theorem wl_L_53 : Cond.methodLink RL 53 yX8_now ∈ G := inG (inT3 (k := 16) rfl) rfl
theorem wl_X8_157 : Cond.methodLink RX8 157 yX3_speaker ∈ G := inG (inT3 (k := 20) rfl) rfl
theorem wl_X8_160 : Cond.methodLink RX8 160 yX3_unsaid ∈ G := inG (inT3 (k := 21) rfl) rfl
theorem wl_X8_163 : Cond.methodLink RX8 163 yX3_winner ∈ G := inG (inT3 (k := 25) rfl) rfl
theorem wl_L_57 : Cond.methodLink RL 57 yX8_of ∈ G := inG (inT3 (k := 29) rfl) rfl
theorem wl_L_61 : Cond.methodLink RL 61 yX8_about ∈ G := inG (inT3 (k := 33) rfl) rfl
theorem wl_X8_178 : Cond.methodLink RX8 178 yX3_chairOf ∈ G := inG (inT3 (k := 37) rfl) rfl
theorem wl_L_65 : Cond.methodLink RL 65 yX8_moves ∈ G := inG (inT3 (k := 38) rfl) rfl
theorem wl_X8_181 : Cond.methodLink RX8 181 yX3_counting ∈ G := inG (inT3 (k := 42) rfl) rfl
theorem wl_L_69 : Cond.methodLink RL 69 yX8_play ∈ G := inG (inT3 (k := 43) rfl) rfl
theorem wl_X0_21 : Cond.methodLink RX0 21 yX0_worthUnbowed ∈ G := inG (inT3 (k := 50) rfl) rfl
theorem wl_X0_36 : Cond.methodLink RX0 36 yX3_unsaid ∈ G := inG (inT3 (k := 53) rfl) rfl
theorem wl_X0_59 : Cond.methodLink RX0 59 yX3_worthForCounselZero ∈ G := inG (inT3 (k := 54) rfl) rfl
theorem wl_X0_15 : Cond.methodLink RX0 15 yX3_speaker ∈ G := inG (inT3 (k := 58) rfl) rfl
theorem wl_X0_25 : Cond.methodLink RX0 25 yX3_keep ∈ G := inG (inT3 (k := 59) rfl) rfl
theorem wl_X0_43 : Cond.methodLink RX0 43 yX3_speak ∈ G := inG (inT3 (k := 61) rfl) rfl
theorem wl_X0_47 : Cond.methodLink RX0 47 yX0_worth ∈ G := inG (inT3 (k := 62) rfl) rfl
theorem wl_X0_32 : Cond.methodLink RX0 32 yX3_back ∈ G := inG (inT3 (k := 63) rfl) rfl
theorem wl_X0_50 : Cond.methodLink RX0 50 Lib.Math.max.name ∈ G := inG (inT3 (k := 64) rfl) rfl
theorem wl_X0_56 : Cond.methodLink RX0 56 Lib.Math.min.name ∈ G := inG (inT3 (k := 65) rfl) rfl
theorem wl_X0_9 : Cond.methodLink RX0 9 yX3_mayObject ∈ G := inG (inT3 (k := 66) rfl) rfl
theorem wl_X0_29 : Cond.methodLink RX0 29 yX3_bow ∈ G := inG (inT3 (k := 67) rfl) rfl
theorem wl_X8_190 : Cond.methodLink RX8 190 yX0_whetherToBow ∈ G := inG (inT3 (k := 68) rfl) rfl
theorem wl_X8_194 : Cond.methodLink RX8 194 yX0_whatToSay ∈ G := inG (inT3 (k := 71) rfl) rfl
theorem wl_L_73 : Cond.methodLink RL 73 yX8_proof ∈ G := inG (inT3 (k := 74) rfl) rfl
theorem wl_X8_197 : Cond.methodLink RX8 197 yX8_isChair ∈ G := inG (inT3 (k := 78) rfl) rfl
theorem wl_X8_200 : Cond.methodLink RX8 200 yX4_proofFor ∈ G := inG (inT3 (k := 81) rfl) rfl
theorem wl_X4_9 : Cond.methodLink RX4 9 yX3_keep ∈ G := inG (inT3 (k := 84) rfl) rfl
theorem wl_X4_15 : Cond.methodLink RX4 15 yX3_unsaid ∈ G := inG (inT3 (k := 85) rfl) rfl
theorem wl_X4_19 : Cond.methodLink RX4 19 yJ6_bitCount_0f7a4 ∈ G := inG (inT3 (k := 86) rfl) rfl
theorem wl_X4_25 : Cond.methodLink RX4 25 yX3_back ∈ G := inG (inT3 (k := 87) rfl) rfl
theorem wl_X4_29 : Cond.methodLink RX4 29 yX4_speakAll ∈ G := inG (inT3 (k := 88) rfl) rfl
theorem wl_X4_43 : Cond.methodLink RX4 43 yX3_speak ∈ G := inG (inT3 (k := 92) rfl) rfl
theorem wl_L_77 : Cond.methodLink RL 77 yX8_ends ∈ G := inG (inT3 (k := 93) rfl) rfl
theorem wl_L_81 : Cond.methodLink RL 81 yX8_bowed ∈ G := inG (inT3 (k := 97) rfl) rfl
theorem wl_X8_212 : Cond.methodLink RX8 212 yX4_bowsTo ∈ G := inG (inT3 (k := 101) rfl) rfl
theorem wl_X4_47 : Cond.methodLink RX4 47 yX3_mayObject ∈ G := inG (inT3 (k := 104) rfl) rfl
theorem wl_X4_51 : Cond.methodLink RX4 51 yX3_bow ∈ G := inG (inT3 (k := 105) rfl) rfl
theorem wl_X8_216 : Cond.methodLink RX8 216 yX1_allEndsAre ∈ G := inG (inT3 (k := 106) rfl) rfl
theorem wl_L_85 : Cond.methodLink RL 85 yX8_note ∈ G := inG (inT3 (k := 110) rfl) rfl
theorem wl_X8_222 : Cond.methodLink RX8 222 yX1_addNote ∈ G := inG (inT3 (k := 114) rfl) rfl
theorem wl_L_90 : Cond.methodLink RL 90 yX8_mark ∈ G := inG (inT3 (k := 118) rfl) rfl
theorem wl_X8_229 : Cond.methodLink RX8 229 yX1_addMark ∈ G := inG (inT3 (k := 122) rfl) rfl
theorem wl_L_95 : Cond.methodLink RL 95 yX8_forget ∈ G := inG (inT3 (k := 126) rfl) rfl
theorem wl_L_99 : Cond.methodLink RL 99 yX8_is ∈ G := inG (inT3 (k := 130) rfl) rfl
theorem wl_X8_233 : Cond.methodLink RX8 233 yX1_pointKindsThatFit ∈ G := inG (inT3 (k := 134) rfl) rfl
theorem wl_X1_67 : Cond.methodLink RX1 67 yX1_notesFit ∈ G := inG (inT3 (k := 138) rfl) rfl
theorem wl_X1_71 : Cond.methodLink RX1 71 yX5_moved ∈ G := inG (inT3 (k := 142) rfl) rfl
theorem wl_L_103 : Cond.methodLink RL 103 yX8_look ∈ G := inG (inT3 (k := 143) rfl) rfl
theorem wl_X8_236 : Cond.methodLink RX8 236 yX5_bestLook ∈ G := inG (inT3 (k := 147) rfl) rfl
theorem wl_X5_25 : Cond.methodLink RX5 25 yX5_mostMovingAlike ∈ G := inG (inT3 (k := 150) rfl) rfl
theorem wl_X5_33 : Cond.methodLink RX5 33 yX5_moved ∈ G := inG (inT3 (k := 154) rfl) rfl
theorem wl_X5_36 : Cond.methodLink RX5 36 Lib.Math.max.name ∈ G := inG (inT3 (k := 155) rfl) rfl
theorem wl_L_107 : Cond.methodLink RL 107 yX8_kinds ∈ G := inG (inT3 (k := 156) rfl) rfl
theorem wl_X8_242 : Cond.methodLink RX8 242 yX1_counselKindsThatFit ∈ G := inG (inT3 (k := 160) rfl) rfl
theorem wl_X1_77 : Cond.methodLink RX1 77 yX1_marksFit ∈ G := inG (inT3 (k := 164) rfl) rfl
theorem wl_X1_80 : Cond.methodLink RX1 80 yX5_counted ∈ G := inG (inT3 (k := 168) rfl) rfl
theorem wl_L_111 : Cond.methodLink RL 111 yX8_ask ∈ G := inG (inT3 (k := 169) rfl) rfl
theorem wl_X8_245 : Cond.methodLink RX8 245 yX5_bestQuestion ∈ G := inG (inT3 (k := 173) rfl) rfl
theorem wl_X5_41 : Cond.methodLink RX5 41 yX5_mostCountingAlike ∈ G := inG (inT3 (k := 176) rfl) rfl
theorem wl_X5_45 : Cond.methodLink RX5 45 yX5_counted ∈ G := inG (inT3 (k := 179) rfl) rfl
theorem wl_L_115 : Cond.methodLink RL 115 yX8_settle ∈ G := inG (inT3 (k := 180) rfl) rfl
theorem wl_X8_248 : Cond.methodLink RX8 248 yX6_rests ∈ G := inG (inT3 (k := 184) rfl) rfl
theorem wl_X6_9 : Cond.methodLink RX6 9 yX6_gain ∈ G := inG (inT3 (k := 187) rfl) rfl
theorem wl_L_119 : Cond.methodLink RL 119 yX8_hearings ∈ G := inG (inT3 (k := 190) rfl) rfl
theorem wl_X8_253 : Cond.methodLink RX8 253 yX4_weightOf ∈ G := inG (inT3 (k := 194) rfl) rfl
theorem wk_X4_54 : Cond.constantLong RX4 54 (10) ∈ G := inG (inT3 (k := 197) rfl) rfl
theorem wl_X8_257 : Cond.methodLink RX8 257 yX3_counselZeroWins ∈ G := inG (inT3 (k := 198) rfl) rfl
theorem wl_X3_59 : Cond.methodLink RX3 59 yX3_winner ∈ G := inG (inT3 (k := 202) rfl) rfl
theorem wl_X8_260 : Cond.methodLink RX8 260 yJ6_bitCount_0f7a4 ∈ G := inG (inT3 (k := 203) rfl) rfl
theorem wk_X8_265 : Cond.constantLong RX8 265 (10) ∈ G := inG (inT3 (k := 204) rfl) rfl
theorem wl_X8_267 : Cond.methodLink RX8 267 yX8_keepFraction ∈ G := inG (inT3 (k := 205) rfl) rfl
theorem wl_L_123 : Cond.methodLink RL 123 yX8_days ∈ G := inG (inT3 (k := 209) rfl) rfl
theorem wk_X8_271 : Cond.constant RX8 271 (999999) ∈ G := inG (inT3 (k := 213) rfl) rfl
theorem wl_X8_272 : Cond.methodLink RX8 272 yX4_dayBy ∈ G := inG (inT3 (k := 214) rfl) rfl
theorem wk_X4_56 : Cond.constantLong RX4 56 (1103515245) ∈ G := inG (inT3 (k := 217) rfl) rfl
theorem wk_X4_58 : Cond.constantLong RX4 58 (12345) ∈ G := inG (inT3 (k := 218) rfl) rfl
theorem wk_X4_60 : Cond.constantLong RX4 60 (2147483648) ∈ G := inG (inT3 (k := 219) rfl) rfl
theorem wk_X4_62 : Cond.constantLong RX4 62 (65536) ∈ G := inG (inT3 (k := 220) rfl) rfl
theorem wk_X4_64 : Cond.constantLong RX4 64 (2) ∈ G := inG (inT3 (k := 221) rfl) rfl
theorem wl_L_127 : Cond.methodLink RL 127 yX8_part ∈ G := inG (inT3 (k := 222) rfl) rfl
theorem wl_L_132 : Cond.methodLink RL 132 yX8_image ∈ G := inG (inT3 (k := 226) rfl) rfl
theorem wl_X8_276 : Cond.methodLink RX8 276 yX1_copyAll ∈ G := inG (inT3 (k := 230) rfl) rfl
theorem wl_X1_49 : Cond.methodLink RX1 49 yX3_copy ∈ G := inG (inT3 (k := 234) rfl) rfl
theorem wl_L_136 : Cond.methodLink RL 136 yX8_from ∈ G := inG (inT3 (k := 235) rfl) rfl
theorem wl_L_140 : Cond.methodLink RL 140 yX8_status ∈ G := inG (inT3 (k := 239) rfl) rfl
theorem wl_L_144 : Cond.methodLink RL 144 yX8_count ∈ G := inG (inT4 (k := 3) rfl) rfl
theorem wl_X8_280 : Cond.methodLink RX8 280 yX3_allGroundsLeft ∈ G := inG (inT4 (k := 7) rfl) rfl
theorem wl_L_148 : Cond.methodLink RL 148 yX8_digest ∈ G := inG (inT4 (k := 11) rfl) rfl
theorem wk_X8_283 : Cond.constantLong RX8 283 (1597) ∈ G := inG (inT4 (k := 15) rfl) rfl
theorem wk_X8_285 : Cond.constantLong RX8 285 (31) ∈ G := inG (inT4 (k := 16) rfl) rfl
theorem wl_X8_287 : Cond.methodLink RX8 287 yX8_count ∈ G := inG (inT4 (k := 17) rfl) rfl
theorem wl_X8_290 : Cond.methodLink RX8 290 yX8_now ∈ G := inG (inT4 (k := 18) rfl) rfl
theorem wl_X8_293 : Cond.methodLink RX8 293 yX3_digestOn ∈ G := inG (inT4 (k := 19) rfl) rfl
theorem wk_X3_105 : Cond.constantLong RX3 105 (31) ∈ G := inG (inT4 (k := 23) rfl) rfl
theorem wl_X8_297 : Cond.methodLink RX8 297 yX1_digestOn ∈ G := inG (inT4 (k := 25) rfl) rfl
theorem wk_X1_84 : Cond.constantLong RX1 84 (31) ∈ G := inG (inT4 (k := 29) rfl) rfl
theorem wc_L_10 : Cond.classLink RL 10 RX9 ∈ G := inG (inT4 (k := 30) rfl) rfl
theorem wl_L_12 : Cond.methodLink RL 12 yX9_init ∈ G := inG (inT4 (k := 32) rfl) rfl
theorem wl_X9_1 : Cond.methodLink RX9 1 objectInit ∈ G := inG (inT4 (k := 35) rfl) rfl
theorem wl_X9_66 : Cond.methodLink RX9 66 yX9_begin ∈ G := inG (inT4 (k := 36) rfl) rfl
theorem wf_X9_7 : Cond.fieldLink RX9 7 (TX9 0).1 (TX9 0).2.1 (TX9 0).2.2.1 ∈ G := inG (inT4 (k := 39) rfl) rfl
theorem wf_X9_13 : Cond.fieldLink RX9 13 (TX9 1).1 (TX9 1).2.1 (TX9 1).2.2.1 ∈ G := inG (inT4 (k := 40) rfl) rfl
theorem wf_X9_16 : Cond.fieldLink RX9 16 (TX9 2).1 (TX9 2).2.1 (TX9 2).2.2.1 ∈ G := inG (inT4 (k := 41) rfl) rfl
theorem wf_X9_20 : Cond.fieldLink RX9 20 (TX9 3).1 (TX9 3).2.1 (TX9 3).2.2.1 ∈ G := inG (inT4 (k := 42) rfl) rfl
theorem wf_X9_241 : Cond.fieldLink RX9 241 (TX9 4).1 (TX9 4).2.1 (TX9 4).2.2.1 ∈ G := inG (inT4 (k := 43) rfl) rfl
theorem wf_X9_23 : Cond.fieldLink RX9 23 (TX9 5).1 (TX9 5).2.1 (TX9 5).2.2.1 ∈ G := inG (inT4 (k := 44) rfl) rfl
theorem wf_X9_27 : Cond.fieldLink RX9 27 (TX9 6).1 (TX9 6).2.1 (TX9 6).2.2.1 ∈ G := inG (inT4 (k := 45) rfl) rfl
theorem wf_X9_30 : Cond.fieldLink RX9 30 (TX9 7).1 (TX9 7).2.1 (TX9 7).2.2.1 ∈ G := inG (inT4 (k := 46) rfl) rfl
theorem wf_X9_33 : Cond.fieldLink RX9 33 (TX9 8).1 (TX9 8).2.1 (TX9 8).2.2.1 ∈ G := inG (inT4 (k := 47) rfl) rfl
theorem wf_X9_36 : Cond.fieldLink RX9 36 (TX9 9).1 (TX9 9).2.1 (TX9 9).2.2.1 ∈ G := inG (inT4 (k := 48) rfl) rfl
theorem wf_X9_39 : Cond.fieldLink RX9 39 (TX9 10).1 (TX9 10).2.1 (TX9 10).2.2.1 ∈ G := inG (inT4 (k := 49) rfl) rfl
theorem wf_X9_42 : Cond.fieldLink RX9 42 (TX9 11).1 (TX9 11).2.1 (TX9 11).2.2.1 ∈ G := inG (inT4 (k := 50) rfl) rfl
theorem wf_X9_45 : Cond.fieldLink RX9 45 (TX9 12).1 (TX9 12).2.1 (TX9 12).2.2.1 ∈ G := inG (inT4 (k := 51) rfl) rfl
theorem wf_X9_48 : Cond.fieldLink RX9 48 (TX9 13).1 (TX9 13).2.1 (TX9 13).2.2.1 ∈ G := inG (inT4 (k := 52) rfl) rfl
theorem wf_X9_161 : Cond.fieldLink RX9 161 (TX9 14).1 (TX9 14).2.1 (TX9 14).2.2.1 ∈ G := inG (inT4 (k := 53) rfl) rfl
theorem wf_X9_188 : Cond.fieldLink RX9 188 (TX9 15).1 (TX9 15).2.1 (TX9 15).2.2.1 ∈ G := inG (inT4 (k := 54) rfl) rfl
theorem wf_X9_191 : Cond.fieldLink RX9 191 (TX9 16).1 (TX9 16).2.1 (TX9 16).2.2.1 ∈ G := inG (inT4 (k := 55) rfl) rfl
theorem wf_X9_194 : Cond.fieldLink RX9 194 (TX9 17).1 (TX9 17).2.1 (TX9 17).2.2.1 ∈ G := inG (inT4 (k := 56) rfl) rfl
theorem wf_X9_51 : Cond.fieldLink RX9 51 (TX9 18).1 (TX9 18).2.1 (TX9 18).2.2.1 ∈ G := inG (inT4 (k := 57) rfl) rfl
theorem wf_X9_54 : Cond.fieldLink RX9 54 (TX9 19).1 (TX9 19).2.1 (TX9 19).2.2.1 ∈ G := inG (inT4 (k := 58) rfl) rfl
theorem wf_X9_57 : Cond.fieldLink RX9 57 (TX9 20).1 (TX9 20).2.1 (TX9 20).2.2.1 ∈ G := inG (inT4 (k := 59) rfl) rfl
theorem wf_X9_267 : Cond.fieldLink RX9 267 (TX9 21).1 (TX9 21).2.1 (TX9 21).2.2.1 ∈ G := inG (inT4 (k := 60) rfl) rfl
theorem wf_X9_278 : Cond.fieldLink RX9 278 (TX9 22).1 (TX9 22).2.1 (TX9 22).2.2.1 ∈ G := inG (inT4 (k := 61) rfl) rfl
theorem wf_X9_281 : Cond.fieldLink RX9 281 (TX9 23).1 (TX9 23).2.1 (TX9 23).2.2.1 ∈ G := inG (inT4 (k := 62) rfl) rfl
theorem wf_X9_284 : Cond.fieldLink RX9 284 (TX9 24).1 (TX9 24).2.1 (TX9 24).2.2.1 ∈ G := inG (inT4 (k := 63) rfl) rfl
theorem wf_X9_287 : Cond.fieldLink RX9 287 (TX9 25).1 (TX9 25).2.1 (TX9 25).2.2.1 ∈ G := inG (inT4 (k := 64) rfl) rfl
theorem wf_X9_60 : Cond.fieldLink RX9 60 (TX9 26).1 (TX9 26).2.1 (TX9 26).2.2.1 ∈ G := inG (inT4 (k := 65) rfl) rfl
theorem wf_X9_63 : Cond.fieldLink RX9 63 (TX9 27).1 (TX9 27).2.1 (TX9 27).2.2.1 ∈ G := inG (inT4 (k := 66) rfl) rfl
theorem wl_L_17 : Cond.methodLink RL 17 yX9_suit ∈ G := inG (inT4 (k := 124) rfl) rfl
theorem wl_X9_80 : Cond.methodLink RX9 80 yX9_isKind ∈ G := inG (inT4 (k := 128) rfl) rfl
theorem wk_X9_78 : Cond.constantLong RX9 78 (5) ∈ G := inG (inT4 (k := 131) rfl) rfl
theorem wl_X9_74 : Cond.methodLink RX9 74 yX9_in ∈ G := inG (inT4 (k := 132) rfl) rfl
theorem wl_X9_84 : Cond.methodLink RX9 84 yX9_bad ∈ G := inG (inT4 (k := 135) rfl) rfl
theorem wl_X9_70 : Cond.methodLink RX9 70 yX9_many ∈ G := inG (inT4 (k := 139) rfl) rfl
theorem wl_L_21 : Cond.methodLink RL 21 yX9_bows ∈ G := inG (inT4 (k := 143) rfl) rfl
theorem wl_X9_88 : Cond.methodLink RX9 88 yX9_isCounsel ∈ G := inG (inT4 (k := 147) rfl) rfl
theorem wk_X9_91 : Cond.constantLong RX9 91 (3) ∈ G := inG (inT4 (k := 150) rfl) rfl
theorem wl_L_26 : Cond.methodLink RL 26 yX9_point ∈ G := inG (inT4 (k := 151) rfl) rfl
theorem wk_X9_93 : Cond.constantLong RX9 93 (9) ∈ G := inG (inT4 (k := 155) rfl) rfl
theorem wl_X9_95 : Cond.methodLink RX9 95 yX9_full ∈ G := inG (inT4 (k := 156) rfl) rfl
theorem wl_X9_98 : Cond.methodLink RX9 98 yX9_layPoint ∈ G := inG (inT4 (k := 160) rfl) rfl
theorem wl_L_44 : Cond.methodLink RL 44 yX9_says ∈ G := inG (inT4 (k := 163) rfl) rfl
theorem wl_X9_117 : Cond.methodLink RX9 117 yX9_isPoint ∈ G := inG (inT4 (k := 167) rfl) rfl
theorem wl_X9_120 : Cond.methodLink RX9 120 yX9_has ∈ G := inG (inT4 (k := 171) rfl) rfl
theorem wl_X9_124 : Cond.methodLink RX9 124 yX9_no ∈ G := inG (inT4 (k := 174) rfl) rfl
theorem wl_X9_127 : Cond.methodLink RX9 127 yX9_save ∈ G := inG (inT4 (k := 178) rfl) rfl
theorem wl_X9_130 : Cond.methodLink RX9 130 yX9_meritBy ∈ G := inG (inT4 (k := 182) rfl) rfl
theorem wl_X9_114 : Cond.methodLink RX9 114 yX9_countsBy ∈ G := inG (inT4 (k := 186) rfl) rfl
theorem wl_X9_102 : Cond.methodLink RX9 102 yX9_chairOf ∈ G := inG (inT4 (k := 190) rfl) rfl
theorem wl_X9_106 : Cond.methodLink RX9 106 yX9_movesAs ∈ G := inG (inT4 (k := 193) rfl) rfl
theorem wl_X9_110 : Cond.methodLink RX9 110 yX9_countsAs ∈ G := inG (inT4 (k := 196) rfl) rfl
theorem wl_L_48 : Cond.methodLink RL 48 yX9_objects ∈ G := inG (inT4 (k := 199) rfl) rfl
theorem wl_X9_133 : Cond.methodLink RX9 133 yX9_may ∈ G := inG (inT4 (k := 203) rfl) rfl
theorem wl_L_52 : Cond.methodLink RL 52 yX9_undo ∈ G := inG (inT4 (k := 207) rfl) rfl
theorem wl_L_56 : Cond.methodLink RL 56 yX9_now ∈ G := inG (inT4 (k := 211) rfl) rfl
theorem wl_X9_140 : Cond.methodLink RX9 140 yX9_toldNow ∈ G := inG (inT4 (k := 215) rfl) rfl
theorem wl_X9_137 : Cond.methodLink RX9 137 yX9_open ∈ G := inG (inT4 (k := 219) rfl) rfl
theorem wl_L_60 : Cond.methodLink RL 60 yX9_of ∈ G := inG (inT4 (k := 223) rfl) rfl
theorem wl_L_64 : Cond.methodLink RL 64 yX9_about ∈ G := inG (inT4 (k := 227) rfl) rfl
theorem wk_X9_143 : Cond.constantLong RX9 143 (2) ∈ G := inG (inT4 (k := 231) rfl) rfl
theorem wl_L_68 : Cond.methodLink RL 68 yX9_moves ∈ G := inG (inT4 (k := 232) rfl) rfl
theorem wl_L_72 : Cond.methodLink RL 72 yX9_play ∈ G := inG (inT4 (k := 236) rfl) rfl
theorem wl_X9_182 : Cond.methodLink RX9 182 yX9_playIs ∈ G := inG (inT5 (k := 0) rfl) rfl
theorem wl_X9_178 : Cond.methodLink RX9 178 yX9_solveBy ∈ G := inG (inT5 (k := 4) rfl) rfl
theorem wl_X9_171 : Cond.methodLink RX9 171 yX9_layFirst ∈ G := inG (inT5 (k := 8) rfl) rfl
theorem wl_X9_147 : Cond.methodLink RX9 147 yX9_openLevel ∈ G := inG (inT5 (k := 12) rfl) rfl
theorem wl_X9_151 : Cond.methodLink RX9 151 yX9_worstOf ∈ G := inG (inT5 (k := 16) rfl) rfl
theorem wk_X9_145 : Cond.constant RX9 145 (-1000000) ∈ G := inG (inT5 (k := 19) rfl) rfl
theorem wk_X9_146 : Cond.constant RX9 146 (1000000) ∈ G := inG (inT5 (k := 20) rfl) rfl
theorem wl_X9_175 : Cond.methodLink RX9 175 yX9_solve ∈ G := inG (inT5 (k := 21) rfl) rfl
theorem wl_X9_165 : Cond.methodLink RX9 165 yX9_isEnd ∈ G := inG (inT5 (k := 25) rfl) rfl
theorem wl_X9_154 : Cond.methodLink RX9 154 yX9_mayAt ∈ G := inG (inT5 (k := 29) rfl) rfl
theorem wl_X9_168 : Cond.methodLink RX9 168 yX9_choosesAt ∈ G := inG (inT5 (k := 33) rfl) rfl
theorem wl_X9_157 : Cond.methodLink RX9 157 yX9_layLevel ∈ G := inG (inT5 (k := 37) rfl) rfl
theorem wl_X9_185 : Cond.methodLink RX9 185 yX9_isBetterObjected ∈ G := inG (inT5 (k := 41) rfl) rfl
theorem wl_L_76 : Cond.methodLink RL 76 yX9_proof ∈ G := inG (inT5 (k := 45) rfl) rfl
theorem wl_X9_197 : Cond.methodLink RX9 197 yX9_bits ∈ G := inG (inT5 (k := 49) rfl) rfl
theorem wl_X9_200 : Cond.methodLink RX9 200 yX9_layNow ∈ G := inG (inT5 (k := 52) rfl) rfl
theorem wl_X9_203 : Cond.methodLink RX9 203 yX9_goSaying ∈ G := inG (inT5 (k := 56) rfl) rfl
theorem wl_L_80 : Cond.methodLink RL 80 yX9_ends ∈ G := inG (inT5 (k := 60) rfl) rfl
theorem wk_X9_206 : Cond.constantLong RX9 206 (-99) ∈ G := inG (inT5 (k := 64) rfl) rfl
theorem wk_X9_208 : Cond.constantLong RX9 208 (99) ∈ G := inG (inT5 (k := 65) rfl) rfl
theorem wl_L_84 : Cond.methodLink RL 84 yX9_bowed ∈ G := inG (inT5 (k := 66) rfl) rfl
theorem wl_X9_216 : Cond.methodLink RX9 216 yX9_goesAll ∈ G := inG (inT5 (k := 70) rfl) rfl
theorem wl_X9_210 : Cond.methodLink RX9 210 yX9_mayTo ∈ G := inG (inT5 (k := 74) rfl) rfl
theorem wl_X9_213 : Cond.methodLink RX9 213 yX9_goObjecting ∈ G := inG (inT5 (k := 78) rfl) rfl
theorem wl_L_89 : Cond.methodLink RL 89 yX9_note ∈ G := inG (inT5 (k := 82) rfl) rfl
theorem wk_X9_219 : Cond.constantLong RX9 219 (40) ∈ G := inG (inT5 (k := 86) rfl) rfl
theorem wl_L_94 : Cond.methodLink RL 94 yX9_mark ∈ G := inG (inT5 (k := 87) rfl) rfl
theorem wk_X9_221 : Cond.constantLong RX9 221 (-50) ∈ G := inG (inT5 (k := 91) rfl) rfl
theorem wk_X9_223 : Cond.constantLong RX9 223 (50) ∈ G := inG (inT5 (k := 92) rfl) rfl
theorem wl_L_98 : Cond.methodLink RL 98 yX9_forget ∈ G := inG (inT5 (k := 93) rfl) rfl
theorem wl_L_102 : Cond.methodLink RL 102 yX9_is ∈ G := inG (inT5 (k := 97) rfl) rfl
theorem wl_X9_225 : Cond.methodLink RX9 225 yX9_kindsOf ∈ G := inG (inT5 (k := 101) rfl) rfl
theorem wl_L_110 : Cond.methodLink RL 110 yX9_kinds ∈ G := inG (inT5 (k := 105) rfl) rfl
theorem wl_X9_228 : Cond.methodLink RX9 228 yX9_kindsOfCounsel ∈ G := inG (inT5 (k := 109) rfl) rfl
theorem wl_L_106 : Cond.methodLink RL 106 yX9_look ∈ G := inG (inT5 (k := 113) rfl) rfl
theorem wl_X9_231 : Cond.methodLink RX9 231 yX9_mostAlike ∈ G := inG (inT5 (k := 117) rfl) rfl
theorem wl_L_114 : Cond.methodLink RL 114 yX9_ask ∈ G := inG (inT5 (k := 121) rfl) rfl
theorem wl_L_118 : Cond.methodLink RL 118 yX9_settle ∈ G := inG (inT5 (k := 125) rfl) rfl
theorem wl_X9_237 : Cond.methodLink RX9 237 yX9_isBest ∈ G := inG (inT5 (k := 129) rfl) rfl
theorem wl_X9_234 : Cond.methodLink RX9 234 yX9_getsBy ∈ G := inG (inT5 (k := 132) rfl) rfl
theorem wl_L_122 : Cond.methodLink RL 122 yX9_hearings ∈ G := inG (inT5 (k := 135) rfl) rfl
theorem wk_X9_244 : Cond.constantLong RX9 244 (10) ∈ G := inG (inT5 (k := 139) rfl) rfl
theorem wl_X9_246 : Cond.methodLink RX9 246 yX9_isWon ∈ G := inG (inT5 (k := 140) rfl) rfl
theorem wl_X9_249 : Cond.methodLink RX9 249 yX9_fraction ∈ G := inG (inT5 (k := 144) rfl) rfl
theorem wl_L_126 : Cond.methodLink RL 126 yX9_days ∈ G := inG (inT5 (k := 148) rfl) rfl
theorem wk_X9_253 : Cond.constantLong RX9 253 (999999) ∈ G := inG (inT5 (k := 152) rfl) rfl
theorem wk_X9_255 : Cond.constantLong RX9 255 (60) ∈ G := inG (inT5 (k := 153) rfl) rfl
theorem wk_X9_257 : Cond.constantLong RX9 257 (1103515245) ∈ G := inG (inT5 (k := 154) rfl) rfl
theorem wk_X9_259 : Cond.constantLong RX9 259 (12345) ∈ G := inG (inT5 (k := 155) rfl) rfl
theorem wk_X9_261 : Cond.constantLong RX9 261 (2147483648) ∈ G := inG (inT5 (k := 156) rfl) rfl
theorem wk_X9_263 : Cond.constantLong RX9 263 (65536) ∈ G := inG (inT5 (k := 157) rfl) rfl
theorem wl_L_31 : Cond.methodLink RL 31 yX9_type ∈ G := inG (inT5 (k := 158) rfl) rfl
theorem wk_X9_265 : Cond.constantLong RX9 265 (127) ∈ G := inG (inT5 (k := 162) rfl) rfl
theorem wl_L_36 : Cond.methodLink RL 36 yX9_clear ∈ G := inG (inT5 (k := 163) rfl) rfl
theorem wl_L_40 : Cond.methodLink RL 40 yX9_read ∈ G := inG (inT5 (k := 167) rfl) rfl
theorem wl_X9_296 : Cond.methodLink RX9 296 yX9_lookAt ∈ G := inG (inT5 (k := 171) rfl) rfl
theorem wl_X9_290 : Cond.methodLink RX9 290 yX9_isSmall ∈ G := inG (inT5 (k := 175) rfl) rfl
theorem wk_X9_270 : Cond.constantLong RX9 270 (97) ∈ G := inG (inT5 (k := 178) rfl) rfl
theorem wk_X9_272 : Cond.constantLong RX9 272 (122) ∈ G := inG (inT5 (k := 179) rfl) rfl
theorem wl_X9_293 : Cond.methodLink RX9 293 yX9_isFigure ∈ G := inG (inT5 (k := 180) rfl) rfl
theorem wk_X9_274 : Cond.constantLong RX9 274 (48) ∈ G := inG (inT5 (k := 183) rfl) rfl
theorem wk_X9_276 : Cond.constantLong RX9 276 (57) ∈ G := inG (inT5 (k := 184) rfl) rfl
theorem wl_X9_311 : Cond.methodLink RX9 311 yX9_spells ∈ G := inG (inT5 (k := 185) rfl) rfl
theorem wl_X9_330 : Cond.methodLink RX9 330 yX9_readInto ∈ G := inG (inT5 (k := 189) rfl) rfl
theorem wl_X9_299 : Cond.methodLink RX9 299 yX9_goBehind ∈ G := inG (inT5 (k := 193) rfl) rfl
theorem wl_X9_302 : Cond.methodLink RX9 302 yX9_takes ∈ G := inG (inT5 (k := 197) rfl) rfl
theorem wl_X9_327 : Cond.methodLink RX9 327 yX9_takesItem ∈ G := inG (inT5 (k := 201) rfl) rfl
theorem wl_X9_315 : Cond.methodLink RX9 315 yX9_takesBows ∈ G := inG (inT5 (k := 205) rfl) rfl
theorem wl_X9_318 : Cond.methodLink RX9 318 yX9_takesPoint ∈ G := inG (inT5 (k := 209) rfl) rfl
theorem wl_X9_321 : Cond.methodLink RX9 321 yX9_takesSaying ∈ G := inG (inT5 (k := 213) rfl) rfl
theorem wl_X9_305 : Cond.methodLink RX9 305 yX9_goSays ∈ G := inG (inT5 (k := 217) rfl) rfl
theorem wl_X9_324 : Cond.methodLink RX9 324 yX9_takesObjecting ∈ G := inG (inT5 (k := 221) rfl) rfl
theorem wl_X9_308 : Cond.methodLink RX9 308 yX9_goObjects ∈ G := inG (inT5 (k := 225) rfl) rfl
theorem wl_L_131 : Cond.methodLink RL 131 yX9_part ∈ G := inG (inT5 (k := 229) rfl) rfl
theorem wl_L_135 : Cond.methodLink RL 135 yX9_image ∈ G := inG (inT5 (k := 233) rfl) rfl
theorem wl_L_139 : Cond.methodLink RL 139 yX9_from ∈ G := inG (inT5 (k := 237) rfl) rfl
theorem wl_L_143 : Cond.methodLink RL 143 yX9_status ∈ G := inG (inT6 (k := 1) rfl) rfl
theorem wl_L_147 : Cond.methodLink RL 147 yX9_count ∈ G := inG (inT6 (k := 5) rfl) rfl
theorem wk_X9_333 : Cond.constantLong RX9 333 (7) ∈ G := inG (inT6 (k := 9) rfl) rfl
theorem wl_X9_335 : Cond.methodLink RX9 335 yX9_counted ∈ G := inG (inT6 (k := 10) rfl) rfl
theorem wl_L_152 : Cond.methodLink RL 152 yX9_digest ∈ G := inG (inT6 (k := 14) rfl) rfl
theorem wk_X9_340 : Cond.constantLong RX9 340 (1597) ∈ G := inG (inT6 (k := 18) rfl) rfl
theorem wk_X9_338 : Cond.constantLong RX9 338 (31) ∈ G := inG (inT6 (k := 19) rfl) rfl
theorem wl_X9_342 : Cond.methodLink RX9 342 yX9_sums ∈ G := inG (inT6 (k := 20) rfl) rfl
theorem wf_J0_9 : Cond.fieldLink RJ0 9 "java/lang/String" "value" "[B" ∈ G := inG (inT6 (k := 24) rfl) rfl
theorem wf_J0_15 : Cond.fieldLink RJ0 15 "java/lang/String" "coder" "B" ∈ G := inG (inT6 (k := 25) rfl) rfl
theorem wa_int : Cond.arrayClass (newarray.typeOf .int) ∈ G := inG (inT1 (k := 82) rfl) rfl
theorem wa_long : Cond.arrayClass (newarray.typeOf .long) ∈ G := inG (inT1 (k := 117) rfl) rfl
theorem wa_boolean : Cond.arrayClass (newarray.typeOf .boolean) ∈ G := inG (inT1 (k := 156) rfl) rfl
theorem ws_max : Cond.static Lib.Math.max.name ∈ G := inG (inT2 (k := 191) rfl) rfl
theorem wo_max : Cond.code Lib.Math.max.name Lib.Math.max.code 2 (some .int) ∈ G := inG (inT2 (k := 192) rfl) rfl
theorem ws_min : Cond.static Lib.Math.min.name ∈ G := inG (inT2 (k := 188) rfl) rfl
theorem wo_min : Cond.code Lib.Math.min.name Lib.Math.min.code 2 (some .int) ∈ G := inG (inT2 (k := 189) rfl) rfl
theorem ws_copy : Cond.static arraycopyName ∈ G := inG (inT2 (k := 227) rfl) rfl
theorem wnat_copy : Cond.native arraycopyName ∈ G := inG (inT2 (k := 228) rfl) rfl
theorem wo_obj : Cond.code objectInit ⟨#[0xb1]⟩ 1 none ∈ G := inG (inT1 (k := 25) rfl) rfl
theorem wm_obj : Cond.instanceMethod objectInit ∈ G := inG (inT1 (k := 24) rfl) rfl
theorem wu_X1 : ∀ w ∈ u_ws RX1 TX1 9, w ∈ G := by
  intro w h
  obtain ⟨k, hk, rfl⟩ := List.mem_map.mp h
  have hk := List.mem_range.mp hk
  match k, hk with
  | 0, _ => exact inG (inT1 (k := 98) rfl) rfl
  | 1, _ => exact inG (inT1 (k := 100) rfl) rfl
  | 2, _ => exact inG (inT1 (k := 102) rfl) rfl
  | 3, _ => exact inG (inT1 (k := 104) rfl) rfl
  | 4, _ => exact inG (inT1 (k := 106) rfl) rfl
  | 5, _ => exact inG (inT1 (k := 108) rfl) rfl
  | 6, _ => exact inG (inT1 (k := 110) rfl) rfl
  | 7, _ => exact inG (inT1 (k := 112) rfl) rfl
  | 8, _ => exact inG (inT1 (k := 114) rfl) rfl
theorem wu_X2 : ∀ w ∈ u_ws RX2 TX2 2, w ∈ G := by
  intro w h
  obtain ⟨k, hk, rfl⟩ := List.mem_map.mp h
  have hk := List.mem_range.mp hk
  match k, hk with
  | 0, _ => exact inG (inT1 (k := 163) rfl) rfl
  | 1, _ => exact inG (inT1 (k := 165) rfl) rfl
theorem wu_X3 : ∀ w ∈ u_ws RX3 TX3 10, w ∈ G := by
  intro w h
  obtain ⟨k, hk, rfl⟩ := List.mem_map.mp h
  have hk := List.mem_range.mp hk
  match k, hk with
  | 0, _ => exact inG (inT1 (k := 61) rfl) rfl
  | 1, _ => exact inG (inT1 (k := 63) rfl) rfl
  | 2, _ => exact inG (inT1 (k := 65) rfl) rfl
  | 3, _ => exact inG (inT1 (k := 67) rfl) rfl
  | 4, _ => exact inG (inT1 (k := 69) rfl) rfl
  | 5, _ => exact inG (inT1 (k := 71) rfl) rfl
  | 6, _ => exact inG (inT1 (k := 73) rfl) rfl
  | 7, _ => exact inG (inT1 (k := 75) rfl) rfl
  | 8, _ => exact inG (inT1 (k := 77) rfl) rfl
  | 9, _ => exact inG (inT1 (k := 79) rfl) rfl
theorem wu_X7 : ∀ w ∈ u_ws RX7 TX7 6, w ∈ G := by
  intro w h
  obtain ⟨k, hk, rfl⟩ := List.mem_map.mp h
  have hk := List.mem_range.mp hk
  match k, hk with
  | 0, _ => exact inG (inT1 (k := 143) rfl) rfl
  | 1, _ => exact inG (inT1 (k := 145) rfl) rfl
  | 2, _ => exact inG (inT1 (k := 147) rfl) rfl
  | 3, _ => exact inG (inT1 (k := 149) rfl) rfl
  | 4, _ => exact inG (inT1 (k := 151) rfl) rfl
  | 5, _ => exact inG (inT1 (k := 153) rfl) rfl
theorem wu_X8 : ∀ w ∈ u_ws RX8 TX8 8, w ∈ G := by
  intro w h
  obtain ⟨k, hk, rfl⟩ := List.mem_map.mp h
  have hk := List.mem_range.mp hk
  match k, hk with
  | 0, _ => exact inG (inT1 (k := 176) rfl) rfl
  | 1, _ => exact inG (inT1 (k := 178) rfl) rfl
  | 2, _ => exact inG (inT1 (k := 180) rfl) rfl
  | 3, _ => exact inG (inT1 (k := 182) rfl) rfl
  | 4, _ => exact inG (inT1 (k := 184) rfl) rfl
  | 5, _ => exact inG (inT1 (k := 186) rfl) rfl
  | 6, _ => exact inG (inT1 (k := 188) rfl) rfl
  | 7, _ => exact inG (inT1 (k := 190) rfl) rfl
theorem wu_X9 : ∀ w ∈ u_ws RX9 TX9 28, w ∈ G := by
  intro w h
  obtain ⟨k, hk, rfl⟩ := List.mem_map.mp h
  have hk := List.mem_range.mp hk
  match k, hk with
  | 0, _ => exact inG (inT4 (k := 67) rfl) rfl
  | 1, _ => exact inG (inT4 (k := 69) rfl) rfl
  | 2, _ => exact inG (inT4 (k := 71) rfl) rfl
  | 3, _ => exact inG (inT4 (k := 73) rfl) rfl
  | 4, _ => exact inG (inT4 (k := 75) rfl) rfl
  | 5, _ => exact inG (inT4 (k := 77) rfl) rfl
  | 6, _ => exact inG (inT4 (k := 79) rfl) rfl
  | 7, _ => exact inG (inT4 (k := 81) rfl) rfl
  | 8, _ => exact inG (inT4 (k := 83) rfl) rfl
  | 9, _ => exact inG (inT4 (k := 85) rfl) rfl
  | 10, _ => exact inG (inT4 (k := 87) rfl) rfl
  | 11, _ => exact inG (inT4 (k := 89) rfl) rfl
  | 12, _ => exact inG (inT4 (k := 91) rfl) rfl
  | 13, _ => exact inG (inT4 (k := 93) rfl) rfl
  | 14, _ => exact inG (inT4 (k := 95) rfl) rfl
  | 15, _ => exact inG (inT4 (k := 97) rfl) rfl
  | 16, _ => exact inG (inT4 (k := 99) rfl) rfl
  | 17, _ => exact inG (inT4 (k := 101) rfl) rfl
  | 18, _ => exact inG (inT4 (k := 103) rfl) rfl
  | 19, _ => exact inG (inT4 (k := 105) rfl) rfl
  | 20, _ => exact inG (inT4 (k := 107) rfl) rfl
  | 21, _ => exact inG (inT4 (k := 109) rfl) rfl
  | 22, _ => exact inG (inT4 (k := 111) rfl) rfl
  | 23, _ => exact inG (inT4 (k := 113) rfl) rfl
  | 24, _ => exact inG (inT4 (k := 115) rfl) rfl
  | 25, _ => exact inG (inT4 (k := 117) rfl) rfl
  | 26, _ => exact inG (inT4 (k := 119) rfl) rfl
  | 27, _ => exact inG (inT4 (k := 121) rfl) rfl
  | k + 28, h => exact absurd h (by omega)
theorem wv_J0_charAt_5068e : WV yJ0_charAt_5068e RJ0 cJ0_charAt_5068e 2 (some .char) 1 := ⟨⟨inG (inT2 (k := 63) rfl) rfl, inG (inT2 (k := 64) rfl) rfl, wi_J0, inG (inT2 (k := 65) rfl) rfl⟩, by decide +kernel⟩
theorem wv_J0_checkIndex_df160 : WS yJ0_checkIndex_df160 cJ0_checkIndex_df160 2 none 2 := ⟨⟨inG (inT2 (k := 74) rfl) rfl, wi_J0, inG (inT2 (k := 75) rfl) rfl⟩, by decide +kernel⟩
theorem wv_J0_coder_7d493 : WV yJ0_coder_7d493 RJ0 cJ0_coder_7d493 1 (some .byte) 0 := ⟨⟨inG (inT2 (k := 57) rfl) rfl, inG (inT2 (k := 58) rfl) rfl, wi_J0, inG (inT2 (k := 59) rfl) rfl⟩, by decide +kernel⟩
theorem wv_J0_isLatin1_aae02 : WV yJ0_isLatin1_aae02 RJ0 cJ0_isLatin1_aae02 1 (some .boolean) 0 := ⟨⟨inG (inT2 (k := 67) rfl) rfl, inG (inT2 (k := 68) rfl) rfl, wi_J0, inG (inT2 (k := 69) rfl) rfl⟩, by decide +kernel⟩
theorem wv_J0_length_8abf5 : WV yJ0_length_8abf5 RJ0 cJ0_length_8abf5 1 (some .int) 0 := ⟨⟨inG (inT2 (k := 53) rfl) rfl, inG (inT2 (k := 54) rfl) rfl, wi_J0, inG (inT2 (k := 55) rfl) rfl⟩, by decide +kernel⟩
theorem wv_J1_charAt_3b067 : WS yJ1_charAt_3b067 cJ1_charAt_3b067 2 (some .char) 2 := ⟨⟨inG (inT2 (k := 71) rfl) rfl, wi_J1, inG (inT2 (k := 72) rfl) rfl⟩, by decide +kernel⟩
theorem wv_J2_charAt_3b067 : WS yJ2_charAt_3b067 cJ2_charAt_3b067 2 (some .char) 2 := ⟨⟨inG (inT2 (k := 82) rfl) rfl, wi_J2, inG (inT2 (k := 83) rfl) rfl⟩, by decide +kernel⟩
theorem wv_J2_checkIndex_2214a : WS yJ2_checkIndex_2214a cJ2_checkIndex_2214a 2 none 2 := ⟨⟨inG (inT2 (k := 85) rfl) rfl, wi_J2, inG (inT2 (k := 86) rfl) rfl⟩, by decide +kernel⟩
theorem wv_J2_getChar_3b067 : WS yJ2_getChar_3b067 cJ2_getChar_3b067 2 (some .char) 2 := ⟨⟨inG (inT2 (k := 92) rfl) rfl, wi_J2, inG (inT2 (k := 93) rfl) rfl⟩, by decide +kernel⟩
theorem wv_J2_length_9d52b : WS yJ2_length_9d52b cJ2_length_9d52b 1 (some .int) 1 := ⟨⟨inG (inT2 (k := 88) rfl) rfl, wi_J2, inG (inT2 (k := 89) rfl) rfl⟩, by decide +kernel⟩
theorem wv_J3_checkIndex_8e157 : WS yJ3_checkIndex_8e157 cJ3_checkIndex_8e157 3 (some .int) 3 := ⟨⟨inG (inT2 (k := 79) rfl) rfl, wi_J3, inG (inT2 (k := 80) rfl) rfl⟩, by decide +kernel⟩
theorem wv_J6_bitCount_0f7a4 : WS yJ6_bitCount_0f7a4 cJ6_bitCount_0f7a4 1 (some .int) 1 := ⟨⟨inG (inT2 (k := 152) rfl) rfl, wi_J6, inG (inT2 (k := 153) rfl) rfl⟩, by decide +kernel⟩
theorem wv_J9_max_7cf53 : WS yJ9_max_7cf53 cJ9_max_7cf53 2 (some .int) 2 := ⟨⟨inG (inT2 (k := 191) rfl) rfl, wi_J9, inG (inT2 (k := 192) rfl) rfl⟩, by decide +kernel⟩
theorem wv_J9_min_7cf53 : WS yJ9_min_7cf53 cJ9_min_7cf53 2 (some .int) 2 := ⟨⟨inG (inT2 (k := 188) rfl) rfl, wi_J9, inG (inT2 (k := 189) rfl) rfl⟩, by decide +kernel⟩
theorem wv_X0_whatToSay : WS yX0_whatToSay cX0_whatToSay 9 (some .int) 1 := ⟨⟨inG (inT3 (k := 72) rfl) rfl, wi_X0, inG (inT3 (k := 73) rfl) rfl⟩, by decide +kernel⟩
theorem wv_X0_whetherToBow : WS yX0_whetherToBow cX0_whetherToBow 6 (some .int) 1 := ⟨⟨inG (inT3 (k := 69) rfl) rfl, wi_X0, inG (inT3 (k := 70) rfl) rfl⟩, by decide +kernel⟩
theorem wv_X0_worth : WS yX0_worth cX0_worth 9 (some .int) 4 := ⟨⟨inG (inT3 (k := 48) rfl) rfl, wi_X0, inG (inT3 (k := 49) rfl) rfl⟩, by decide +kernel⟩
theorem wv_X0_worthUnbowed : WS yX0_worthUnbowed cX0_worthUnbowed 13 (some .int) 4 := ⟨⟨inG (inT3 (k := 51) rfl) rfl, wi_X0, inG (inT3 (k := 52) rfl) rfl⟩, by decide +kernel⟩
theorem wv_X1_addMark : WV yX1_addMark RX1 cX1_addMark 6 none 4 := ⟨⟨inG (inT3 (k := 123) rfl) rfl, inG (inT3 (k := 124) rfl) rfl, wi_X1, inG (inT3 (k := 125) rfl) rfl⟩, by decide +kernel⟩
theorem wv_X1_addNote : WV yX1_addNote RX1 cX1_addNote 7 none 5 := ⟨⟨inG (inT3 (k := 115) rfl) rfl, inG (inT3 (k := 116) rfl) rfl, wi_X1, inG (inT3 (k := 117) rfl) rfl⟩, by decide +kernel⟩
theorem wv_X1_allEndsAre : WV yX1_allEndsAre RX1 cX1_allEndsAre 3 (some .boolean) 1 := ⟨⟨inG (inT3 (k := 107) rfl) rfl, inG (inT3 (k := 108) rfl) rfl, wi_X1, inG (inT3 (k := 109) rfl) rfl⟩, by decide +kernel⟩
theorem wv_X1_begin : WV yX1_begin RX1 cX1_begin 3 none 2 := ⟨⟨inG (inT1 (k := 208) rfl) rfl, inG (inT1 (k := 209) rfl) rfl, wi_X1, inG (inT1 (k := 210) rfl) rfl⟩, by decide +kernel⟩
theorem wv_X1_copyAll : WV yX1_copyAll RX1 cX1_copyAll 2 none 1 := ⟨⟨inG (inT3 (k := 231) rfl) rfl, inG (inT3 (k := 232) rfl) rfl, wi_X1, inG (inT3 (k := 233) rfl) rfl⟩, by decide +kernel⟩
theorem wv_X1_counselKindsThatFit : WV yX1_counselKindsThatFit RX1 cX1_counselKindsThatFit 4 (some .int) 1 := ⟨⟨inG (inT3 (k := 161) rfl) rfl, inG (inT3 (k := 162) rfl) rfl, wi_X1, inG (inT3 (k := 163) rfl) rfl⟩, by decide +kernel⟩
theorem wv_X1_digestOn : WV yX1_digestOn RX1 cX1_digestOn 6 (some .long) 1 := ⟨⟨inG (inT4 (k := 26) rfl) rfl, inG (inT4 (k := 27) rfl) rfl, wi_X1, inG (inT4 (k := 28) rfl) rfl⟩, by decide +kernel⟩
theorem wv_X1_dropPast : WV yX1_dropPast RX1 cX1_dropPast 1 none 0 := ⟨⟨inG (inT1 (k := 223) rfl) rfl, inG (inT1 (k := 224) rfl) rfl, wi_X1, inG (inT1 (k := 225) rfl) rfl⟩, by decide +kernel⟩
theorem wv_X1_goBack : WV yX1_goBack RX1 cX1_goBack 1 none 0 := ⟨⟨inG (inT3 (k := 5) rfl) rfl, inG (inT3 (k := 6) rfl) rfl, wi_X1, inG (inT3 (k := 7) rfl) rfl⟩, by decide +kernel⟩
theorem wv_X1_init : WI yX1_init cX1_init 1 none 0 := ⟨⟨inG (inT1 (k := 29) rfl) rfl, wi_X1, inG (inT1 (k := 30) rfl) rfl⟩, by decide +kernel⟩
theorem wv_X1_marksFit : WV yX1_marksFit RX1 cX1_marksFit 5 (some .boolean) 2 := ⟨⟨inG (inT3 (k := 166) rfl) rfl, inG (inS (k := 16) (q := (yX1_marksFit, 9)) rfl) rfl, wi_X1, inG (inT3 (k := 167) rfl) rfl⟩, by decide +kernel⟩
theorem wv_X1_notesFit : WV yX1_notesFit RX1 cX1_notesFit 5 (some .boolean) 2 := ⟨⟨inG (inT3 (k := 140) rfl) rfl, inG (inS (k := 15) (q := (yX1_notesFit, 9)) rfl) rfl, wi_X1, inG (inT3 (k := 141) rfl) rfl⟩, by decide +kernel⟩
theorem wv_X1_pointKindsThatFit : WV yX1_pointKindsThatFit RX1 cX1_pointKindsThatFit 4 (some .int) 1 := ⟨⟨inG (inT3 (k := 135) rfl) rfl, inG (inT3 (k := 136) rfl) rfl, wi_X1, inG (inT3 (k := 137) rfl) rfl⟩, by decide +kernel⟩
theorem wv_X1_remember : WV yX1_remember RX1 cX1_remember 1 none 0 := ⟨⟨inG (inT2 (k := 223) rfl) rfl, inG (inT2 (k := 224) rfl) rfl, wi_X1, inG (inT2 (k := 225) rfl) rfl⟩, by decide +kernel⟩
theorem wv_X2_init : WI yX2_init cX2_init 1 none 0 := ⟨⟨inG (inT1 (k := 124) rfl) rfl, wi_X2, inG (inT1 (k := 125) rfl) rfl⟩, by decide +kernel⟩
theorem wv_X2_numberWithin : WV yX2_numberWithin RX2 cX2_numberWithin 3 (some .boolean) 2 := ⟨⟨inG (inT2 (k := 106) rfl) rfl, inG (inS (k := 7) (q := (yX2_numberWithin, 2)) rfl) rfl, wi_X2, inG (inT2 (k := 107) rfl) rfl⟩, by decide +kernel⟩
theorem wv_X2_readAll : WV yX2_readAll RX2 cX2_readAll 2 (some .int) 0 := ⟨⟨inG (inT2 (k := 20) rfl) rfl, inG (inT2 (k := 21) rfl) rfl, wi_X2, inG (inT2 (k := 22) rfl) rfl⟩, by decide +kernel⟩
theorem wv_X2_readBows : WV yX2_readBows RX2 cX2_readBows 2 (some .boolean) 0 := ⟨⟨inG (inT2 (k := 117) rfl) rfl, inG (inS (k := 9) (q := (yX2_readBows, 2)) rfl) rfl, wi_X2, inG (inT2 (k := 118) rfl) rfl⟩, by decide +kernel⟩
theorem wv_X2_readCase : WV yX2_readCase RX2 cX2_readCase 2 (some .boolean) 0 := ⟨⟨inG (inT2 (k := 102) rfl) rfl, inG (inS (k := 6) (q := (yX2_readCase, 2)) rfl) rfl, wi_X2, inG (inT2 (k := 103) rfl) rfl⟩, by decide +kernel⟩
theorem wv_X2_readItem : WV yX2_readItem RX2 cX2_readItem 2 (some .boolean) 1 := ⟨⟨inG (inT2 (k := 45) rfl) rfl, inG (inS (k := 5) (q := (yX2_readItem, 2)) rfl) rfl, wi_X2, inG (inT2 (k := 46) rfl) rfl⟩, by decide +kernel⟩
theorem wv_X2_readObjecting : WV yX2_readObjecting RX2 cX2_readObjecting 1 (some .boolean) 0 := ⟨⟨inG (inT2 (k := 196) rfl) rfl, inG (inS (k := 13) (q := (yX2_readObjecting, 2)) rfl) rfl, wi_X2, inG (inT2 (k := 197) rfl) rfl⟩, by decide +kernel⟩
theorem wv_X2_readPoint : WV yX2_readPoint RX2 cX2_readPoint 3 (some .boolean) 0 := ⟨⟨inG (inT2 (k := 123) rfl) rfl, inG (inS (k := 10) (q := (yX2_readPoint, 2)) rfl) rfl, wi_X2, inG (inT2 (k := 124) rfl) rfl⟩, by decide +kernel⟩
theorem wv_X2_readSaying : WV yX2_readSaying RX2 cX2_readSaying 1 (some .boolean) 0 := ⟨⟨inG (inT2 (k := 130) rfl) rfl, inG (inS (k := 11) (q := (yX2_readSaying, 2)) rfl) rfl, wi_X2, inG (inT2 (k := 131) rfl) rfl⟩, by decide +kernel⟩
theorem wv_X2_semicolon : WV yX2_semicolon RX2 cX2_semicolon 1 (some .boolean) 0 := ⟨⟨inG (inT2 (k := 112) rfl) rfl, inG (inS (k := 8) (q := (yX2_semicolon, 2)) rfl) rfl, wi_X2, inG (inT2 (k := 113) rfl) rfl⟩, by decide +kernel⟩
theorem wv_X3_add : WV yX3_add RX3 cX3_add 4 none 3 := ⟨⟨inG (inT1 (k := 239) rfl) rfl, inG (inT2 (k := 0) rfl) rfl, wi_X3, inG (inT2 (k := 1) rfl) rfl⟩, by decide +kernel⟩
theorem wv_X3_allGroundsLeft : WV yX3_allGroundsLeft RX3 cX3_allGroundsLeft 3 (some .int) 0 := ⟨⟨inG (inT4 (k := 8) rfl) rfl, inG (inT4 (k := 9) rfl) rfl, wi_X3, inG (inT4 (k := 10) rfl) rfl⟩, by decide +kernel⟩
theorem wv_X3_back : WV yX3_back RX3 cX3_back 6 none 1 := ⟨⟨inG (inT3 (k := 9) rfl) rfl, inG (inT3 (k := 10) rfl) rfl, wi_X3, inG (inT3 (k := 11) rfl) rfl⟩, by decide +kernel⟩
theorem wv_X3_begin : WV yX3_begin RX3 cX3_begin 3 none 2 := ⟨⟨inG (inT1 (k := 212) rfl) rfl, inG (inT1 (k := 213) rfl) rfl, wi_X3, inG (inT1 (k := 214) rfl) rfl⟩, by decide +kernel⟩
theorem wv_X3_bow : WV yX3_bow RX3 cX3_bow 1 none 0 := ⟨⟨inG (inT2 (k := 203) rfl) rfl, inG (inT2 (k := 204) rfl) rfl, wi_X3, inG (inT2 (k := 205) rfl) rfl⟩, by decide +kernel⟩
theorem wv_X3_chairOf : WV yX3_chairOf RX3 cX3_chairOf 2 (some .int) 1 := ⟨⟨inG (inT2 (k := 158) rfl) rfl, inG (inT2 (k := 159) rfl) rfl, wi_X3, inG (inT2 (k := 160) rfl) rfl⟩, by decide +kernel⟩
theorem wv_X3_copy : WV yX3_copy RX3 cX3_copy 3 none 1 := ⟨⟨inG (inT2 (k := 208) rfl) rfl, inG (inT2 (k := 209) rfl) rfl, wi_X3, inG (inT2 (k := 210) rfl) rfl⟩, by decide +kernel⟩
theorem wv_X3_counselZeroWins : WV yX3_counselZeroWins RX3 cX3_counselZeroWins 1 (some .boolean) 0 := ⟨⟨inG (inT3 (k := 199) rfl) rfl, inG (inT3 (k := 200) rfl) rfl, wi_X3, inG (inT3 (k := 201) rfl) rfl⟩, by decide +kernel⟩
theorem wv_X3_counting : WV yX3_counting RX3 cX3_counting 5 (some .int) 1 := ⟨⟨inG (inT2 (k := 144) rfl) rfl, inG (inT2 (k := 145) rfl) rfl, wi_X3, inG (inT2 (k := 146) rfl) rfl⟩, by decide +kernel⟩
theorem wv_X3_digestOn : WV yX3_digestOn RX3 cX3_digestOn 6 (some .long) 1 := ⟨⟨inG (inT4 (k := 20) rfl) rfl, inG (inT4 (k := 21) rfl) rfl, wi_X3, inG (inT4 (k := 22) rfl) rfl⟩, by decide +kernel⟩
theorem wv_X3_hasPoint : WV yX3_hasPoint RX3 cX3_hasPoint 2 (some .boolean) 1 := ⟨⟨inG (inT2 (k := 140) rfl) rfl, inG (inT2 (k := 141) rfl) rfl, wi_X3, inG (inT2 (k := 142) rfl) rfl⟩, by decide +kernel⟩
theorem wv_X3_hasRoom : WV yX3_hasRoom RX3 cX3_hasRoom 1 (some .boolean) 0 := ⟨⟨inG (inT1 (k := 231) rfl) rfl, inG (inT1 (k := 232) rfl) rfl, wi_X3, inG (inT1 (k := 233) rfl) rfl⟩, by decide +kernel⟩
theorem wv_X3_init : WI yX3_init cX3_init 1 none 0 := ⟨⟨inG (inT1 (k := 35) rfl) rfl, wi_X3, inG (inT1 (k := 36) rfl) rfl⟩, by decide +kernel⟩
theorem wv_X3_keep : WV yX3_keep RX3 cX3_keep 4 (some .long) 0 := ⟨⟨inG (inT2 (k := 230) rfl) rfl, inG (inT2 (k := 231) rfl) rfl, wi_X3, inG (inT2 (k := 232) rfl) rfl⟩, by decide +kernel⟩
theorem wv_X3_mayObject : WV yX3_mayObject RX3 cX3_mayObject 1 (some .boolean) 0 := ⟨⟨inG (inT2 (k := 199) rfl) rfl, inG (inT2 (k := 200) rfl) rfl, wi_X3, inG (inT2 (k := 201) rfl) rfl⟩, by decide +kernel⟩
theorem wv_X3_meritOfChair : WV yX3_meritOfChair RX3 cX3_meritOfChair 2 (some .int) 1 := ⟨⟨inG (inT2 (k := 163) rfl) rfl, inG (inS (k := 12) (q := (yX3_meritOfChair, 10)) rfl) rfl, wi_X3, inG (inT2 (k := 164) rfl) rfl⟩, by decide +kernel⟩
theorem wv_X3_speak : WV yX3_speak RX3 cX3_speak 4 none 1 := ⟨⟨inG (inT2 (k := 136) rfl) rfl, inG (inT2 (k := 137) rfl) rfl, wi_X3, inG (inT2 (k := 138) rfl) rfl⟩, by decide +kernel⟩
theorem wv_X3_speaker : WV yX3_speaker RX3 cX3_speaker 1 (some .int) 0 := ⟨⟨inG (inT2 (k := 148) rfl) rfl, inG (inT2 (k := 149) rfl) rfl, wi_X3, inG (inT2 (k := 150) rfl) rfl⟩, by decide +kernel⟩
theorem wv_X3_turn : WV yX3_turn RX3 cX3_turn 1 (some .int) 0 := ⟨⟨inG (inT2 (k := 166) rfl) rfl, inG (inT2 (k := 167) rfl) rfl, wi_X3, inG (inT2 (k := 168) rfl) rfl⟩, by decide +kernel⟩
theorem wv_X3_unsaid : WV yX3_unsaid RX3 cX3_unsaid 1 (some .int) 0 := ⟨⟨inG (inT3 (k := 22) rfl) rfl, inG (inT3 (k := 23) rfl) rfl, wi_X3, inG (inT3 (k := 24) rfl) rfl⟩, by decide +kernel⟩
theorem wv_X3_winner : WV yX3_winner RX3 cX3_winner 1 (some .int) 0 := ⟨⟨inG (inT3 (k := 26) rfl) rfl, inG (inT3 (k := 27) rfl) rfl, wi_X3, inG (inT3 (k := 28) rfl) rfl⟩, by decide +kernel⟩
theorem wv_X3_worthForCounselZero : WV yX3_worthForCounselZero RX3 cX3_worthForCounselZero 1 (some .int) 0 := ⟨⟨inG (inT3 (k := 55) rfl) rfl, inG (inT3 (k := 56) rfl) rfl, wi_X3, inG (inT3 (k := 57) rfl) rfl⟩, by decide +kernel⟩
theorem wv_X4_bowsTo : WS yX4_bowsTo cX4_bowsTo 4 (some .boolean) 2 := ⟨⟨inG (inT3 (k := 102) rfl) rfl, wi_X4, inG (inT3 (k := 103) rfl) rfl⟩, by decide +kernel⟩
theorem wv_X4_dayBy : WS yX4_dayBy cX4_dayBy 7 (some .long) 2 := ⟨⟨inG (inT3 (k := 215) rfl) rfl, wi_X4, inG (inT3 (k := 216) rfl) rfl⟩, by decide +kernel⟩
theorem wv_X4_proofFor : WS yX4_proofFor cX4_proofFor 7 (some .int) 2 := ⟨⟨inG (inT3 (k := 82) rfl) rfl, wi_X4, inG (inT3 (k := 83) rfl) rfl⟩, by decide +kernel⟩
theorem wv_X4_speakAll : WS yX4_speakAll cX4_speakAll 3 none 2 := ⟨⟨inG (inT3 (k := 89) rfl) rfl, wi_X4, inG (inT3 (k := 90) rfl) rfl⟩, by decide +kernel⟩
theorem wv_X4_weightOf : WS yX4_weightOf cX4_weightOf 8 (some .long) 3 := ⟨⟨inG (inT3 (k := 195) rfl) rfl, wi_X4, inG (inT3 (k := 196) rfl) rfl⟩, by decide +kernel⟩
theorem wv_X5_bestLook : WS yX5_bestLook cX5_bestLook 7 (some .int) 2 := ⟨⟨inG (inT3 (k := 148) rfl) rfl, wi_X5, inG (inT3 (k := 149) rfl) rfl⟩, by decide +kernel⟩
theorem wv_X5_bestQuestion : WS yX5_bestQuestion cX5_bestQuestion 6 (some .int) 1 := ⟨⟨inG (inT3 (k := 174) rfl) rfl, wi_X5, inG (inT3 (k := 175) rfl) rfl⟩, by decide +kernel⟩
theorem wv_X5_counted : WS yX5_counted cX5_counted 3 (some .int) 3 := ⟨⟨inG (inT2 (k := 179) rfl) rfl, wi_X5, inG (inT2 (k := 180) rfl) rfl⟩, by decide +kernel⟩
theorem wv_X5_evidence : WS yX5_evidence cX5_evidence 2 (some .int) 2 := ⟨⟨inG (inT2 (k := 176) rfl) rfl, wi_X5, inG (inT2 (k := 177) rfl) rfl⟩, by decide +kernel⟩
theorem wv_X5_fierce : WS yX5_fierce cX5_fierce 1 (some .int) 1 := ⟨⟨inG (inT2 (k := 182) rfl) rfl, wi_X5, inG (inT2 (k := 183) rfl) rfl⟩, by decide +kernel⟩
theorem wv_X5_hearsay : WS yX5_hearsay cX5_hearsay 1 (some .int) 1 := ⟨⟨inG (inT2 (k := 173) rfl) rfl, wi_X5, inG (inT2 (k := 174) rfl) rfl⟩, by decide +kernel⟩
theorem wv_X5_mild : WS yX5_mild cX5_mild 1 (some .int) 1 := ⟨⟨inG (inT2 (k := 185) rfl) rfl, wi_X5, inG (inT2 (k := 186) rfl) rfl⟩, by decide +kernel⟩
theorem wv_X5_mostCountingAlike : WS yX5_mostCountingAlike cX5_mostCountingAlike 7 (some .int) 3 := ⟨⟨inG (inT3 (k := 177) rfl) rfl, wi_X5, inG (inT3 (k := 178) rfl) rfl⟩, by decide +kernel⟩
theorem wv_X5_mostMovingAlike : WS yX5_mostMovingAlike cX5_mostMovingAlike 8 (some .int) 4 := ⟨⟨inG (inT3 (k := 151) rfl) rfl, wi_X5, inG (inT3 (k := 152) rfl) rfl⟩, by decide +kernel⟩
theorem wv_X5_moved : WS yX5_moved cX5_moved 4 (some .int) 4 := ⟨⟨inG (inT2 (k := 170) rfl) rfl, wi_X5, inG (inT2 (k := 171) rfl) rfl⟩, by decide +kernel⟩
theorem wv_X6_gain : WS yX6_gain cX6_gain 3 (some .int) 3 := ⟨⟨inG (inT3 (k := 188) rfl) rfl, wi_X6, inG (inT3 (k := 189) rfl) rfl⟩, by decide +kernel⟩
theorem wv_X6_rests : WS yX6_rests cX6_rests 4 (some .boolean) 3 := ⟨⟨inG (inT3 (k := 185) rfl) rfl, wi_X6, inG (inT3 (k := 186) rfl) rfl⟩, by decide +kernel⟩
theorem wv_X7_append : WV yX7_append RX7 cX7_append 2 none 1 := ⟨⟨inG (inT2 (k := 8) rfl) rfl, inG (inT2 (k := 9) rfl) rfl, wi_X7, inG (inT2 (k := 10) rfl) rfl⟩, by decide +kernel⟩
theorem wv_X7_byteAt : WV yX7_byteAt RX7 cX7_byteAt 2 (some .int) 1 := ⟨⟨inG (inT2 (k := 37) rfl) rfl, inG (inS (k := 3) (q := (yX7_byteAt, 6)) rfl) rfl, wi_X7, inG (inT2 (k := 38) rfl) rfl⟩, by decide +kernel⟩
theorem wv_X7_init : WI yX7_init cX7_init 1 none 0 := ⟨⟨inG (inT1 (k := 130) rfl) rfl, wi_X7, inG (inT1 (k := 131) rfl) rfl⟩, by decide +kernel⟩
theorem wv_X7_kindAt : WV yX7_kindAt RX7 cX7_kindAt 3 (some .int) 1 := ⟨⟨inG (inT2 (k := 33) rfl) rfl, inG (inS (k := 2) (q := (yX7_kindAt, 6)) rfl) rfl, wi_X7, inG (inT2 (k := 34) rfl) rfl⟩, by decide +kernel⟩
theorem wv_X7_next : WV yX7_next RX7 cX7_next 1 none 0 := ⟨⟨inG (inT2 (k := 28) rfl) rfl, inG (inT2 (k := 29) rfl) rfl, wi_X7, inG (inT2 (k := 30) rfl) rfl⟩, by decide +kernel⟩
theorem wv_X7_rewind : WV yX7_rewind RX7 cX7_rewind 1 none 0 := ⟨⟨inG (inT2 (k := 24) rfl) rfl, inG (inT2 (k := 25) rfl) rfl, wi_X7, inG (inT2 (k := 26) rfl) rfl⟩, by decide +kernel⟩
theorem wv_X7_takeNumber : WV yX7_takeNumber RX7 cX7_takeNumber 2 none 0 := ⟨⟨inG (inT2 (k := 41) rfl) rfl, inG (inS (k := 4) (q := (yX7_takeNumber, 6)) rfl) rfl, wi_X7, inG (inT2 (k := 42) rfl) rfl⟩, by decide +kernel⟩
theorem wv_X7_tokenIs : WV yX7_tokenIs RX7 cX7_tokenIs 3 (some .boolean) 1 := ⟨⟨inG (inT2 (k := 49) rfl) rfl, inG (inT2 (k := 50) rfl) rfl, wi_X7, inG (inT2 (k := 51) rfl) rfl⟩, by decide +kernel⟩
theorem wv_X8_about : WV yX8_about RX8 cX8_about 4 (some .int) 2 := ⟨⟨inG (inT3 (k := 34) rfl) rfl, inG (inT3 (k := 35) rfl) rfl, wi_X8, inG (inT3 (k := 36) rfl) rfl⟩, by decide +kernel⟩
theorem wv_X8_ask : WV yX8_ask RX8 cX8_ask 2 (some .int) 1 := ⟨⟨inG (inT3 (k := 170) rfl) rfl, inG (inT3 (k := 171) rfl) rfl, wi_X8, inG (inT3 (k := 172) rfl) rfl⟩, by decide +kernel⟩
theorem wv_X8_bowed : WV yX8_bowed RX8 cX8_bowed 8 (some .int) 1 := ⟨⟨inG (inT3 (k := 98) rfl) rfl, inG (inT3 (k := 99) rfl) rfl, wi_X8, inG (inT3 (k := 100) rfl) rfl⟩, by decide +kernel⟩
theorem wv_X8_bows : WV yX8_bows RX8 cX8_bows 4 (some .int) 2 := ⟨⟨inG (inT1 (k := 216) rfl) rfl, inG (inT1 (k := 217) rfl) rfl, wi_X8, inG (inT1 (k := 218) rfl) rfl⟩, by decide +kernel⟩
theorem wv_X8_clear : WV yX8_clear RX8 cX8_clear 2 (some .int) 0 := ⟨⟨inG (inT2 (k := 12) rfl) rfl, inG (inT2 (k := 13) rfl) rfl, wi_X8, inG (inT2 (k := 14) rfl) rfl⟩, by decide +kernel⟩
theorem wv_X8_count : WV yX8_count RX8 cX8_count 2 (some .int) 1 := ⟨⟨inG (inT4 (k := 4) rfl) rfl, inG (inT4 (k := 5) rfl) rfl, wi_X8, inG (inT4 (k := 6) rfl) rfl⟩, by decide +kernel⟩
theorem wv_X8_days : WV yX8_days RX8 cX8_days 7 (some .int) 2 := ⟨⟨inG (inT3 (k := 210) rfl) rfl, inG (inT3 (k := 211) rfl) rfl, wi_X8, inG (inT3 (k := 212) rfl) rfl⟩, by decide +kernel⟩
theorem wv_X8_digest : WV yX8_digest RX8 cX8_digest 4 (some .long) 0 := ⟨⟨inG (inT4 (k := 12) rfl) rfl, inG (inT4 (k := 13) rfl) rfl, wi_X8, inG (inT4 (k := 14) rfl) rfl⟩, by decide +kernel⟩
theorem wv_X8_ends : WV yX8_ends RX8 cX8_ends 2 (some .int) 1 := ⟨⟨inG (inT3 (k := 94) rfl) rfl, inG (inT3 (k := 95) rfl) rfl, wi_X8, inG (inT3 (k := 96) rfl) rfl⟩, by decide +kernel⟩
theorem wv_X8_forget : WV yX8_forget RX8 cX8_forget 3 (some .int) 1 := ⟨⟨inG (inT3 (k := 127) rfl) rfl, inG (inT3 (k := 128) rfl) rfl, wi_X8, inG (inT3 (k := 129) rfl) rfl⟩, by decide +kernel⟩
theorem wv_X8_from : WV yX8_from RX8 cX8_from 2 (some .int) 1 := ⟨⟨inG (inT3 (k := 236) rfl) rfl, inG (inT3 (k := 237) rfl) rfl, wi_X8, inG (inT3 (k := 238) rfl) rfl⟩, by decide +kernel⟩
theorem wv_X8_has : WS yX8_has cX8_has 2 (some .boolean) 2 := ⟨⟨inG (inT2 (k := 133) rfl) rfl, wi_X8, inG (inT2 (k := 134) rfl) rfl⟩, by decide +kernel⟩
theorem wv_X8_hearings : WV yX8_hearings RX8 cX8_hearings 9 (some .int) 1 := ⟨⟨inG (inT3 (k := 191) rfl) rfl, inG (inT3 (k := 192) rfl) rfl, wi_X8, inG (inT3 (k := 193) rfl) rfl⟩, by decide +kernel⟩
theorem wv_X8_image : WV yX8_image RX8 cX8_image 2 (some .int) 1 := ⟨⟨inG (inT3 (k := 227) rfl) rfl, inG (inT3 (k := 228) rfl) rfl, wi_X8, inG (inT3 (k := 229) rfl) rfl⟩, by decide +kernel⟩
theorem wv_X8_init : WI yX8_init cX8_init 2 none 0 := ⟨⟨inG (inT1 (k := 21) rfl) rfl, wi_X8, inG (inT1 (k := 22) rfl) rfl⟩, by decide +kernel⟩
theorem wv_X8_is : WV yX8_is RX8 cX8_is 2 (some .int) 1 := ⟨⟨inG (inT3 (k := 131) rfl) rfl, inG (inT3 (k := 132) rfl) rfl, wi_X8, inG (inT3 (k := 133) rfl) rfl⟩, by decide +kernel⟩
theorem wv_X8_isChair : WS yX8_isChair cX8_isChair 1 (some .boolean) 1 := ⟨⟨inG (inT3 (k := 79) rfl) rfl, wi_X8, inG (inT3 (k := 80) rfl) rfl⟩, by decide +kernel⟩
theorem wv_X8_isCounsel : WS yX8_isCounsel cX8_isCounsel 1 (some .boolean) 1 := ⟨⟨inG (inT1 (k := 220) rfl) rfl, wi_X8, inG (inT1 (k := 221) rfl) rfl⟩, by decide +kernel⟩
theorem wv_X8_isKind : WS yX8_isKind cX8_isKind 1 (some .boolean) 1 := ⟨⟨inG (inT1 (k := 198) rfl) rfl, wi_X8, inG (inT1 (k := 199) rfl) rfl⟩, by decide +kernel⟩
theorem wv_X8_keepFraction : WV yX8_keepFraction RX8 cX8_keepFraction 12 none 2 := ⟨⟨inG (inT3 (k := 207) rfl) rfl, inG (inS (k := 17) (q := (yX8_keepFraction, 8)) rfl) rfl, wi_X8, inG (inT3 (k := 208) rfl) rfl⟩, by decide +kernel⟩
theorem wv_X8_kinds : WV yX8_kinds RX8 cX8_kinds 2 (some .int) 1 := ⟨⟨inG (inT3 (k := 157) rfl) rfl, inG (inT3 (k := 158) rfl) rfl, wi_X8, inG (inT3 (k := 159) rfl) rfl⟩, by decide +kernel⟩
theorem wv_X8_look : WV yX8_look RX8 cX8_look 2 (some .int) 1 := ⟨⟨inG (inT3 (k := 144) rfl) rfl, inG (inT3 (k := 145) rfl) rfl, wi_X8, inG (inT3 (k := 146) rfl) rfl⟩, by decide +kernel⟩
theorem wv_X8_mark : WV yX8_mark RX8 cX8_mark 5 (some .int) 4 := ⟨⟨inG (inT3 (k := 119) rfl) rfl, inG (inT3 (k := 120) rfl) rfl, wi_X8, inG (inT3 (k := 121) rfl) rfl⟩, by decide +kernel⟩
theorem wv_X8_moves : WV yX8_moves RX8 cX8_moves 3 (some .int) 1 := ⟨⟨inG (inT3 (k := 39) rfl) rfl, inG (inT3 (k := 40) rfl) rfl, wi_X8, inG (inT3 (k := 41) rfl) rfl⟩, by decide +kernel⟩
theorem wv_X8_note : WV yX8_note RX8 cX8_note 6 (some .int) 5 := ⟨⟨inG (inT3 (k := 111) rfl) rfl, inG (inT3 (k := 112) rfl) rfl, wi_X8, inG (inT3 (k := 113) rfl) rfl⟩, by decide +kernel⟩
theorem wv_X8_now : WV yX8_now RX8 cX8_now 3 (some .int) 1 := ⟨⟨inG (inT3 (k := 17) rfl) rfl, inG (inT3 (k := 18) rfl) rfl, wi_X8, inG (inT3 (k := 19) rfl) rfl⟩, by decide +kernel⟩
theorem wv_X8_objects : WV yX8_objects RX8 cX8_objects 1 (some .int) 0 := ⟨⟨inG (inT2 (k := 235) rfl) rfl, inG (inT2 (k := 236) rfl) rfl, wi_X8, inG (inT2 (k := 237) rfl) rfl⟩, by decide +kernel⟩
theorem wv_X8_of : WV yX8_of RX8 cX8_of 4 (some .int) 2 := ⟨⟨inG (inT3 (k := 30) rfl) rfl, inG (inT3 (k := 31) rfl) rfl, wi_X8, inG (inT3 (k := 32) rfl) rfl⟩, by decide +kernel⟩
theorem wv_X8_part : WV yX8_part RX8 cX8_part 2 (some .long) 1 := ⟨⟨inG (inT3 (k := 223) rfl) rfl, inG (inT3 (k := 224) rfl) rfl, wi_X8, inG (inT3 (k := 225) rfl) rfl⟩, by decide +kernel⟩
theorem wv_X8_play : WV yX8_play RX8 cX8_play 2 (some .int) 1 := ⟨⟨inG (inT3 (k := 44) rfl) rfl, inG (inT3 (k := 45) rfl) rfl, wi_X8, inG (inT3 (k := 46) rfl) rfl⟩, by decide +kernel⟩
theorem wv_X8_point : WV yX8_point RX8 cX8_point 5 (some .int) 3 := ⟨⟨inG (inT1 (k := 227) rfl) rfl, inG (inT1 (k := 228) rfl) rfl, wi_X8, inG (inT1 (k := 229) rfl) rfl⟩, by decide +kernel⟩
theorem wv_X8_proof : WV yX8_proof RX8 cX8_proof 2 (some .int) 1 := ⟨⟨inG (inT3 (k := 75) rfl) rfl, inG (inT3 (k := 76) rfl) rfl, wi_X8, inG (inT3 (k := 77) rfl) rfl⟩, by decide +kernel⟩
theorem wv_X8_read : WV yX8_read RX8 cX8_read 2 (some .int) 0 := ⟨⟨inG (inT2 (k := 16) rfl) rfl, inG (inT2 (k := 17) rfl) rfl, wi_X8, inG (inT2 (k := 18) rfl) rfl⟩, by decide +kernel⟩
theorem wv_X8_refuseAsBad : WV yX8_refuseAsBad RX8 cX8_refuseAsBad 2 (some .int) 1 := ⟨⟨inG (inT1 (k := 205) rfl) rfl, inG (inS (k := 0) (q := (yX8_refuseAsBad, 8)) rfl) rfl, wi_X8, inG (inT1 (k := 206) rfl) rfl⟩, by decide +kernel⟩
theorem wv_X8_refuseAsFull : WV yX8_refuseAsFull RX8 cX8_refuseAsFull 1 (some .int) 0 := ⟨⟨inG (inT1 (k := 236) rfl) rfl, inG (inS (k := 1) (q := (yX8_refuseAsFull, 8)) rfl) rfl, wi_X8, inG (inT1 (k := 237) rfl) rfl⟩, by decide +kernel⟩
theorem wv_X8_refuseAsNo : WV yX8_refuseAsNo RX8 cX8_refuseAsNo 2 (some .int) 1 := ⟨⟨inG (inT2 (k := 220) rfl) rfl, inG (inS (k := 14) (q := (yX8_refuseAsNo, 8)) rfl) rfl, wi_X8, inG (inT2 (k := 221) rfl) rfl⟩, by decide +kernel⟩
theorem wv_X8_says : WV yX8_says RX8 cX8_says 3 (some .int) 1 := ⟨⟨inG (inT2 (k := 213) rfl) rfl, inG (inT2 (k := 214) rfl) rfl, wi_X8, inG (inT2 (k := 215) rfl) rfl⟩, by decide +kernel⟩
theorem wv_X8_settle : WV yX8_settle RX8 cX8_settle 5 (some .int) 1 := ⟨⟨inG (inT3 (k := 181) rfl) rfl, inG (inT3 (k := 182) rfl) rfl, wi_X8, inG (inT3 (k := 183) rfl) rfl⟩, by decide +kernel⟩
theorem wv_X8_status : WV yX8_status RX8 cX8_status 2 (some .int) 1 := ⟨⟨inG (inT4 (k := 0) rfl) rfl, inG (inT4 (k := 1) rfl) rfl, wi_X8, inG (inT4 (k := 2) rfl) rfl⟩, by decide +kernel⟩
theorem wv_X8_suit : WV yX8_suit RX8 cX8_suit 4 (some .int) 2 := ⟨⟨inG (inT1 (k := 194) rfl) rfl, inG (inT1 (k := 195) rfl) rfl, wi_X8, inG (inT1 (k := 196) rfl) rfl⟩, by decide +kernel⟩
theorem wv_X8_type : WV yX8_type RX8 cX8_type 2 (some .int) 1 := ⟨⟨inG (inT2 (k := 4) rfl) rfl, inG (inT2 (k := 5) rfl) rfl, wi_X8, inG (inT2 (k := 6) rfl) rfl⟩, by decide +kernel⟩
theorem wv_X8_undo : WV yX8_undo RX8 cX8_undo 1 (some .int) 0 := ⟨⟨inG (inT3 (k := 1) rfl) rfl, inG (inT3 (k := 2) rfl) rfl, wi_X8, inG (inT3 (k := 3) rfl) rfl⟩, by decide +kernel⟩
theorem wv_X8_within : WS yX8_within cX8_within 3 (some .boolean) 3 := ⟨⟨inG (inT1 (k := 201) rfl) rfl, wi_X8, inG (inT1 (k := 202) rfl) rfl⟩, by decide +kernel⟩
theorem wv_X9_about : WV yX9_about RX9 cX9_about 3 (some .int) 2 := ⟨⟨inG (inT4 (k := 228) rfl) rfl, inG (inT4 (k := 229) rfl) rfl, wi_X9, inG (inT4 (k := 230) rfl) rfl⟩, by decide +kernel⟩
theorem wv_X9_ask : WV yX9_ask RX9 cX9_ask 8 (some .int) 1 := ⟨⟨inG (inT5 (k := 122) rfl) rfl, inG (inT5 (k := 123) rfl) rfl, wi_X9, inG (inT5 (k := 124) rfl) rfl⟩, by decide +kernel⟩
theorem wv_X9_bad : WV yX9_bad RX9 cX9_bad 2 (some .int) 1 := ⟨⟨inG (inT4 (k := 137) rfl) rfl, inG (inS (k := 18) (q := (yX9_bad, 28)) rfl) rfl, wi_X9, inG (inT4 (k := 138) rfl) rfl⟩, by decide +kernel⟩
theorem wv_X9_begin : WS yX9_begin cX9_begin 4 none 3 := ⟨⟨inG (inT4 (k := 37) rfl) rfl, wi_X9, inG (inT4 (k := 38) rfl) rfl⟩, by decide +kernel⟩
theorem wv_X9_bits : WS yX9_bits cX9_bits 3 (some .int) 1 := ⟨⟨inG (inT5 (k := 50) rfl) rfl, wi_X9, inG (inT5 (k := 51) rfl) rfl⟩, by decide +kernel⟩
theorem wv_X9_bowed : WV yX9_bowed RX9 cX9_bowed 8 (some .int) 1 := ⟨⟨inG (inT5 (k := 67) rfl) rfl, inG (inT5 (k := 68) rfl) rfl, wi_X9, inG (inT5 (k := 69) rfl) rfl⟩, by decide +kernel⟩
theorem wv_X9_bows : WV yX9_bows RX9 cX9_bows 4 (some .int) 2 := ⟨⟨inG (inT4 (k := 144) rfl) rfl, inG (inT4 (k := 145) rfl) rfl, wi_X9, inG (inT4 (k := 146) rfl) rfl⟩, by decide +kernel⟩
theorem wv_X9_chairOf : WS yX9_chairOf cX9_chairOf 2 (some .int) 2 := ⟨⟨inG (inT4 (k := 191) rfl) rfl, wi_X9, inG (inT4 (k := 192) rfl) rfl⟩, by decide +kernel⟩
theorem wv_X9_choosesAt : WV yX9_choosesAt RX9 cX9_choosesAt 3 (some .boolean) 1 := ⟨⟨inG (inT5 (k := 35) rfl) rfl, inG (inS (k := 36) (q := (yX9_choosesAt, 28)) rfl) rfl, wi_X9, inG (inT5 (k := 36) rfl) rfl⟩, by decide +kernel⟩
theorem wv_X9_clear : WV yX9_clear RX9 cX9_clear 2 (some .int) 0 := ⟨⟨inG (inT5 (k := 164) rfl) rfl, inG (inT5 (k := 165) rfl) rfl, wi_X9, inG (inT5 (k := 166) rfl) rfl⟩, by decide +kernel⟩
theorem wv_X9_count : WV yX9_count RX9 cX9_count 2 (some .int) 1 := ⟨⟨inG (inT6 (k := 6) rfl) rfl, inG (inT6 (k := 7) rfl) rfl, wi_X9, inG (inT6 (k := 8) rfl) rfl⟩, by decide +kernel⟩
theorem wv_X9_counted : WV yX9_counted RX9 cX9_counted 4 (some .int) 1 := ⟨⟨inG (inT6 (k := 12) rfl) rfl, inG (inS (k := 61) (q := (yX9_counted, 28)) rfl) rfl, wi_X9, inG (inT6 (k := 13) rfl) rfl⟩, by decide +kernel⟩
theorem wv_X9_countsAs : WS yX9_countsAs cX9_countsAs 4 (some .int) 3 := ⟨⟨inG (inT4 (k := 197) rfl) rfl, wi_X9, inG (inT4 (k := 198) rfl) rfl⟩, by decide +kernel⟩
theorem wv_X9_countsBy : WV yX9_countsBy RX9 cX9_countsBy 8 (some .int) 4 := ⟨⟨inG (inT4 (k := 188) rfl) rfl, inG (inS (k := 25) (q := (yX9_countsBy, 28)) rfl) rfl, wi_X9, inG (inT4 (k := 189) rfl) rfl⟩, by decide +kernel⟩
theorem wv_X9_days : WV yX9_days RX9 cX9_days 8 (some .int) 2 := ⟨⟨inG (inT5 (k := 149) rfl) rfl, inG (inT5 (k := 150) rfl) rfl, wi_X9, inG (inT5 (k := 151) rfl) rfl⟩, by decide +kernel⟩
theorem wv_X9_digest : WV yX9_digest RX9 cX9_digest 4 (some .long) 0 := ⟨⟨inG (inT6 (k := 15) rfl) rfl, inG (inT6 (k := 16) rfl) rfl, wi_X9, inG (inT6 (k := 17) rfl) rfl⟩, by decide +kernel⟩
theorem wv_X9_ends : WV yX9_ends RX9 cX9_ends 2 (some .int) 1 := ⟨⟨inG (inT5 (k := 61) rfl) rfl, inG (inT5 (k := 62) rfl) rfl, wi_X9, inG (inT5 (k := 63) rfl) rfl⟩, by decide +kernel⟩
theorem wv_X9_forget : WV yX9_forget RX9 cX9_forget 3 (some .int) 1 := ⟨⟨inG (inT5 (k := 94) rfl) rfl, inG (inT5 (k := 95) rfl) rfl, wi_X9, inG (inT5 (k := 96) rfl) rfl⟩, by decide +kernel⟩
theorem wv_X9_fraction : WV yX9_fraction RX9 cX9_fraction 11 none 2 := ⟨⟨inG (inT5 (k := 146) rfl) rfl, inG (inS (k := 48) (q := (yX9_fraction, 28)) rfl) rfl, wi_X9, inG (inT5 (k := 147) rfl) rfl⟩, by decide +kernel⟩
theorem wv_X9_from : WV yX9_from RX9 cX9_from 3 (some .int) 1 := ⟨⟨inG (inT5 (k := 238) rfl) rfl, inG (inT5 (k := 239) rfl) rfl, wi_X9, inG (inT6 (k := 0) rfl) rfl⟩, by decide +kernel⟩
theorem wv_X9_full : WV yX9_full RX9 cX9_full 1 (some .int) 0 := ⟨⟨inG (inT4 (k := 158) rfl) rfl, inG (inS (k := 20) (q := (yX9_full, 28)) rfl) rfl, wi_X9, inG (inT4 (k := 159) rfl) rfl⟩, by decide +kernel⟩
theorem wv_X9_getsBy : WS yX9_getsBy cX9_getsBy 3 (some .int) 3 := ⟨⟨inG (inT5 (k := 133) rfl) rfl, wi_X9, inG (inT5 (k := 134) rfl) rfl⟩, by decide +kernel⟩
theorem wv_X9_goBehind : WV yX9_goBehind RX9 cX9_goBehind 1 none 0 := ⟨⟨inG (inT5 (k := 195) rfl) rfl, inG (inS (k := 52) (q := (yX9_goBehind, 28)) rfl) rfl, wi_X9, inG (inT5 (k := 196) rfl) rfl⟩, by decide +kernel⟩
theorem wv_X9_goObjecting : WV yX9_goObjecting RX9 cX9_goObjecting 1 none 0 := ⟨⟨inG (inT5 (k := 80) rfl) rfl, inG (inS (k := 43) (q := (yX9_goObjecting, 28)) rfl) rfl, wi_X9, inG (inT5 (k := 81) rfl) rfl⟩, by decide +kernel⟩
theorem wv_X9_goObjects : WV yX9_goObjects RX9 cX9_goObjects 1 none 0 := ⟨⟨inG (inT5 (k := 227) rfl) rfl, inG (inS (k := 60) (q := (yX9_goObjects, 28)) rfl) rfl, wi_X9, inG (inT5 (k := 228) rfl) rfl⟩, by decide +kernel⟩
theorem wv_X9_goSaying : WV yX9_goSaying RX9 cX9_goSaying 2 none 1 := ⟨⟨inG (inT5 (k := 58) rfl) rfl, inG (inS (k := 40) (q := (yX9_goSaying, 28)) rfl) rfl, wi_X9, inG (inT5 (k := 59) rfl) rfl⟩, by decide +kernel⟩
theorem wv_X9_goSays : WV yX9_goSays RX9 cX9_goSays 2 none 1 := ⟨⟨inG (inT5 (k := 219) rfl) rfl, inG (inS (k := 58) (q := (yX9_goSays, 28)) rfl) rfl, wi_X9, inG (inT5 (k := 220) rfl) rfl⟩, by decide +kernel⟩
theorem wv_X9_goesAll : WV yX9_goesAll RX9 cX9_goesAll 4 (some .boolean) 1 := ⟨⟨inG (inT5 (k := 72) rfl) rfl, inG (inS (k := 41) (q := (yX9_goesAll, 28)) rfl) rfl, wi_X9, inG (inT5 (k := 73) rfl) rfl⟩, by decide +kernel⟩
theorem wv_X9_has : WS yX9_has cX9_has 2 (some .boolean) 2 := ⟨⟨inG (inT4 (k := 172) rfl) rfl, wi_X9, inG (inT4 (k := 173) rfl) rfl⟩, by decide +kernel⟩
theorem wv_X9_hearings : WV yX9_hearings RX9 cX9_hearings 11 (some .int) 1 := ⟨⟨inG (inT5 (k := 136) rfl) rfl, inG (inT5 (k := 137) rfl) rfl, wi_X9, inG (inT5 (k := 138) rfl) rfl⟩, by decide +kernel⟩
theorem wv_X9_image : WV yX9_image RX9 cX9_image 3 (some .int) 1 := ⟨⟨inG (inT5 (k := 234) rfl) rfl, inG (inT5 (k := 235) rfl) rfl, wi_X9, inG (inT5 (k := 236) rfl) rfl⟩, by decide +kernel⟩
theorem wv_X9_in : WS yX9_in cX9_in 6 (some .boolean) 3 := ⟨⟨inG (inT4 (k := 133) rfl) rfl, wi_X9, inG (inT4 (k := 134) rfl) rfl⟩, by decide +kernel⟩
theorem wv_X9_init : WI yX9_init cX9_init 1 none 0 := ⟨⟨inG (inT4 (k := 33) rfl) rfl, wi_X9, inG (inT4 (k := 34) rfl) rfl⟩, by decide +kernel⟩
theorem wv_X9_is : WV yX9_is RX9 cX9_is 2 (some .int) 1 := ⟨⟨inG (inT5 (k := 98) rfl) rfl, inG (inT5 (k := 99) rfl) rfl, wi_X9, inG (inT5 (k := 100) rfl) rfl⟩, by decide +kernel⟩
theorem wv_X9_isBest : WS yX9_isBest cX9_isBest 5 (some .boolean) 3 := ⟨⟨inG (inT5 (k := 130) rfl) rfl, wi_X9, inG (inT5 (k := 131) rfl) rfl⟩, by decide +kernel⟩
theorem wv_X9_isBetterObjected : WV yX9_isBetterObjected RX9 cX9_isBetterObjected 3 (some .boolean) 0 := ⟨⟨inG (inT5 (k := 43) rfl) rfl, inG (inS (k := 38) (q := (yX9_isBetterObjected, 28)) rfl) rfl, wi_X9, inG (inT5 (k := 44) rfl) rfl⟩, by decide +kernel⟩
theorem wv_X9_isCounsel : WS yX9_isCounsel cX9_isCounsel 1 (some .boolean) 1 := ⟨⟨inG (inT4 (k := 148) rfl) rfl, wi_X9, inG (inT4 (k := 149) rfl) rfl⟩, by decide +kernel⟩
theorem wv_X9_isEnd : WV yX9_isEnd RX9 cX9_isEnd 2 (some .boolean) 1 := ⟨⟨inG (inT5 (k := 27) rfl) rfl, inG (inS (k := 34) (q := (yX9_isEnd, 28)) rfl) rfl, wi_X9, inG (inT5 (k := 28) rfl) rfl⟩, by decide +kernel⟩
theorem wv_X9_isFigure : WS yX9_isFigure cX9_isFigure 1 (some .boolean) 1 := ⟨⟨inG (inT5 (k := 181) rfl) rfl, wi_X9, inG (inT5 (k := 182) rfl) rfl⟩, by decide +kernel⟩
theorem wv_X9_isKind : WS yX9_isKind cX9_isKind 1 (some .boolean) 1 := ⟨⟨inG (inT4 (k := 129) rfl) rfl, wi_X9, inG (inT4 (k := 130) rfl) rfl⟩, by decide +kernel⟩
theorem wv_X9_isPoint : WV yX9_isPoint RX9 cX9_isPoint 2 (some .boolean) 1 := ⟨⟨inG (inT4 (k := 169) rfl) rfl, inG (inS (k := 21) (q := (yX9_isPoint, 28)) rfl) rfl, wi_X9, inG (inT4 (k := 170) rfl) rfl⟩, by decide +kernel⟩
theorem wv_X9_isSmall : WS yX9_isSmall cX9_isSmall 1 (some .boolean) 1 := ⟨⟨inG (inT5 (k := 176) rfl) rfl, wi_X9, inG (inT5 (k := 177) rfl) rfl⟩, by decide +kernel⟩
theorem wv_X9_isWon : WV yX9_isWon RX9 cX9_isWon 1 (some .boolean) 0 := ⟨⟨inG (inT5 (k := 142) rfl) rfl, inG (inS (k := 47) (q := (yX9_isWon, 28)) rfl) rfl, wi_X9, inG (inT5 (k := 143) rfl) rfl⟩, by decide +kernel⟩
theorem wv_X9_kinds : WV yX9_kinds RX9 cX9_kinds 2 (some .int) 1 := ⟨⟨inG (inT5 (k := 106) rfl) rfl, inG (inT5 (k := 107) rfl) rfl, wi_X9, inG (inT5 (k := 108) rfl) rfl⟩, by decide +kernel⟩
theorem wv_X9_kindsOf : WV yX9_kindsOf RX9 cX9_kindsOf 7 (some .int) 1 := ⟨⟨inG (inT5 (k := 103) rfl) rfl, inG (inS (k := 44) (q := (yX9_kindsOf, 28)) rfl) rfl, wi_X9, inG (inT5 (k := 104) rfl) rfl⟩, by decide +kernel⟩
theorem wv_X9_kindsOfCounsel : WV yX9_kindsOfCounsel RX9 cX9_kindsOfCounsel 7 (some .int) 1 := ⟨⟨inG (inT5 (k := 111) rfl) rfl, inG (inS (k := 45) (q := (yX9_kindsOfCounsel, 28)) rfl) rfl, wi_X9, inG (inT5 (k := 112) rfl) rfl⟩, by decide +kernel⟩
theorem wv_X9_layFirst : WV yX9_layFirst RX9 cX9_layFirst 2 none 1 := ⟨⟨inG (inT5 (k := 10) rfl) rfl, inG (inS (k := 31) (q := (yX9_layFirst, 28)) rfl) rfl, wi_X9, inG (inT5 (k := 11) rfl) rfl⟩, by decide +kernel⟩
theorem wv_X9_layLevel : WV yX9_layLevel RX9 cX9_layLevel 3 none 2 := ⟨⟨inG (inT5 (k := 39) rfl) rfl, inG (inS (k := 37) (q := (yX9_layLevel, 28)) rfl) rfl, wi_X9, inG (inT5 (k := 40) rfl) rfl⟩, by decide +kernel⟩
theorem wv_X9_layNow : WV yX9_layNow RX9 cX9_layNow 1 none 0 := ⟨⟨inG (inT5 (k := 54) rfl) rfl, inG (inS (k := 39) (q := (yX9_layNow, 28)) rfl) rfl, wi_X9, inG (inT5 (k := 55) rfl) rfl⟩, by decide +kernel⟩
theorem wv_X9_layPoint : WS yX9_layPoint cX9_layPoint 5 none 4 := ⟨⟨inG (inT4 (k := 161) rfl) rfl, wi_X9, inG (inT4 (k := 162) rfl) rfl⟩, by decide +kernel⟩
theorem wv_X9_look : WV yX9_look RX9 cX9_look 8 (some .int) 1 := ⟨⟨inG (inT5 (k := 114) rfl) rfl, inG (inT5 (k := 115) rfl) rfl, wi_X9, inG (inT5 (k := 116) rfl) rfl⟩, by decide +kernel⟩
theorem wv_X9_lookAt : WV yX9_lookAt RX9 cX9_lookAt 5 none 1 := ⟨⟨inG (inT5 (k := 173) rfl) rfl, inG (inS (k := 49) (q := (yX9_lookAt, 28)) rfl) rfl, wi_X9, inG (inT5 (k := 174) rfl) rfl⟩, by decide +kernel⟩
theorem wv_X9_many : WV yX9_many RX9 cX9_many 1 (some .int) 0 := ⟨⟨inG (inT4 (k := 141) rfl) rfl, inG (inS (k := 19) (q := (yX9_many, 28)) rfl) rfl, wi_X9, inG (inT4 (k := 142) rfl) rfl⟩, by decide +kernel⟩
theorem wv_X9_mark : WV yX9_mark RX9 cX9_mark 6 (some .int) 4 := ⟨⟨inG (inT5 (k := 88) rfl) rfl, inG (inT5 (k := 89) rfl) rfl, wi_X9, inG (inT5 (k := 90) rfl) rfl⟩, by decide +kernel⟩
theorem wv_X9_may : WV yX9_may RX9 cX9_may 2 (some .boolean) 0 := ⟨⟨inG (inT4 (k := 205) rfl) rfl, inG (inS (k := 26) (q := (yX9_may, 28)) rfl) rfl, wi_X9, inG (inT4 (k := 206) rfl) rfl⟩, by decide +kernel⟩
theorem wv_X9_mayAt : WV yX9_mayAt RX9 cX9_mayAt 3 (some .boolean) 1 := ⟨⟨inG (inT5 (k := 31) rfl) rfl, inG (inS (k := 35) (q := (yX9_mayAt, 28)) rfl) rfl, wi_X9, inG (inT5 (k := 32) rfl) rfl⟩, by decide +kernel⟩
theorem wv_X9_mayTo : WV yX9_mayTo RX9 cX9_mayTo 2 (some .boolean) 1 := ⟨⟨inG (inT5 (k := 76) rfl) rfl, inG (inS (k := 42) (q := (yX9_mayTo, 28)) rfl) rfl, wi_X9, inG (inT5 (k := 77) rfl) rfl⟩, by decide +kernel⟩
theorem wv_X9_meritBy : WV yX9_meritBy RX9 cX9_meritBy 7 (some .int) 4 := ⟨⟨inG (inT4 (k := 184) rfl) rfl, inG (inS (k := 24) (q := (yX9_meritBy, 28)) rfl) rfl, wi_X9, inG (inT4 (k := 185) rfl) rfl⟩, by decide +kernel⟩
theorem wv_X9_mostAlike : WV yX9_mostAlike RX9 cX9_mostAlike 6 (some .int) 1 := ⟨⟨inG (inT5 (k := 119) rfl) rfl, inG (inS (k := 46) (q := (yX9_mostAlike, 28)) rfl) rfl, wi_X9, inG (inT5 (k := 120) rfl) rfl⟩, by decide +kernel⟩
theorem wv_X9_moves : WV yX9_moves RX9 cX9_moves 2 (some .int) 1 := ⟨⟨inG (inT4 (k := 233) rfl) rfl, inG (inT4 (k := 234) rfl) rfl, wi_X9, inG (inT4 (k := 235) rfl) rfl⟩, by decide +kernel⟩
theorem wv_X9_movesAs : WS yX9_movesAs cX9_movesAs 6 (some .int) 4 := ⟨⟨inG (inT4 (k := 194) rfl) rfl, wi_X9, inG (inT4 (k := 195) rfl) rfl⟩, by decide +kernel⟩
theorem wv_X9_no : WV yX9_no RX9 cX9_no 2 (some .int) 1 := ⟨⟨inG (inT4 (k := 176) rfl) rfl, inG (inS (k := 22) (q := (yX9_no, 28)) rfl) rfl, wi_X9, inG (inT4 (k := 177) rfl) rfl⟩, by decide +kernel⟩
theorem wv_X9_note : WV yX9_note RX9 cX9_note 7 (some .int) 5 := ⟨⟨inG (inT5 (k := 83) rfl) rfl, inG (inT5 (k := 84) rfl) rfl, wi_X9, inG (inT5 (k := 85) rfl) rfl⟩, by decide +kernel⟩
theorem wv_X9_now : WV yX9_now RX9 cX9_now 2 (some .int) 1 := ⟨⟨inG (inT4 (k := 212) rfl) rfl, inG (inT4 (k := 213) rfl) rfl, wi_X9, inG (inT4 (k := 214) rfl) rfl⟩, by decide +kernel⟩
theorem wv_X9_objects : WV yX9_objects RX9 cX9_objects 1 (some .int) 0 := ⟨⟨inG (inT4 (k := 200) rfl) rfl, inG (inT4 (k := 201) rfl) rfl, wi_X9, inG (inT4 (k := 202) rfl) rfl⟩, by decide +kernel⟩
theorem wv_X9_of : WV yX9_of RX9 cX9_of 3 (some .int) 2 := ⟨⟨inG (inT4 (k := 224) rfl) rfl, inG (inT4 (k := 225) rfl) rfl, wi_X9, inG (inT4 (k := 226) rfl) rfl⟩, by decide +kernel⟩
theorem wv_X9_open : WV yX9_open RX9 cX9_open 1 (some .int) 0 := ⟨⟨inG (inT4 (k := 221) rfl) rfl, inG (inS (k := 28) (q := (yX9_open, 28)) rfl) rfl, wi_X9, inG (inT4 (k := 222) rfl) rfl⟩, by decide +kernel⟩
theorem wv_X9_openLevel : WV yX9_openLevel RX9 cX9_openLevel 2 none 1 := ⟨⟨inG (inT5 (k := 14) rfl) rfl, inG (inS (k := 32) (q := (yX9_openLevel, 28)) rfl) rfl, wi_X9, inG (inT5 (k := 15) rfl) rfl⟩, by decide +kernel⟩
theorem wv_X9_part : WV yX9_part RX9 cX9_part 2 (some .long) 1 := ⟨⟨inG (inT5 (k := 230) rfl) rfl, inG (inT5 (k := 231) rfl) rfl, wi_X9, inG (inT5 (k := 232) rfl) rfl⟩, by decide +kernel⟩
theorem wv_X9_play : WV yX9_play RX9 cX9_play 3 (some .int) 1 := ⟨⟨inG (inT4 (k := 237) rfl) rfl, inG (inT4 (k := 238) rfl) rfl, wi_X9, inG (inT4 (k := 239) rfl) rfl⟩, by decide +kernel⟩
theorem wv_X9_playIs : WV yX9_playIs RX9 cX9_playIs 4 (some .int) 0 := ⟨⟨inG (inT5 (k := 2) rfl) rfl, inG (inS (k := 29) (q := (yX9_playIs, 28)) rfl) rfl, wi_X9, inG (inT5 (k := 3) rfl) rfl⟩, by decide +kernel⟩
theorem wv_X9_point : WV yX9_point RX9 cX9_point 4 (some .int) 3 := ⟨⟨inG (inT4 (k := 152) rfl) rfl, inG (inT4 (k := 153) rfl) rfl, wi_X9, inG (inT4 (k := 154) rfl) rfl⟩, by decide +kernel⟩
theorem wv_X9_proof : WV yX9_proof RX9 cX9_proof 6 (some .int) 1 := ⟨⟨inG (inT5 (k := 46) rfl) rfl, inG (inT5 (k := 47) rfl) rfl, wi_X9, inG (inT5 (k := 48) rfl) rfl⟩, by decide +kernel⟩
theorem wv_X9_read : WV yX9_read RX9 cX9_read 3 (some .int) 0 := ⟨⟨inG (inT5 (k := 168) rfl) rfl, inG (inT5 (k := 169) rfl) rfl, wi_X9, inG (inT5 (k := 170) rfl) rfl⟩, by decide +kernel⟩
theorem wv_X9_readInto : WV yX9_readInto RX9 cX9_readInto 2 (some .int) 0 := ⟨⟨inG (inT5 (k := 191) rfl) rfl, inG (inS (k := 51) (q := (yX9_readInto, 28)) rfl) rfl, wi_X9, inG (inT5 (k := 192) rfl) rfl⟩, by decide +kernel⟩
theorem wv_X9_save : WV yX9_save RX9 cX9_save 2 none 0 := ⟨⟨inG (inT4 (k := 180) rfl) rfl, inG (inS (k := 23) (q := (yX9_save, 28)) rfl) rfl, wi_X9, inG (inT4 (k := 181) rfl) rfl⟩, by decide +kernel⟩
theorem wv_X9_says : WV yX9_says RX9 cX9_says 2 (some .int) 1 := ⟨⟨inG (inT4 (k := 164) rfl) rfl, inG (inT4 (k := 165) rfl) rfl, wi_X9, inG (inT4 (k := 166) rfl) rfl⟩, by decide +kernel⟩
theorem wv_X9_settle : WV yX9_settle RX9 cX9_settle 5 (some .int) 1 := ⟨⟨inG (inT5 (k := 126) rfl) rfl, inG (inT5 (k := 127) rfl) rfl, wi_X9, inG (inT5 (k := 128) rfl) rfl⟩, by decide +kernel⟩
theorem wv_X9_solve : WV yX9_solve RX9 cX9_solve 5 (some .int) 0 := ⟨⟨inG (inT5 (k := 23) rfl) rfl, inG (inS (k := 33) (q := (yX9_solve, 28)) rfl) rfl, wi_X9, inG (inT5 (k := 24) rfl) rfl⟩, by decide +kernel⟩
theorem wv_X9_solveBy : WV yX9_solveBy RX9 cX9_solveBy 2 (some .int) 1 := ⟨⟨inG (inT5 (k := 6) rfl) rfl, inG (inS (k := 30) (q := (yX9_solveBy, 28)) rfl) rfl, wi_X9, inG (inT5 (k := 7) rfl) rfl⟩, by decide +kernel⟩
theorem wv_X9_spells : WV yX9_spells RX9 cX9_spells 10 (some .boolean) 7 := ⟨⟨inG (inT5 (k := 187) rfl) rfl, inG (inS (k := 50) (q := (yX9_spells, 28)) rfl) rfl, wi_X9, inG (inT5 (k := 188) rfl) rfl⟩, by decide +kernel⟩
theorem wv_X9_status : WV yX9_status RX9 cX9_status 2 (some .int) 1 := ⟨⟨inG (inT6 (k := 2) rfl) rfl, inG (inT6 (k := 3) rfl) rfl, wi_X9, inG (inT6 (k := 4) rfl) rfl⟩, by decide +kernel⟩
theorem wv_X9_suit : WV yX9_suit RX9 cX9_suit 4 (some .int) 2 := ⟨⟨inG (inT4 (k := 125) rfl) rfl, inG (inT4 (k := 126) rfl) rfl, wi_X9, inG (inT4 (k := 127) rfl) rfl⟩, by decide +kernel⟩
theorem wv_X9_sums : WV yX9_sums RX9 cX9_sums 8 (some .long) 3 := ⟨⟨inG (inT6 (k := 22) rfl) rfl, inG (inS (k := 62) (q := (yX9_sums, 28)) rfl) rfl, wi_X9, inG (inT6 (k := 23) rfl) rfl⟩, by decide +kernel⟩
theorem wv_X9_takes : WV yX9_takes RX9 cX9_takes 4 (some .boolean) 3 := ⟨⟨inG (inT5 (k := 199) rfl) rfl, inG (inS (k := 53) (q := (yX9_takes, 28)) rfl) rfl, wi_X9, inG (inT5 (k := 200) rfl) rfl⟩, by decide +kernel⟩
theorem wv_X9_takesBows : WV yX9_takesBows RX9 cX9_takesBows 1 (some .boolean) 0 := ⟨⟨inG (inT5 (k := 207) rfl) rfl, inG (inS (k := 55) (q := (yX9_takesBows, 28)) rfl) rfl, wi_X9, inG (inT5 (k := 208) rfl) rfl⟩, by decide +kernel⟩
theorem wv_X9_takesItem : WV yX9_takesItem RX9 cX9_takesItem 1 (some .boolean) 0 := ⟨⟨inG (inT5 (k := 203) rfl) rfl, inG (inS (k := 54) (q := (yX9_takesItem, 28)) rfl) rfl, wi_X9, inG (inT5 (k := 204) rfl) rfl⟩, by decide +kernel⟩
theorem wv_X9_takesObjecting : WV yX9_takesObjecting RX9 cX9_takesObjecting 1 (some .boolean) 0 := ⟨⟨inG (inT5 (k := 223) rfl) rfl, inG (inS (k := 59) (q := (yX9_takesObjecting, 28)) rfl) rfl, wi_X9, inG (inT5 (k := 224) rfl) rfl⟩, by decide +kernel⟩
theorem wv_X9_takesPoint : WV yX9_takesPoint RX9 cX9_takesPoint 1 (some .boolean) 0 := ⟨⟨inG (inT5 (k := 211) rfl) rfl, inG (inS (k := 56) (q := (yX9_takesPoint, 28)) rfl) rfl, wi_X9, inG (inT5 (k := 212) rfl) rfl⟩, by decide +kernel⟩
theorem wv_X9_takesSaying : WV yX9_takesSaying RX9 cX9_takesSaying 1 (some .boolean) 0 := ⟨⟨inG (inT5 (k := 215) rfl) rfl, inG (inS (k := 57) (q := (yX9_takesSaying, 28)) rfl) rfl, wi_X9, inG (inT5 (k := 216) rfl) rfl⟩, by decide +kernel⟩
theorem wv_X9_toldNow : WV yX9_toldNow RX9 cX9_toldNow 2 (some .int) 1 := ⟨⟨inG (inT4 (k := 217) rfl) rfl, inG (inS (k := 27) (q := (yX9_toldNow, 28)) rfl) rfl, wi_X9, inG (inT4 (k := 218) rfl) rfl⟩, by decide +kernel⟩
theorem wv_X9_type : WV yX9_type RX9 cX9_type 2 (some .int) 1 := ⟨⟨inG (inT5 (k := 159) rfl) rfl, inG (inT5 (k := 160) rfl) rfl, wi_X9, inG (inT5 (k := 161) rfl) rfl⟩, by decide +kernel⟩
theorem wv_X9_undo : WV yX9_undo RX9 cX9_undo 2 (some .int) 0 := ⟨⟨inG (inT4 (k := 208) rfl) rfl, inG (inT4 (k := 209) rfl) rfl, wi_X9, inG (inT4 (k := 210) rfl) rfl⟩, by decide +kernel⟩
theorem wv_X9_worstOf : WS yX9_worstOf cX9_worstOf 1 (some .int) 1 := ⟨⟨inG (inT5 (k := 17) rfl) rfl, wi_X9, inG (inT5 (k := 18) rfl) rfl⟩, by decide +kernel⟩
