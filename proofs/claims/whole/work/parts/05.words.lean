theorem ok_s {w : Cond} (hm : w ∈ tables_1) (hg : goodWord w = true) : w ∈ lw_ok := List.mem_filter.mpr ⟨List.mem_append_right _ hm, hg⟩
theorem ok_t1 {i : Nat} {w : Cond} (h : tables_1_1[i]? = some w ∧ goodWord w = true) : w ∈ lw_ok := ok_s (List.mem_append_left _ (List.mem_of_getElem? h.1)) h.2
theorem ok_t2 {i : Nat} {w : Cond} (h : tables_1_2[i]? = some w ∧ goodWord w = true) : w ∈ lw_ok := ok_s (List.mem_append_right _ (List.mem_append_left _ (List.mem_of_getElem? h.1))) h.2
theorem ok_t3 {i : Nat} {w : Cond} (h : tables_1_3[i]? = some w ∧ goodWord w = true) : w ∈ lw_ok := ok_s (List.mem_append_right _ (List.mem_append_right _ (List.mem_append_left _ (List.mem_of_getElem? h.1)))) h.2
theorem ok_t4 {i : Nat} {w : Cond} (h : tables_1_4[i]? = some w ∧ goodWord w = true) : w ∈ lw_ok := ok_s (List.mem_append_right _ (List.mem_append_right _ (List.mem_append_right _ (List.mem_append_left _ (List.mem_of_getElem? h.1))))) h.2
theorem ok_t5 {i : Nat} {w : Cond} (h : tables_1_5[i]? = some w ∧ goodWord w = true) : w ∈ lw_ok := ok_s (List.mem_append_right _ (List.mem_append_right _ (List.mem_append_right _ (List.mem_append_right _ (List.mem_append_left _ (List.mem_of_getElem? h.1)))))) h.2
theorem ok_t6 {i : Nat} {w : Cond} (h : tables_1_6[i]? = some w ∧ goodWord w = true) : w ∈ lw_ok := ok_s (List.mem_append_right _ (List.mem_append_right _ (List.mem_append_right _ (List.mem_append_right _ (List.mem_append_right _ (List.mem_of_getElem? h.1)))))) h.2
theorem ok_pq {i : Nat} {w : Cond} (h : (k2_sels lw_privs)[i]? = some w ∧ goodWord w = true) : w ∈ lw_ok := ok_pv h.1 h.2
theorem kw652 : Cond.fieldLink RX0 15 "TruePiece$Cutter" "demands" "LTruePiece$Demands;" ∈ lw_ok := ok_t3 (i := 172) ⟨rfl, rfl⟩
theorem fX0_15 : FL RX0 15 0 1 := ⟨⟨by decide, by decide⟩, kw652⟩
theorem kw653 : Cond.fieldLink RX0 19 "TruePiece$Cutter" "gone" "I" ∈ lw_ok := ok_t3 (i := 173) ⟨rfl, rfl⟩
theorem fX0_19 : FL RX0 19 0 2 := ⟨⟨by decide, by decide⟩, kw653⟩
theorem kw654 : Cond.fieldLink RX0 23 "TruePiece$Cutter" "kept" "I" ∈ lw_ok := ok_t3 (i := 174) ⟨rfl, rfl⟩
theorem fX0_23 : FL RX0 23 0 3 := ⟨⟨by decide, by decide⟩, kw654⟩
theorem kw153 : Cond.fieldLink RX0 26 "TruePiece$Store" "rows" "I" ∈ lw_ok := ok_t1 (i := 153) ⟨rfl, rfl⟩
theorem fX0_26 : FL RX0 26 2 6 := ⟨⟨by decide, by decide⟩, kw153⟩
theorem kw171 : Cond.fieldLink RX0 35 "TruePiece$Store" "links" "[I" ∈ lw_ok := ok_t1 (i := 171) ⟨rfl, rfl⟩
theorem fX0_35 : FL RX0 35 2 11 := ⟨⟨by decide, by decide⟩, kw171⟩
theorem kw212 : Cond.fieldLink RX0 39 "TruePiece$Demands" "bonds" "I" ∈ lw_ok := ok_t1 (i := 212) ⟨rfl, rfl⟩
theorem fX0_39 : FL RX0 39 1 4 := ⟨⟨by decide, by decide⟩, kw212⟩
theorem kw217 : Cond.fieldLink RX0 44 "TruePiece$Demands" "helpers" "[I" ∈ lw_ok := ok_t1 (i := 217) ⟨rfl, rfl⟩
theorem fX0_44 : FL RX0 44 1 7 := ⟨⟨by decide, by decide⟩, kw217⟩
theorem kw215 : Cond.fieldLink RX0 56 "TruePiece$Demands" "needs" "[I" ∈ lw_ok := ok_t1 (i := 215) ⟨rfl, rfl⟩
theorem fX0_56 : FL RX0 56 1 6 := ⟨⟨by decide, by decide⟩, kw215⟩
theorem kw656 : Cond.fieldLink RX0 67 "TruePiece$Cutter" "rowsMost" "I" ∈ lw_ok := ok_t3 (i := 176) ⟨rfl, rfl⟩
theorem fX0_67 : FL RX0 67 0 5 := ⟨⟨by decide, by decide⟩, kw656⟩
theorem kw655 : Cond.fieldLink RX0 70 "TruePiece$Cutter" "changesMost" "I" ∈ lw_ok := ok_t3 (i := 175) ⟨rfl, rfl⟩
theorem fX0_70 : FL RX0 70 0 4 := ⟨⟨by decide, by decide⟩, kw655⟩
theorem kw651 : Cond.fieldLink RX0 9 "TruePiece$Cutter" "store" "LTruePiece$Store;" ∈ lw_ok := ok_t3 (i := 171) ⟨rfl, rfl⟩
theorem fX0_9 : FL RX0 9 0 0 := ⟨⟨by decide, by decide⟩, kw651⟩
theorem kw207 : Cond.fieldLink RX1 15 "TruePiece$Demands" "tables" "[I" ∈ lw_ok := ok_t1 (i := 207) ⟨rfl, rfl⟩
theorem fX1_15 : FL RX1 15 1 2 := ⟨⟨by decide, by decide⟩, kw207⟩
theorem kw209 : Cond.fieldLink RX1 19 "TruePiece$Demands" "fitting" "[I" ∈ lw_ok := ok_t1 (i := 209) ⟨rfl, rfl⟩
theorem fX1_19 : FL RX1 19 1 3 := ⟨⟨by decide, by decide⟩, kw209⟩
theorem kw213 : Cond.fieldLink RX1 22 "TruePiece$Demands" "owners" "[I" ∈ lw_ok := ok_t1 (i := 213) ⟨rfl, rfl⟩
theorem fX1_22 : FL RX1 22 1 5 := ⟨⟨by decide, by decide⟩, kw213⟩
theorem kw214 : Cond.fieldLink RX1 25 "TruePiece$Demands" "needs" "[I" ∈ lw_ok := ok_t1 (i := 214) ⟨rfl, rfl⟩
theorem fX1_25 : FL RX1 25 1 6 := ⟨⟨by decide, by decide⟩, kw214⟩
theorem kw216 : Cond.fieldLink RX1 28 "TruePiece$Demands" "helpers" "[I" ∈ lw_ok := ok_t1 (i := 216) ⟨rfl, rfl⟩
theorem fX1_28 : FL RX1 28 1 7 := ⟨⟨by decide, by decide⟩, kw216⟩
theorem kw204 : Cond.fieldLink RX1 31 "TruePiece$Demands" "count" "I" ∈ lw_ok := ok_t1 (i := 204) ⟨rfl, rfl⟩
theorem fX1_31 : FL RX1 31 1 0 := ⟨⟨by decide, by decide⟩, kw204⟩
theorem kw211 : Cond.fieldLink RX1 35 "TruePiece$Demands" "bonds" "I" ∈ lw_ok := ok_t1 (i := 211) ⟨rfl, rfl⟩
theorem fX1_35 : FL RX1 35 1 4 := ⟨⟨by decide, by decide⟩, kw211⟩
theorem kw156 : Cond.fieldLink RX1 46 "TruePiece$Store" "rows" "I" ∈ lw_ok := ok_t1 (i := 156) ⟨rfl, rfl⟩
theorem fX1_46 : FL RX1 46 2 6 := ⟨⟨by decide, by decide⟩, kw156⟩
theorem kw159 : Cond.fieldLink RX1 51 "TruePiece$Store" "rowTable" "[I" ∈ lw_ok := ok_t1 (i := 159) ⟨rfl, rfl⟩
theorem fX1_51 : FL RX1 51 2 7 := ⟨⟨by decide, by decide⟩, kw159⟩
theorem kw206 : Cond.fieldLink RX1 9 "TruePiece$Demands" "laws" "[Z" ∈ lw_ok := ok_t1 (i := 206) ⟨rfl, rfl⟩
theorem fX1_9 : FL RX1 9 1 1 := ⟨⟨by decide, by decide⟩, kw206⟩
theorem kw142 : Cond.fieldLink RX2 15 "TruePiece$Store" "columns" "[I" ∈ lw_ok := ok_t1 (i := 142) ⟨rfl, rfl⟩
theorem fX2_15 : FL RX2 15 2 2 := ⟨⟨by decide, by decide⟩, kw142⟩
theorem kw145 : Cond.fieldLink RX2 19 "TruePiece$Store" "tableRows" "[I" ∈ lw_ok := ok_t1 (i := 145) ⟨rfl, rfl⟩
theorem fX2_19 : FL RX2 19 2 3 := ⟨⟨by decide, by decide⟩, kw145⟩
theorem kw148 : Cond.fieldLink RX2 22 "TruePiece$Store" "columnNames" "[J" ∈ lw_ok := ok_t1 (i := 148) ⟨rfl, rfl⟩
theorem fX2_22 : FL RX2 22 2 4 := ⟨⟨by decide, by decide⟩, kw148⟩
theorem kw150 : Cond.fieldLink RX2 25 "TruePiece$Store" "targets" "[I" ∈ lw_ok := ok_t1 (i := 150) ⟨rfl, rfl⟩
theorem fX2_25 : FL RX2 25 2 5 := ⟨⟨by decide, by decide⟩, kw150⟩
theorem kw158 : Cond.fieldLink RX2 28 "TruePiece$Store" "rowTable" "[I" ∈ lw_ok := ok_t1 (i := 158) ⟨rfl, rfl⟩
theorem fX2_28 : FL RX2 28 2 7 := ⟨⟨by decide, by decide⟩, kw158⟩
theorem kw163 : Cond.fieldLink RX2 31 "TruePiece$Store" "rowNumber" "[I" ∈ lw_ok := ok_t1 (i := 163) ⟨rfl, rfl⟩
theorem fX2_31 : FL RX2 31 2 8 := ⟨⟨by decide, by decide⟩, kw163⟩
theorem kw166 : Cond.fieldLink RX2 34 "TruePiece$Store" "cells" "[I" ∈ lw_ok := ok_t1 (i := 166) ⟨rfl, rfl⟩
theorem fX2_34 : FL RX2 34 2 9 := ⟨⟨by decide, by decide⟩, kw166⟩
theorem kw168 : Cond.fieldLink RX2 37 "TruePiece$Store" "places" "[I" ∈ lw_ok := ok_t1 (i := 168) ⟨rfl, rfl⟩
theorem fX2_37 : FL RX2 37 2 10 := ⟨⟨by decide, by decide⟩, kw168⟩
theorem kw170 : Cond.fieldLink RX2 40 "TruePiece$Store" "links" "[I" ∈ lw_ok := ok_t1 (i := 170) ⟨rfl, rfl⟩
theorem fX2_40 : FL RX2 40 2 11 := ⟨⟨by decide, by decide⟩, kw170⟩
theorem kw137 : Cond.fieldLink RX2 43 "TruePiece$Store" "tables" "I" ∈ lw_ok := ok_t1 (i := 137) ⟨rfl, rfl⟩
theorem fX2_43 : FL RX2 43 2 0 := ⟨⟨by decide, by decide⟩, kw137⟩
theorem kw152 : Cond.fieldLink RX2 47 "TruePiece$Store" "rows" "I" ∈ lw_ok := ok_t1 (i := 152) ⟨rfl, rfl⟩
theorem fX2_47 : FL RX2 47 2 6 := ⟨⟨by decide, by decide⟩, kw152⟩
theorem kw140 : Cond.fieldLink RX2 9 "TruePiece$Store" "tableNames" "[J" ∈ lw_ok := ok_t1 (i := 140) ⟨rfl, rfl⟩
theorem fX2_9 : FL RX2 9 2 1 := ⟨⟨by decide, by decide⟩, kw140⟩
theorem kw151 : Cond.fieldLink RX3 106 "TruePiece$Store" "targets" "[I" ∈ lw_ok := ok_t1 (i := 151) ⟨rfl, rfl⟩
theorem fX3_106 : FL RX3 106 2 5 := ⟨⟨by decide, by decide⟩, kw151⟩
theorem kw160 : Cond.fieldLink RX3 116 "TruePiece$Store" "rowTable" "[I" ∈ lw_ok := ok_t1 (i := 160) ⟨rfl, rfl⟩
theorem fX3_116 : FL RX3 116 2 7 := ⟨⟨by decide, by decide⟩, kw160⟩
theorem kw164 : Cond.fieldLink RX3 119 "TruePiece$Store" "rowNumber" "[I" ∈ lw_ok := ok_t1 (i := 164) ⟨rfl, rfl⟩
theorem fX3_119 : FL RX3 119 2 8 := ⟨⟨by decide, by decide⟩, kw164⟩
theorem kw95 : Cond.fieldLink RX3 132 "TruePiece$Tape" "number" "I" ∈ lw_ok := ok_t1 (i := 95) ⟨rfl, rfl⟩
theorem fX3_132 : FL RX3 132 4 7 := ⟨⟨by decide, by decide⟩, kw95⟩
theorem kw169 : Cond.fieldLink RX3 135 "TruePiece$Store" "places" "[I" ∈ lw_ok := ok_t1 (i := 169) ⟨rfl, rfl⟩
theorem fX3_135 : FL RX3 135 2 10 := ⟨⟨by decide, by decide⟩, kw169⟩
theorem kw167 : Cond.fieldLink RX3 138 "TruePiece$Store" "cells" "[I" ∈ lw_ok := ok_t1 (i := 167) ⟨rfl, rfl⟩
theorem fX3_138 : FL RX3 138 2 9 := ⟨⟨by decide, by decide⟩, kw167⟩
theorem kw305 : Cond.fieldLink RX3 15 "TruePiece$StoreReader" "store" "LTruePiece$Store;" ∈ lw_ok := ok_t2 (i := 65) ⟨rfl, rfl⟩
theorem fX3_15 : FL RX3 15 3 1 := ⟨⟨by decide, by decide⟩, kw305⟩
theorem kw101 : Cond.fieldLink RX3 30 "TruePiece$Tape" "fault" "I" ∈ lw_ok := ok_t1 (i := 101) ⟨rfl, rfl⟩
theorem fX3_30 : FL RX3 30 4 9 := ⟨⟨by decide, by decide⟩, kw101⟩
theorem kw89 : Cond.fieldLink RX3 34 "TruePiece$Tape" "kind" "I" ∈ lw_ok := ok_t1 (i := 89) ⟨rfl, rfl⟩
theorem fX3_34 : FL RX3 34 4 5 := ⟨⟨by decide, by decide⟩, kw89⟩
theorem kw138 : Cond.fieldLink RX3 37 "TruePiece$Store" "tables" "I" ∈ lw_ok := ok_t1 (i := 138) ⟨rfl, rfl⟩
theorem fX3_37 : FL RX3 37 2 0 := ⟨⟨by decide, by decide⟩, kw138⟩
theorem kw154 : Cond.fieldLink RX3 44 "TruePiece$Store" "rows" "I" ∈ lw_ok := ok_t1 (i := 154) ⟨rfl, rfl⟩
theorem fX3_44 : FL RX3 44 2 6 := ⟨⟨by decide, by decide⟩, kw154⟩
theorem kw97 : Cond.fieldLink RX3 62 "TruePiece$Tape" "word" "J" ∈ lw_ok := ok_t1 (i := 97) ⟨rfl, rfl⟩
theorem fX3_62 : FL RX3 62 4 8 := ⟨⟨by decide, by decide⟩, kw97⟩
theorem kw91 : Cond.fieldLink RX3 70 "TruePiece$Tape" "start" "I" ∈ lw_ok := ok_t1 (i := 91) ⟨rfl, rfl⟩
theorem fX3_70 : FL RX3 70 4 6 := ⟨⟨by decide, by decide⟩, kw91⟩
theorem kw141 : Cond.fieldLink RX3 81 "TruePiece$Store" "tableNames" "[J" ∈ lw_ok := ok_t1 (i := 141) ⟨rfl, rfl⟩
theorem fX3_81 : FL RX3 81 2 1 := ⟨⟨by decide, by decide⟩, kw141⟩
theorem kw143 : Cond.fieldLink RX3 85 "TruePiece$Store" "columns" "[I" ∈ lw_ok := ok_t1 (i := 143) ⟨rfl, rfl⟩
theorem fX3_85 : FL RX3 85 2 2 := ⟨⟨by decide, by decide⟩, kw143⟩
theorem kw146 : Cond.fieldLink RX3 89 "TruePiece$Store" "tableRows" "[I" ∈ lw_ok := ok_t1 (i := 146) ⟨rfl, rfl⟩
theorem fX3_89 : FL RX3 89 2 3 := ⟨⟨by decide, by decide⟩, kw146⟩
theorem kw304 : Cond.fieldLink RX3 9 "TruePiece$StoreReader" "tape" "LTruePiece$Tape;" ∈ lw_ok := ok_t2 (i := 64) ⟨rfl, rfl⟩
theorem fX3_9 : FL RX3 9 3 0 := ⟨⟨by decide, by decide⟩, kw304⟩
theorem kw149 : Cond.fieldLink RX3 99 "TruePiece$Store" "columnNames" "[J" ∈ lw_ok := ok_t1 (i := 149) ⟨rfl, rfl⟩
theorem fX3_99 : FL RX3 99 2 4 := ⟨⟨by decide, by decide⟩, kw149⟩
theorem kw83 : Cond.fieldLink RX4 15 "TruePiece$Tape" "reserved" "[J" ∈ lw_ok := ok_t1 (i := 83) ⟨rfl, rfl⟩
theorem fX4_15 : FL RX4 15 4 1 := ⟨⟨by decide, by decide⟩, kw83⟩
theorem kw86 : Cond.fieldLink RX4 21 "TruePiece$Tape" "signs" "Ljava/lang/String;" ∈ lw_ok := ok_t1 (i := 86) ⟨rfl, rfl⟩
theorem fX4_21 : FL RX4 21 4 3 := ⟨⟨by decide, by decide⟩, kw86⟩
theorem kw104 : Cond.fieldLink RX4 25 "TruePiece$Tape" "faultPlace" "I" ∈ lw_ok := ok_t1 (i := 104) ⟨rfl, rfl⟩
theorem fX4_25 : FL RX4 25 4 10 := ⟨⟨by decide, by decide⟩, kw104⟩
theorem kw85 : Cond.fieldLink RX4 43 "TruePiece$Tape" "length" "I" ∈ lw_ok := ok_t1 (i := 85) ⟨rfl, rfl⟩
theorem fX4_43 : FL RX4 43 4 2 := ⟨⟨by decide, by decide⟩, kw85⟩
theorem kw102 : Cond.fieldLink RX4 47 "TruePiece$Tape" "fault" "I" ∈ lw_ok := ok_t1 (i := 102) ⟨rfl, rfl⟩
theorem fX4_47 : FL RX4 47 4 9 := ⟨⟨by decide, by decide⟩, kw102⟩
theorem kw87 : Cond.fieldLink RX4 50 "TruePiece$Tape" "next" "I" ∈ lw_ok := ok_t1 (i := 87) ⟨rfl, rfl⟩
theorem fX4_50 : FL RX4 50 4 4 := ⟨⟨by decide, by decide⟩, kw87⟩
theorem kw92 : Cond.fieldLink RX4 56 "TruePiece$Tape" "start" "I" ∈ lw_ok := ok_t1 (i := 92) ⟨rfl, rfl⟩
theorem fX4_56 : FL RX4 56 4 6 := ⟨⟨by decide, by decide⟩, kw92⟩
theorem kw90 : Cond.fieldLink RX4 59 "TruePiece$Tape" "kind" "I" ∈ lw_ok := ok_t1 (i := 90) ⟨rfl, rfl⟩
theorem fX4_59 : FL RX4 59 4 5 := ⟨⟨by decide, by decide⟩, kw90⟩
theorem kw99 : Cond.fieldLink RX4 79 "TruePiece$Tape" "word" "J" ∈ lw_ok := ok_t1 (i := 99) ⟨rfl, rfl⟩
theorem fX4_79 : FL RX4 79 4 8 := ⟨⟨by decide, by decide⟩, kw99⟩
theorem kw96 : Cond.fieldLink RX4 89 "TruePiece$Tape" "number" "I" ∈ lw_ok := ok_t1 (i := 96) ⟨rfl, rfl⟩
theorem fX4_89 : FL RX4 89 4 7 := ⟨⟨by decide, by decide⟩, kw96⟩
theorem kw82 : Cond.fieldLink RX4 9 "TruePiece$Tape" "bytes" "[B" ∈ lw_ok := ok_t1 (i := 82) ⟨rfl, rfl⟩
theorem fX4_9 : FL RX4 9 4 0 := ⟨⟨by decide, by decide⟩, kw82⟩
theorem kw94 : Cond.fieldLink RX5 108 "TruePiece$Tape" "number" "I" ∈ lw_ok := ok_t1 (i := 94) ⟨rfl, rfl⟩
theorem fX5_108 : FL RX5 108 4 7 := ⟨⟨by decide, by decide⟩, kw94⟩
theorem kw506 : Cond.fieldLink RX5 120 "TruePiece$WishReader" "paths" "I" ∈ lw_ok := ok_t3 (i := 26) ⟨rfl, rfl⟩
theorem fX5_120 : FL RX5 120 5 5 := ⟨⟨by decide, by decide⟩, kw506⟩
theorem kw505 : Cond.fieldLink RX5 123 "TruePiece$WishReader" "pathNames" "I" ∈ lw_ok := ok_t3 (i := 25) ⟨rfl, rfl⟩
theorem fX5_123 : FL RX5 123 5 4 := ⟨⟨by decide, by decide⟩, kw505⟩
theorem kw157 : Cond.fieldLink RX5 126 "TruePiece$Store" "rows" "I" ∈ lw_ok := ok_t1 (i := 157) ⟨rfl, rfl⟩
theorem fX5_126 : FL RX5 126 2 6 := ⟨⟨by decide, by decide⟩, kw157⟩
theorem kw162 : Cond.fieldLink RX5 129 "TruePiece$Store" "rowTable" "[I" ∈ lw_ok := ok_t1 (i := 162) ⟨rfl, rfl⟩
theorem fX5_129 : FL RX5 129 2 7 := ⟨⟨by decide, by decide⟩, kw162⟩
theorem kw502 : Cond.fieldLink RX5 15 "TruePiece$WishReader" "store" "LTruePiece$Store;" ∈ lw_ok := ok_t3 (i := 22) ⟨rfl, rfl⟩
theorem fX5_15 : FL RX5 15 5 1 := ⟨⟨by decide, by decide⟩, kw502⟩
theorem kw503 : Cond.fieldLink RX5 19 "TruePiece$WishReader" "demands" "LTruePiece$Demands;" ∈ lw_ok := ok_t3 (i := 23) ⟨rfl, rfl⟩
theorem fX5_19 : FL RX5 19 5 2 := ⟨⟨by decide, by decide⟩, kw503⟩
theorem kw504 : Cond.fieldLink RX5 23 "TruePiece$WishReader" "path" "[I" ∈ lw_ok := ok_t3 (i := 24) ⟨rfl, rfl⟩
theorem fX5_23 : FL RX5 23 5 3 := ⟨⟨by decide, by decide⟩, kw504⟩
theorem kw100 : Cond.fieldLink RX5 38 "TruePiece$Tape" "fault" "I" ∈ lw_ok := ok_t1 (i := 100) ⟨rfl, rfl⟩
theorem fX5_38 : FL RX5 38 4 9 := ⟨⟨by decide, by decide⟩, kw100⟩
theorem kw88 : Cond.fieldLink RX5 42 "TruePiece$Tape" "kind" "I" ∈ lw_ok := ok_t1 (i := 88) ⟨rfl, rfl⟩
theorem fX5_42 : FL RX5 42 4 5 := ⟨⟨by decide, by decide⟩, kw88⟩
theorem kw507 : Cond.fieldLink RX5 65 "TruePiece$WishReader" "table" "I" ∈ lw_ok := ok_t3 (i := 27) ⟨rfl, rfl⟩
theorem fX5_65 : FL RX5 65 5 6 := ⟨⟨by decide, by decide⟩, kw507⟩
theorem kw98 : Cond.fieldLink RX5 85 "TruePiece$Tape" "word" "J" ∈ lw_ok := ok_t1 (i := 98) ⟨rfl, rfl⟩
theorem fX5_85 : FL RX5 85 4 8 := ⟨⟨by decide, by decide⟩, kw98⟩
theorem kw501 : Cond.fieldLink RX5 9 "TruePiece$WishReader" "tape" "LTruePiece$Tape;" ∈ lw_ok := ok_t3 (i := 21) ⟨rfl, rfl⟩
theorem fX5_9 : FL RX5 9 5 0 := ⟨⟨by decide, by decide⟩, kw501⟩
theorem kw93 : Cond.fieldLink RX5 97 "TruePiece$Tape" "start" "I" ∈ lw_ok := ok_t1 (i := 93) ⟨rfl, rfl⟩
theorem fX5_97 : FL RX5 97 4 6 := ⟨⟨by decide, by decide⟩, kw93⟩
theorem kw239 : Cond.fieldLink RX6 10 "TruePiece" "tape" "LTruePiece$Tape;" ∈ lw_ok := ok_t1 (i := 239) ⟨rfl, rfl⟩
theorem fX6_10 : FL RX6 10 6 0 := ⟨⟨by decide, by decide⟩, kw239⟩
theorem kw161 : Cond.fieldLink RX6 103 "TruePiece$Store" "rowTable" "[I" ∈ lw_ok := ok_t1 (i := 161) ⟨rfl, rfl⟩
theorem fX6_103 : FL RX6 103 2 7 := ⟨⟨by decide, by decide⟩, kw161⟩
theorem kw165 : Cond.fieldLink RX6 106 "TruePiece$Store" "rowNumber" "[I" ∈ lw_ok := ok_t1 (i := 165) ⟨rfl, rfl⟩
theorem fX6_106 : FL RX6 106 2 8 := ⟨⟨by decide, by decide⟩, kw165⟩
theorem kw208 : Cond.fieldLink RX6 120 "TruePiece$Demands" "tables" "[I" ∈ lw_ok := ok_t1 (i := 208) ⟨rfl, rfl⟩
theorem fX6_120 : FL RX6 120 1 2 := ⟨⟨by decide, by decide⟩, kw208⟩
theorem kw210 : Cond.fieldLink RX6 123 "TruePiece$Demands" "fitting" "[I" ∈ lw_ok := ok_t1 (i := 210) ⟨rfl, rfl⟩
theorem fX6_123 : FL RX6 123 1 3 := ⟨⟨by decide, by decide⟩, kw210⟩
theorem kw248 : Cond.fieldLink RX6 129 "TruePiece" "leastKnown" "Z" ∈ lw_ok := ok_t2 (i := 8) ⟨rfl, rfl⟩
theorem fX6_129 : FL RX6 129 6 9 := ⟨⟨by decide, by decide⟩, kw248⟩
theorem kw249 : Cond.fieldLink RX6 142 "TruePiece" "leastRows" "I" ∈ lw_ok := ok_t2 (i := 9) ⟨rfl, rfl⟩
theorem fX6_142 : FL RX6 142 6 10 := ⟨⟨by decide, by decide⟩, kw249⟩
theorem kw250 : Cond.fieldLink RX6 149 "TruePiece" "placed" "I" ∈ lw_ok := ok_t2 (i := 10) ⟨rfl, rfl⟩
theorem fX6_149 : FL RX6 149 6 11 := ⟨⟨by decide, by decide⟩, kw250⟩
theorem kw251 : Cond.fieldLink RX6 155 "TruePiece" "steadyKnown" "Z" ∈ lw_ok := ok_t2 (i := 11) ⟨rfl, rfl⟩
theorem fX6_155 : FL RX6 155 6 12 := ⟨⟨by decide, by decide⟩, kw251⟩
theorem kw252 : Cond.fieldLink RX6 158 "TruePiece" "steadyRows" "I" ∈ lw_ok := ok_t2 (i := 12) ⟨rfl, rfl⟩
theorem fX6_158 : FL RX6 158 6 13 := ⟨⟨by decide, by decide⟩, kw252⟩
theorem kw240 : Cond.fieldLink RX6 16 "TruePiece" "keys" "[I" ∈ lw_ok := ok_t2 (i := 0) ⟨rfl, rfl⟩
theorem fX6_16 : FL RX6 16 6 1 := ⟨⟨by decide, by decide⟩, kw240⟩
theorem kw139 : Cond.fieldLink RX6 192 "TruePiece$Store" "tables" "I" ∈ lw_ok := ok_t1 (i := 139) ⟨rfl, rfl⟩
theorem fX6_192 : FL RX6 192 2 0 := ⟨⟨by decide, by decide⟩, kw139⟩
theorem kw241 : Cond.fieldLink RX6 20 "TruePiece" "line" "[I" ∈ lw_ok := ok_t2 (i := 1) ⟨rfl, rfl⟩
theorem fX6_20 : FL RX6 20 6 2 := ⟨⟨by decide, by decide⟩, kw241⟩
theorem kw144 : Cond.fieldLink RX6 200 "TruePiece$Store" "columns" "[I" ∈ lw_ok := ok_t1 (i := 144) ⟨rfl, rfl⟩
theorem fX6_200 : FL RX6 200 2 2 := ⟨⟨by decide, by decide⟩, kw144⟩
theorem kw147 : Cond.fieldLink RX6 203 "TruePiece$Store" "tableRows" "[I" ∈ lw_ok := ok_t1 (i := 147) ⟨rfl, rfl⟩
theorem fX6_203 : FL RX6 203 2 3 := ⟨⟨by decide, by decide⟩, kw147⟩
theorem kw242 : Cond.fieldLink RX6 26 "TruePiece" "stock" "LTruePiece$Store;" ∈ lw_ok := ok_t2 (i := 2) ⟨rfl, rfl⟩
theorem fX6_26 : FL RX6 26 6 3 := ⟨⟨by decide, by decide⟩, kw242⟩
theorem kw243 : Cond.fieldLink RX6 30 "TruePiece" "spareStock" "LTruePiece$Store;" ∈ lw_ok := ok_t2 (i := 3) ⟨rfl, rfl⟩
theorem fX6_30 : FL RX6 30 6 4 := ⟨⟨by decide, by decide⟩, kw243⟩
theorem kw244 : Cond.fieldLink RX6 36 "TruePiece" "demands" "LTruePiece$Demands;" ∈ lw_ok := ok_t2 (i := 4) ⟨rfl, rfl⟩
theorem fX6_36 : FL RX6 36 6 5 := ⟨⟨by decide, by decide⟩, kw244⟩
theorem kw245 : Cond.fieldLink RX6 40 "TruePiece" "spareDemands" "LTruePiece$Demands;" ∈ lw_ok := ok_t2 (i := 5) ⟨rfl, rfl⟩
theorem fX6_40 : FL RX6 40 6 6 := ⟨⟨by decide, by decide⟩, kw245⟩
theorem kw84 : Cond.fieldLink RX6 49 "TruePiece$Tape" "length" "I" ∈ lw_ok := ok_t1 (i := 84) ⟨rfl, rfl⟩
theorem fX6_49 : FL RX6 49 4 2 := ⟨⟨by decide, by decide⟩, kw84⟩
theorem kw246 : Cond.fieldLink RX6 69 "TruePiece" "goneRows" "I" ∈ lw_ok := ok_t2 (i := 6) ⟨rfl, rfl⟩
theorem fX6_69 : FL RX6 69 6 7 := ⟨⟨by decide, by decide⟩, kw246⟩
theorem kw247 : Cond.fieldLink RX6 72 "TruePiece" "keptRows" "I" ∈ lw_ok := ok_t2 (i := 7) ⟨rfl, rfl⟩
theorem fX6_72 : FL RX6 72 6 8 := ⟨⟨by decide, by decide⟩, kw247⟩
theorem kw155 : Cond.fieldLink RX6 78 "TruePiece$Store" "rows" "I" ∈ lw_ok := ok_t1 (i := 155) ⟨rfl, rfl⟩
theorem fX6_78 : FL RX6 78 2 6 := ⟨⟨by decide, by decide⟩, kw155⟩
theorem kw205 : Cond.fieldLink RX6 90 "TruePiece$Demands" "count" "I" ∈ lw_ok := ok_t1 (i := 205) ⟨rfl, rfl⟩
theorem fX6_90 : FL RX6 90 1 0 := ⟨⟨by decide, by decide⟩, kw205⟩
theorem kw103 : Cond.fieldLink RX6 93 "TruePiece$Tape" "fault" "I" ∈ lw_ok := ok_t1 (i := 103) ⟨rfl, rfl⟩
theorem fX6_93 : FL RX6 93 4 9 := ⟨⟨by decide, by decide⟩, kw103⟩
theorem kw105 : Cond.fieldLink RX6 96 "TruePiece$Tape" "faultPlace" "I" ∈ lw_ok := ok_t1 (i := 105) ⟨rfl, rfl⟩
theorem fX6_96 : FL RX6 96 4 10 := ⟨⟨by decide, by decide⟩, kw105⟩
theorem kw1038 : Cond.fieldLink RX7 1 "TruePieceModel" "size" "I" ∈ lw_ok := ok_t5 (i := 78) ⟨rfl, rfl⟩
theorem fX7_1 : FL RX7 1 7 3 := ⟨⟨by decide, by decide⟩, kw1038⟩
theorem kw1047 : Cond.fieldLink RX7 102 "TruePieceModel" "tName" "[J" ∈ lw_ok := ok_t5 (i := 87) ⟨rfl, rfl⟩
theorem fX7_102 : FL RX7 102 7 12 := ⟨⟨by decide, by decide⟩, kw1047⟩
theorem kw1049 : Cond.fieldLink RX7 106 "TruePieceModel" "tColumns" "[I" ∈ lw_ok := ok_t5 (i := 89) ⟨rfl, rfl⟩
theorem fX7_106 : FL RX7 106 7 14 := ⟨⟨by decide, by decide⟩, kw1049⟩
theorem kw1048 : Cond.fieldLink RX7 109 "TruePieceModel" "cName" "[J" ∈ lw_ok := ok_t5 (i := 88) ⟨rfl, rfl⟩
theorem fX7_109 : FL RX7 109 7 13 := ⟨⟨by decide, by decide⟩, kw1048⟩
theorem kw1039 : Cond.fieldLink RX7 11 "TruePieceModel" "faultKind" "I" ∈ lw_ok := ok_t5 (i := 79) ⟨rfl, rfl⟩
theorem fX7_11 : FL RX7 11 7 4 := ⟨⟨by decide, by decide⟩, kw1039⟩
theorem kw1058 : Cond.fieldLink RX7 116 "TruePieceModel" "bank" "I" ∈ lw_ok := ok_t5 (i := 98) ⟨rfl, rfl⟩
theorem fX7_116 : FL RX7 116 7 23 := ⟨⟨by decide, by decide⟩, kw1058⟩
theorem kw1059 : Cond.fieldLink RX7 119 "TruePieceModel" "rb" "I" ∈ lw_ok := ok_t5 (i := 99) ⟨rfl, rfl⟩
theorem fX7_119 : FL RX7 119 7 24 := ⟨⟨by decide, by decide⟩, kw1059⟩
theorem kw1057 : Cond.fieldLink RX7 122 "TruePieceModel" "rows" "[I" ∈ lw_ok := ok_t5 (i := 97) ⟨rfl, rfl⟩
theorem fX7_122 : FL RX7 122 7 22 := ⟨⟨by decide, by decide⟩, kw1057⟩
theorem kw1060 : Cond.fieldLink RX7 138 "TruePieceModel" "wishMany" "[I" ∈ lw_ok := ok_t5 (i := 100) ⟨rfl, rfl⟩
theorem fX7_138 : FL RX7 138 7 25 := ⟨⟨by decide, by decide⟩, kw1060⟩
theorem kw1040 : Cond.fieldLink RX7 14 "TruePieceModel" "faultPlace" "I" ∈ lw_ok := ok_t5 (i := 80) ⟨rfl, rfl⟩
theorem fX7_14 : FL RX7 14 7 5 := ⟨⟨by decide, by decide⟩, kw1040⟩
theorem kw1072 : Cond.fieldLink RX7 141 "TruePieceModel" "wishBank" "I" ∈ lw_ok := ok_t5 (i := 112) ⟨rfl, rfl⟩
theorem fX7_141 : FL RX7 141 7 37 := ⟨⟨by decide, by decide⟩, kw1072⟩
theorem kw1085 : Cond.fieldLink RX7 144 "TruePieceModel" "kept" "I" ∈ lw_ok := ok_t5 (i := 125) ⟨rfl, rfl⟩
theorem fX7_144 : FL RX7 144 7 50 := ⟨⟨by decide, by decide⟩, kw1085⟩
theorem kw1084 : Cond.fieldLink RX7 147 "TruePieceModel" "goneRows" "I" ∈ lw_ok := ok_t5 (i := 124) ⟨rfl, rfl⟩
theorem fX7_147 : FL RX7 147 7 49 := ⟨⟨by decide, by decide⟩, kw1084⟩
theorem kw1089 : Cond.fieldLink RX7 150 "TruePieceModel" "keys" "[I" ∈ lw_ok := ok_t5 (i := 129) ⟨rfl, rfl⟩
theorem fX7_150 : FL RX7 150 7 54 := ⟨⟨by decide, by decide⟩, kw1089⟩
theorem kw1087 : Cond.fieldLink RX7 153 "TruePieceModel" "isKnown" "Z" ∈ lw_ok := ok_t5 (i := 127) ⟨rfl, rfl⟩
theorem fX7_153 : FL RX7 153 7 52 := ⟨⟨by decide, by decide⟩, kw1087⟩
theorem kw1050 : Cond.fieldLink RX7 160 "TruePieceModel" "tRows" "[I" ∈ lw_ok := ok_t5 (i := 90) ⟨rfl, rfl⟩
theorem fX7_160 : FL RX7 160 7 15 := ⟨⟨by decide, by decide⟩, kw1050⟩
theorem kw1051 : Cond.fieldLink RX7 175 "TruePieceModel" "cLink" "[I" ∈ lw_ok := ok_t5 (i := 91) ⟨rfl, rfl⟩
theorem fX7_175 : FL RX7 175 7 16 := ⟨⟨by decide, by decide⟩, kw1051⟩
theorem kw1052 : Cond.fieldLink RX7 182 "TruePieceModel" "rTable" "[I" ∈ lw_ok := ok_t5 (i := 92) ⟨rfl, rfl⟩
theorem fX7_182 : FL RX7 182 7 17 := ⟨⟨by decide, by decide⟩, kw1052⟩
theorem kw1053 : Cond.fieldLink RX7 185 "TruePieceModel" "rNumber" "[I" ∈ lw_ok := ok_t5 (i := 93) ⟨rfl, rfl⟩
theorem fX7_185 : FL RX7 185 7 18 := ⟨⟨by decide, by decide⟩, kw1053⟩
theorem kw1054 : Cond.fieldLink RX7 188 "TruePieceModel" "rValue" "[I" ∈ lw_ok := ok_t5 (i := 94) ⟨rfl, rfl⟩
theorem fX7_188 : FL RX7 188 7 19 := ⟨⟨by decide, by decide⟩, kw1054⟩
theorem kw1055 : Cond.fieldLink RX7 191 "TruePieceModel" "rPlace" "[I" ∈ lw_ok := ok_t5 (i := 95) ⟨rfl, rfl⟩
theorem fX7_191 : FL RX7 191 7 20 := ⟨⟨by decide, by decide⟩, kw1055⟩
theorem kw1073 : Cond.fieldLink RX7 211 "TruePieceModel" "wb" "I" ∈ lw_ok := ok_t5 (i := 113) ⟨rfl, rfl⟩
theorem fX7_211 : FL RX7 211 7 38 := ⟨⟨by decide, by decide⟩, kw1073⟩
theorem kw1074 : Cond.fieldLink RX7 214 "TruePieceModel" "codes" "I" ∈ lw_ok := ok_t5 (i := 114) ⟨rfl, rfl⟩
theorem fX7_214 : FL RX7 214 7 39 := ⟨⟨by decide, by decide⟩, kw1074⟩
theorem kw1075 : Cond.fieldLink RX7 217 "TruePieceModel" "paths" "I" ∈ lw_ok := ok_t5 (i := 115) ⟨rfl, rfl⟩
theorem fX7_217 : FL RX7 217 7 40 := ⟨⟨by decide, by decide⟩, kw1075⟩
theorem kw1076 : Cond.fieldLink RX7 220 "TruePieceModel" "pathNames" "I" ∈ lw_ok := ok_t5 (i := 116) ⟨rfl, rfl⟩
theorem fX7_220 : FL RX7 220 7 41 := ⟨⟨by decide, by decide⟩, kw1076⟩
theorem kw1063 : Cond.fieldLink RX7 226 "TruePieceModel" "wSecond" "[I" ∈ lw_ok := ok_t5 (i := 103) ⟨rfl, rfl⟩
theorem fX7_226 : FL RX7 226 7 28 := ⟨⟨by decide, by decide⟩, kw1063⟩
theorem kw1061 : Cond.fieldLink RX7 229 "TruePieceModel" "wTable" "[I" ∈ lw_ok := ok_t5 (i := 101) ⟨rfl, rfl⟩
theorem fX7_229 : FL RX7 229 7 26 := ⟨⟨by decide, by decide⟩, kw1061⟩
theorem kw1062 : Cond.fieldLink RX7 236 "TruePieceModel" "wMany" "[I" ∈ lw_ok := ok_t5 (i := 102) ⟨rfl, rfl⟩
theorem fX7_236 : FL RX7 236 7 27 := ⟨⟨by decide, by decide⟩, kw1062⟩
theorem kw1065 : Cond.fieldLink RX7 245 "TruePieceModel" "wFrom" "[I" ∈ lw_ok := ok_t5 (i := 105) ⟨rfl, rfl⟩
theorem fX7_245 : FL RX7 245 7 30 := ⟨⟨by decide, by decide⟩, kw1065⟩
theorem kw1066 : Cond.fieldLink RX7 251 "TruePieceModel" "wTo" "[I" ∈ lw_ok := ok_t5 (i := 106) ⟨rfl, rfl⟩
theorem fX7_251 : FL RX7 251 7 31 := ⟨⟨by decide, by decide⟩, kw1066⟩
theorem kw1064 : Cond.fieldLink RX7 254 "TruePieceModel" "wColumn" "[I" ∈ lw_ok := ok_t5 (i := 104) ⟨rfl, rfl⟩
theorem fX7_254 : FL RX7 254 7 29 := ⟨⟨by decide, by decide⟩, kw1064⟩
theorem kw1067 : Cond.fieldLink RX7 257 "TruePieceModel" "code" "[I" ∈ lw_ok := ok_t5 (i := 107) ⟨rfl, rfl⟩
theorem fX7_257 : FL RX7 257 7 32 := ⟨⟨by decide, by decide⟩, kw1067⟩
theorem kw1068 : Cond.fieldLink RX7 260 "TruePieceModel" "codeNumber" "[I" ∈ lw_ok := ok_t5 (i := 108) ⟨rfl, rfl⟩
theorem fX7_260 : FL RX7 260 7 33 := ⟨⟨by decide, by decide⟩, kw1068⟩
theorem kw1077 : Cond.fieldLink RX7 263 "TruePieceModel" "eWhat" "[I" ∈ lw_ok := ok_t5 (i := 117) ⟨rfl, rfl⟩
theorem fX7_263 : FL RX7 263 7 42 := ⟨⟨by decide, by decide⟩, kw1077⟩
theorem kw1078 : Cond.fieldLink RX7 266 "TruePieceModel" "piled" "I" ∈ lw_ok := ok_t5 (i := 118) ⟨rfl, rfl⟩
theorem fX7_266 : FL RX7 266 7 43 := ⟨⟨by decide, by decide⟩, kw1078⟩
theorem kw1079 : Cond.fieldLink RX7 269 "TruePieceModel" "deep" "I" ∈ lw_ok := ok_t5 (i := 119) ⟨rfl, rfl⟩
theorem fX7_269 : FL RX7 269 7 44 := ⟨⟨by decide, by decide⟩, kw1079⟩
theorem kw1069 : Cond.fieldLink RX7 287 "TruePieceModel" "pathFrom" "[I" ∈ lw_ok := ok_t5 (i := 109) ⟨rfl, rfl⟩
theorem fX7_287 : FL RX7 287 7 34 := ⟨⟨by decide, by decide⟩, kw1069⟩
theorem kw1071 : Cond.fieldLink RX7 290 "TruePieceModel" "pathColumn" "[I" ∈ lw_ok := ok_t5 (i := 111) ⟨rfl, rfl⟩
theorem fX7_290 : FL RX7 290 7 36 := ⟨⟨by decide, by decide⟩, kw1071⟩
theorem kw1070 : Cond.fieldLink RX7 293 "TruePieceModel" "pathTo" "[I" ∈ lw_ok := ok_t5 (i := 110) ⟨rfl, rfl⟩
theorem fX7_293 : FL RX7 293 7 35 := ⟨⟨by decide, by decide⟩, kw1070⟩
theorem kw1080 : Cond.fieldLink RX7 299 "TruePieceModel" "values" "[Z" ∈ lw_ok := ok_t5 (i := 120) ⟨rfl, rfl⟩
theorem fX7_299 : FL RX7 299 7 45 := ⟨⟨by decide, by decide⟩, kw1080⟩
theorem kw1081 : Cond.fieldLink RX7 310 "TruePieceModel" "drawn" "[I" ∈ lw_ok := ok_t5 (i := 121) ⟨rfl, rfl⟩
theorem fX7_310 : FL RX7 310 7 46 := ⟨⟨by decide, by decide⟩, kw1081⟩
theorem kw1082 : Cond.fieldLink RX7 316 "TruePieceModel" "counted" "[I" ∈ lw_ok := ok_t5 (i := 122) ⟨rfl, rfl⟩
theorem fX7_316 : FL RX7 316 7 47 := ⟨⟨by decide, by decide⟩, kw1082⟩
theorem kw1083 : Cond.fieldLink RX7 319 "TruePieceModel" "asked" "[I" ∈ lw_ok := ok_t5 (i := 123) ⟨rfl, rfl⟩
theorem fX7_319 : FL RX7 319 7 48 := ⟨⟨by decide, by decide⟩, kw1083⟩
theorem kw1086 : Cond.fieldLink RX7 328 "TruePieceModel" "leastSet" "I" ∈ lw_ok := ok_t5 (i := 126) ⟨rfl, rfl⟩
theorem fX7_328 : FL RX7 328 7 51 := ⟨⟨by decide, by decide⟩, kw1086⟩
theorem kw1088 : Cond.fieldLink RX7 343 "TruePieceModel" "placed" "[I" ∈ lw_ok := ok_t5 (i := 128) ⟨rfl, rfl⟩
theorem fX7_343 : FL RX7 343 7 53 := ⟨⟨by decide, by decide⟩, kw1088⟩
theorem kw1046 : Cond.fieldLink RX7 39 "TruePieceModel" "ofWishes" "Z" ∈ lw_ok := ok_t5 (i := 86) ⟨rfl, rfl⟩
theorem fX7_39 : FL RX7 39 7 11 := ⟨⟨by decide, by decide⟩, kw1046⟩
theorem kw1042 : Cond.fieldLink RX7 43 "TruePieceModel" "end" "I" ∈ lw_ok := ok_t5 (i := 82) ⟨rfl, rfl⟩
theorem fX7_43 : FL RX7 43 7 7 := ⟨⟨by decide, by decide⟩, kw1042⟩
theorem kw1041 : Cond.fieldLink RX7 46 "TruePieceModel" "at" "I" ∈ lw_ok := ok_t5 (i := 81) ⟨rfl, rfl⟩
theorem fX7_46 : FL RX7 46 7 6 := ⟨⟨by decide, by decide⟩, kw1041⟩
theorem kw1043 : Cond.fieldLink RX7 53 "TruePieceModel" "token" "I" ∈ lw_ok := ok_t5 (i := 83) ⟨rfl, rfl⟩
theorem fX7_53 : FL RX7 53 7 8 := ⟨⟨by decide, by decide⟩, kw1043⟩
theorem kw1045 : Cond.fieldLink RX7 60 "TruePieceModel" "name" "J" ∈ lw_ok := ok_t5 (i := 85) ⟨rfl, rfl⟩
theorem fX7_60 : FL RX7 60 7 10 := ⟨⟨by decide, by decide⟩, kw1045⟩
theorem kw1036 : Cond.fieldLink RX7 7 "TruePieceModel" "text" "[B" ∈ lw_ok := ok_t5 (i := 76) ⟨rfl, rfl⟩
theorem fX7_7 : FL RX7 7 7 1 := ⟨⟨by decide, by decide⟩, kw1036⟩
theorem kw1044 : Cond.fieldLink RX7 71 "TruePieceModel" "number" "I" ∈ lw_ok := ok_t5 (i := 84) ⟨rfl, rfl⟩
theorem fX7_71 : FL RX7 71 7 9 := ⟨⟨by decide, by decide⟩, kw1044⟩
theorem kw1037 : Cond.fieldLink RX7 92 "TruePieceModel" "taped" "I" ∈ lw_ok := ok_t5 (i := 77) ⟨rfl, rfl⟩
theorem fX7_92 : FL RX7 92 7 2 := ⟨⟨by decide, by decide⟩, kw1037⟩
theorem kw1035 : Cond.fieldLink RX7 95 "TruePieceModel" "tape" "[B" ∈ lw_ok := ok_t5 (i := 75) ⟨rfl, rfl⟩
theorem fX7_95 : FL RX7 95 7 0 := ⟨⟨by decide, by decide⟩, kw1035⟩
theorem kw1056 : Cond.fieldLink RX7 98 "TruePieceModel" "tables" "[I" ∈ lw_ok := ok_t5 (i := 96) ⟨rfl, rfl⟩
theorem fX7_98 : FL RX7 98 7 21 := ⟨⟨by decide, by decide⟩, kw1056⟩
theorem mhJ6 : RJ6 ≠ "java/lang/invoke/MethodHandle" ∧ RJ6 ≠ "java/lang/invoke/VarHandle" := by decide +kernel
theorem md_J6_bitCount_0f7a4 : yJ6_bitCount_0f7a4.cls ≠ "java/lang/invoke/MethodHandle" ∧ yJ6_bitCount_0f7a4.cls ≠ "java/lang/invoke/VarHandle" ∧ (parseMethodDescriptor yJ6_bitCount_0f7a4.desc).map (fun d => d.parameters.length) = some 1 := ⟨mhJ6.1, mhJ6.2, by decide +kernel⟩
theorem kw602 : Cond.code yJ6_bitCount_0f7a4 cJ6_bitCount_0f7a4 1 (some .int) ∈ lw_ok := ok_t3 (i := 122) ⟨rfl, rfl⟩
theorem kw15 : Cond.initialized RJ6 ∈ lw_ok := ok_t1 (i := 15) ⟨rfl, rfl⟩
theorem kw683 : Cond.methodLink RX0 47 yJ6_bitCount_0f7a4 ∈ lw_ok := ok_t3 (i := 203) ⟨rfl, rfl⟩
theorem kw601 : Cond.static yJ6_bitCount_0f7a4 ∈ lw_ok := ok_t3 (i := 121) ⟨rfl, rfl⟩
theorem sX0_47 : CS RX0 47 yJ6_bitCount_0f7a4 cJ6_bitCount_0f7a4 1 1 (some .int) := ⟨⟨kw683, kw601, kw15, kw602⟩, md_J6_bitCount_0f7a4, by decide⟩
theorem mhX1 : RX1 ≠ "java/lang/invoke/MethodHandle" ∧ RX1 ≠ "java/lang/invoke/VarHandle" := by decide +kernel
theorem md_X1_binds : yX1_binds.cls ≠ "java/lang/invoke/MethodHandle" ∧ yX1_binds.cls ≠ "java/lang/invoke/VarHandle" ∧ (parseMethodDescriptor yX1_binds.desc).map (fun d => d.parameters.length) = some 2 := ⟨mhX1.1, mhX1.2, by decide +kernel⟩
theorem kw687 : Cond.code yX1_binds cX1_binds 3 (some .boolean) ∈ lw_ok := ok_t3 (i := 207) ⟨rfl, rfl⟩
theorem kw8 : Cond.initialized RX1 ∈ lw_ok := ok_t1 (i := 8) ⟨rfl, rfl⟩
theorem kw684 : Cond.methodLink RX0 53 yX1_binds ∈ lw_ok := ok_t3 (i := 204) ⟨rfl, rfl⟩
theorem kw685 : Cond.instanceMethod yX1_binds ∈ lw_ok := ok_t3 (i := 205) ⟨rfl, rfl⟩
theorem kw686 : Cond.selects RX1 yX1_binds yX1_binds ∈ lw_ok := ok_t3 (i := 206) ⟨rfl, rfl⟩
theorem vX0_53 : CV RX0 53 yX1_binds cX1_binds 3 2 (some .boolean) := ⟨⟨kw684, kw685, kw686, kw8, kw687⟩, md_X1_binds, by decide⟩
theorem mhX2 : RX2 ≠ "java/lang/invoke/MethodHandle" ∧ RX2 ≠ "java/lang/invoke/VarHandle" := by decide +kernel
theorem md_X2_allRows : yX2_allRows.cls ≠ "java/lang/invoke/MethodHandle" ∧ yX2_allRows.cls ≠ "java/lang/invoke/VarHandle" ∧ (parseMethodDescriptor yX2_allRows.desc).map (fun d => d.parameters.length) = some 0 := ⟨mhX2.1, mhX2.2, by decide +kernel⟩
theorem kw677 : Cond.code yX2_allRows cX2_allRows 1 (some .int) ∈ lw_ok := ok_t3 (i := 197) ⟨rfl, rfl⟩
theorem kw7 : Cond.initialized RX2 ∈ lw_ok := ok_t1 (i := 7) ⟨rfl, rfl⟩
theorem kw674 : Cond.methodLink RX0 59 yX2_allRows ∈ lw_ok := ok_t3 (i := 194) ⟨rfl, rfl⟩
theorem kw675 : Cond.instanceMethod yX2_allRows ∈ lw_ok := ok_t3 (i := 195) ⟨rfl, rfl⟩
theorem kw676 : Cond.selects RX2 yX2_allRows yX2_allRows ∈ lw_ok := ok_t3 (i := 196) ⟨rfl, rfl⟩
theorem vX0_59 : CV RX0 59 yX2_allRows cX2_allRows 1 0 (some .int) := ⟨⟨kw674, kw675, kw676, kw7, kw677⟩, md_X2_allRows, by decide⟩
theorem mhX0 : RX0 ≠ "java/lang/invoke/MethodHandle" ∧ RX0 ≠ "java/lang/invoke/VarHandle" := by decide +kernel
theorem md_X0_isPiece : yX0_isPiece.cls ≠ "java/lang/invoke/MethodHandle" ∧ yX0_isPiece.cls ≠ "java/lang/invoke/VarHandle" ∧ (parseMethodDescriptor yX0_isPiece.desc).map (fun d => d.parameters.length) = some 1 := ⟨mhX0.1, mhX0.2, by decide +kernel⟩
theorem kw681 : Cond.code yX0_isPiece cX0_isPiece 4 (some .boolean) ∈ lw_ok := ok_t3 (i := 201) ⟨rfl, rfl⟩
theorem kw16 : Cond.initialized RX0 ∈ lw_ok := ok_t1 (i := 16) ⟨rfl, rfl⟩
theorem kw678 : Cond.methodLink RX0 63 yX0_isPiece ∈ lw_ok := ok_t3 (i := 198) ⟨rfl, rfl⟩
theorem kw679 : Cond.instanceMethod yX0_isPiece ∈ lw_ok := ok_t3 (i := 199) ⟨rfl, rfl⟩
theorem kw680 : Cond.selects RX0 yX0_isPiece yX0_isPiece ∈ lw_ok := ok_t3 (i := 200) ⟨rfl, rfl⟩
theorem vX0_63 : CV RX0 63 yX0_isPiece cX0_isPiece 4 1 (some .boolean) := ⟨⟨kw678, kw679, kw680, kw16, kw681⟩, md_X0_isPiece, by decide⟩
theorem md_X0_search : yX0_search.cls ≠ "java/lang/invoke/MethodHandle" ∧ yX0_search.cls ≠ "java/lang/invoke/VarHandle" ∧ (parseMethodDescriptor yX0_search.desc).map (fun d => d.parameters.length) = some 3 := ⟨mhX0.1, mhX0.2, by decide +kernel⟩
theorem kw691 : Cond.code yX0_search cX0_search 7 (some .int) ∈ lw_ok := ok_t3 (i := 211) ⟨rfl, rfl⟩
theorem kw688 : Cond.methodLink RX0 73 yX0_search ∈ lw_ok := ok_t3 (i := 208) ⟨rfl, rfl⟩
theorem kw690 : Cond.instanceMethod yX0_search ∈ lw_ok := ok_t3 (i := 210) ⟨rfl, rfl⟩
theorem kp19 : Cond.selects RX0 yX0_search yX0_search ∈ lw_ok := ok_pq (i := 19) ⟨rfl, rfl⟩
theorem vX0_73 : CV RX0 73 yX0_search cX0_search 7 3 (some .int) := ⟨⟨kw688, kw690, kp19, kw16, kw691⟩, md_X0_search, by decide⟩
theorem md_X0_settled : yX0_settled.cls ≠ "java/lang/invoke/MethodHandle" ∧ yX0_settled.cls ≠ "java/lang/invoke/VarHandle" ∧ (parseMethodDescriptor yX0_settled.desc).map (fun d => d.parameters.length) = some 2 := ⟨mhX0.1, mhX0.2, by decide +kernel⟩
theorem kw695 : Cond.code yX0_settled cX0_settled 7 (some .int) ∈ lw_ok := ok_t3 (i := 215) ⟨rfl, rfl⟩
theorem kw692 : Cond.methodLink RX0 77 yX0_settled ∈ lw_ok := ok_t3 (i := 212) ⟨rfl, rfl⟩
theorem kw694 : Cond.instanceMethod yX0_settled ∈ lw_ok := ok_t3 (i := 214) ⟨rfl, rfl⟩
theorem kp20 : Cond.selects RX0 yX0_settled yX0_settled ∈ lw_ok := ok_pq (i := 20) ⟨rfl, rfl⟩
theorem vX0_77 : CV RX0 77 yX0_settled cX0_settled 7 2 (some .int) := ⟨⟨kw692, kw694, kp20, kw16, kw695⟩, md_X0_settled, by decide⟩
theorem md_X0_isWithinLimits : yX0_isWithinLimits.cls ≠ "java/lang/invoke/MethodHandle" ∧ yX0_isWithinLimits.cls ≠ "java/lang/invoke/VarHandle" ∧ (parseMethodDescriptor yX0_isWithinLimits.desc).map (fun d => d.parameters.length) = some 2 := ⟨mhX0.1, mhX0.2, by decide +kernel⟩
theorem kw703 : Cond.code yX0_isWithinLimits cX0_isWithinLimits 4 (some .boolean) ∈ lw_ok := ok_t3 (i := 223) ⟨rfl, rfl⟩
theorem kw700 : Cond.methodLink RX0 81 yX0_isWithinLimits ∈ lw_ok := ok_t3 (i := 220) ⟨rfl, rfl⟩
theorem kw702 : Cond.instanceMethod yX0_isWithinLimits ∈ lw_ok := ok_t3 (i := 222) ⟨rfl, rfl⟩
theorem kp22 : Cond.selects RX0 yX0_isWithinLimits yX0_isWithinLimits ∈ lw_ok := ok_pq (i := 22) ⟨rfl, rfl⟩
theorem vX0_81 : CV RX0 81 yX0_isWithinLimits cX0_isWithinLimits 4 2 (some .boolean) := ⟨⟨kw700, kw702, kp22, kw16, kw703⟩, md_X0_isWithinLimits, by decide⟩
theorem md_X0_withLastHelpers : yX0_withLastHelpers.cls ≠ "java/lang/invoke/MethodHandle" ∧ yX0_withLastHelpers.cls ≠ "java/lang/invoke/VarHandle" ∧ (parseMethodDescriptor yX0_withLastHelpers.desc).map (fun d => d.parameters.length) = some 2 := ⟨mhX0.1, mhX0.2, by decide +kernel⟩
theorem kw699 : Cond.code yX0_withLastHelpers cX0_withLastHelpers 7 (some .int) ∈ lw_ok := ok_t3 (i := 219) ⟨rfl, rfl⟩
theorem kw696 : Cond.methodLink RX0 84 yX0_withLastHelpers ∈ lw_ok := ok_t3 (i := 216) ⟨rfl, rfl⟩
theorem kw698 : Cond.instanceMethod yX0_withLastHelpers ∈ lw_ok := ok_t3 (i := 218) ⟨rfl, rfl⟩
theorem kp21 : Cond.selects RX0 yX0_withLastHelpers yX0_withLastHelpers ∈ lw_ok := ok_pq (i := 21) ⟨rfl, rfl⟩
theorem vX0_84 : CV RX0 84 yX0_withLastHelpers cX0_withLastHelpers 7 2 (some .int) := ⟨⟨kw696, kw698, kp21, kw16, kw699⟩, md_X0_withLastHelpers, by decide⟩
theorem md_X0_lacking : yX0_lacking.cls ≠ "java/lang/invoke/MethodHandle" ∧ yX0_lacking.cls ≠ "java/lang/invoke/VarHandle" ∧ (parseMethodDescriptor yX0_lacking.desc).map (fun d => d.parameters.length) = some 3 := ⟨mhX0.1, mhX0.2, by decide +kernel⟩
theorem kw707 : Cond.code yX0_lacking cX0_lacking 10 (some .int) ∈ lw_ok := ok_t3 (i := 227) ⟨rfl, rfl⟩
theorem kw704 : Cond.methodLink RX0 87 yX0_lacking ∈ lw_ok := ok_t3 (i := 224) ⟨rfl, rfl⟩
theorem kw706 : Cond.instanceMethod yX0_lacking ∈ lw_ok := ok_t3 (i := 226) ⟨rfl, rfl⟩
theorem kp23 : Cond.selects RX0 yX0_lacking yX0_lacking ∈ lw_ok := ok_pq (i := 23) ⟨rfl, rfl⟩
theorem vX0_87 : CV RX0 87 yX0_lacking cX0_lacking 10 3 (some .int) := ⟨⟨kw704, kw706, kp23, kw16, kw707⟩, md_X0_lacking, by decide⟩
theorem mhJ9 : RJ9 ≠ "java/lang/invoke/MethodHandle" ∧ RJ9 ≠ "java/lang/invoke/VarHandle" := by decide +kernel
theorem md_J9_max_7cf53 : yJ9_max_7cf53.cls ≠ "java/lang/invoke/MethodHandle" ∧ yJ9_max_7cf53.cls ≠ "java/lang/invoke/VarHandle" ∧ (parseMethodDescriptor yJ9_max_7cf53.desc).map (fun d => d.parameters.length) = some 2 := ⟨mhJ9.1, mhJ9.2, by decide +kernel⟩
theorem kw354 : Cond.code yJ9_max_7cf53 cJ9_max_7cf53 2 (some .int) ∈ lw_ok := ok_t2 (i := 114) ⟨rfl, rfl⟩
theorem kw12 : Cond.initialized RJ9 ∈ lw_ok := ok_t1 (i := 12) ⟨rfl, rfl⟩
theorem kw708 : Cond.methodLink RX0 90 yJ9_max_7cf53 ∈ lw_ok := ok_t3 (i := 228) ⟨rfl, rfl⟩
theorem kw353 : Cond.static yJ9_max_7cf53 ∈ lw_ok := ok_t2 (i := 113) ⟨rfl, rfl⟩
theorem sX0_90 : CS RX0 90 yJ9_max_7cf53 cJ9_max_7cf53 2 2 (some .int) := ⟨⟨kw708, kw353, kw12, kw354⟩, md_J9_max_7cf53, by decide⟩
theorem md_X1_addDemand : yX1_addDemand.cls ≠ "java/lang/invoke/MethodHandle" ∧ yX1_addDemand.cls ≠ "java/lang/invoke/VarHandle" ∧ (parseMethodDescriptor yX1_addDemand.desc).map (fun d => d.parameters.length) = some 3 := ⟨mhX1.1, mhX1.2, by decide +kernel⟩
theorem kw579 : Cond.code yX1_addDemand cX1_addDemand 4 none ∈ lw_ok := ok_t3 (i := 99) ⟨rfl, rfl⟩
theorem kw576 : Cond.methodLink RX1 38 yX1_addDemand ∈ lw_ok := ok_t3 (i := 96) ⟨rfl, rfl⟩
theorem kw578 : Cond.instanceMethod yX1_addDemand ∈ lw_ok := ok_t3 (i := 98) ⟨rfl, rfl⟩
theorem kp16 : Cond.selects RX1 yX1_addDemand yX1_addDemand ∈ lw_ok := ok_pq (i := 16) ⟨rfl, rfl⟩
theorem vX1_38 : CV RX1 38 yX1_addDemand cX1_addDemand 4 3 none := ⟨⟨kw576, kw578, kp16, kw8, kw579⟩, md_X1_addDemand, by decide⟩
theorem md_X1_addBond : yX1_addBond.cls ≠ "java/lang/invoke/MethodHandle" ∧ yX1_addBond.cls ≠ "java/lang/invoke/VarHandle" ∧ (parseMethodDescriptor yX1_addBond.desc).map (fun d => d.parameters.length) = some 3 := ⟨mhX1.1, mhX1.2, by decide +kernel⟩
theorem kw583 : Cond.code yX1_addBond cX1_addBond 4 none ∈ lw_ok := ok_t3 (i := 103) ⟨rfl, rfl⟩
theorem kw580 : Cond.methodLink RX1 42 yX1_addBond ∈ lw_ok := ok_t3 (i := 100) ⟨rfl, rfl⟩
theorem kw582 : Cond.instanceMethod yX1_addBond ∈ lw_ok := ok_t3 (i := 102) ⟨rfl, rfl⟩
theorem kp17 : Cond.selects RX1 yX1_addBond yX1_addBond ∈ lw_ok := ok_pq (i := 17) ⟨rfl, rfl⟩
theorem vX1_42 : CV RX1 42 yX1_addBond cX1_addBond 4 3 none := ⟨⟨kw580, kw582, kp17, kw8, kw583⟩, md_X1_addBond, by decide⟩
theorem md_X2_linkersOf : yX2_linkersOf.cls ≠ "java/lang/invoke/MethodHandle" ∧ yX2_linkersOf.cls ≠ "java/lang/invoke/VarHandle" ∧ (parseMethodDescriptor yX2_linkersOf.desc).map (fun d => d.parameters.length) = some 3 := ⟨mhX2.1, mhX2.2, by decide +kernel⟩
theorem kw595 : Cond.code yX2_linkersOf cX2_linkersOf 6 (some .int) ∈ lw_ok := ok_t3 (i := 115) ⟨rfl, rfl⟩
theorem kw592 : Cond.methodLink RX1 54 yX2_linkersOf ∈ lw_ok := ok_t3 (i := 112) ⟨rfl, rfl⟩
theorem kw593 : Cond.instanceMethod yX2_linkersOf ∈ lw_ok := ok_t3 (i := 113) ⟨rfl, rfl⟩
theorem kw594 : Cond.selects RX2 yX2_linkersOf yX2_linkersOf ∈ lw_ok := ok_t3 (i := 114) ⟨rfl, rfl⟩
theorem vX1_54 : CV RX1 54 yX2_linkersOf cX2_linkersOf 6 3 (some .int) := ⟨⟨kw592, kw593, kw594, kw7, kw595⟩, md_X2_linkersOf, by decide⟩
theorem kw600 : Cond.methodLink RX1 58 yJ6_bitCount_0f7a4 ∈ lw_ok := ok_t3 (i := 120) ⟨rfl, rfl⟩
theorem sX1_58 : CS RX1 58 yJ6_bitCount_0f7a4 cJ6_bitCount_0f7a4 1 1 (some .int) := ⟨⟨kw600, kw601, kw15, kw602⟩, md_J6_bitCount_0f7a4, by decide⟩
theorem md_J9_min_7cf53 : yJ9_min_7cf53.cls ≠ "java/lang/invoke/MethodHandle" ∧ yJ9_min_7cf53.cls ≠ "java/lang/invoke/VarHandle" ∧ (parseMethodDescriptor yJ9_min_7cf53.desc).map (fun d => d.parameters.length) = some 2 := ⟨mhJ9.1, mhJ9.2, by decide +kernel⟩
theorem kw357 : Cond.code yJ9_min_7cf53 cJ9_min_7cf53 2 (some .int) ∈ lw_ok := ok_t2 (i := 117) ⟨rfl, rfl⟩
theorem kw606 : Cond.methodLink RX1 64 yJ9_min_7cf53 ∈ lw_ok := ok_t3 (i := 126) ⟨rfl, rfl⟩
theorem kw356 : Cond.static yJ9_min_7cf53 ∈ lw_ok := ok_t2 (i := 116) ⟨rfl, rfl⟩
theorem sX1_64 : CS RX1 64 yJ9_min_7cf53 cJ9_min_7cf53 2 2 (some .int) := ⟨⟨kw606, kw356, kw12, kw357⟩, md_J9_min_7cf53, by decide⟩
theorem mhJ7 : RJ7 ≠ "java/lang/invoke/MethodHandle" ∧ RJ7 ≠ "java/lang/invoke/VarHandle" := by decide +kernel
theorem md_J7_fill_53178 : yJ7_fill_53178.cls ≠ "java/lang/invoke/MethodHandle" ∧ yJ7_fill_53178.cls ≠ "java/lang/invoke/VarHandle" ∧ (parseMethodDescriptor yJ7_fill_53178.desc).map (fun d => d.parameters.length) = some 2 := ⟨mhJ7.1, mhJ7.2, by decide +kernel⟩
theorem kw238 : Cond.code yJ7_fill_53178 cJ7_fill_53178 4 none ∈ lw_ok := ok_t1 (i := 238) ⟨rfl, rfl⟩
theorem kw9 : Cond.initialized RJ7 ∈ lw_ok := ok_t1 (i := 9) ⟨rfl, rfl⟩
theorem kw319 : Cond.methodLink RX2 50 yJ7_fill_53178 ∈ lw_ok := ok_t2 (i := 79) ⟨rfl, rfl⟩
theorem kw237 : Cond.static yJ7_fill_53178 ∈ lw_ok := ok_t1 (i := 237) ⟨rfl, rfl⟩
theorem sX2_50 : CS RX2 50 yJ7_fill_53178 cJ7_fill_53178 4 2 none := ⟨⟨kw319, kw237, kw9, kw238⟩, md_J7_fill_53178, by decide⟩
theorem md_X2_hasColumn : yX2_hasColumn.cls ≠ "java/lang/invoke/MethodHandle" ∧ yX2_hasColumn.cls ≠ "java/lang/invoke/VarHandle" ∧ (parseMethodDescriptor yX2_hasColumn.desc).map (fun d => d.parameters.length) = some 2 := ⟨mhX2.1, mhX2.2, by decide +kernel⟩
theorem kw430 : Cond.code yX2_hasColumn cX2_hasColumn 3 (some .boolean) ∈ lw_ok := ok_t2 (i := 190) ⟨rfl, rfl⟩
theorem kw427 : Cond.methodLink RX2 56 yX2_hasColumn ∈ lw_ok := ok_t2 (i := 187) ⟨rfl, rfl⟩
theorem kw428 : Cond.instanceMethod yX2_hasColumn ∈ lw_ok := ok_t2 (i := 188) ⟨rfl, rfl⟩
theorem kw429 : Cond.selects RX2 yX2_hasColumn yX2_hasColumn ∈ lw_ok := ok_t2 (i := 189) ⟨rfl, rfl⟩
theorem vX2_56 : CV RX2 56 yX2_hasColumn cX2_hasColumn 3 2 (some .boolean) := ⟨⟨kw427, kw428, kw429, kw7, kw430⟩, md_X2_hasColumn, by decide⟩
theorem md_X2_cell : yX2_cell.cls ≠ "java/lang/invoke/MethodHandle" ∧ yX2_cell.cls ≠ "java/lang/invoke/VarHandle" ∧ (parseMethodDescriptor yX2_cell.desc).map (fun d => d.parameters.length) = some 2 := ⟨mhX2.1, mhX2.2, by decide +kernel⟩
theorem kw464 : Cond.code yX2_cell cX2_cell 3 (some .int) ∈ lw_ok := ok_t2 (i := 224) ⟨rfl, rfl⟩
theorem kw478 : Cond.methodLink RX2 64 yX2_cell ∈ lw_ok := ok_t2 (i := 238) ⟨rfl, rfl⟩
theorem kw462 : Cond.instanceMethod yX2_cell ∈ lw_ok := ok_t2 (i := 222) ⟨rfl, rfl⟩
theorem kw463 : Cond.selects RX2 yX2_cell yX2_cell ∈ lw_ok := ok_t2 (i := 223) ⟨rfl, rfl⟩
theorem vX2_64 : CV RX2 64 yX2_cell cX2_cell 3 2 (some .int) := ⟨⟨kw478, kw462, kw463, kw7, kw464⟩, md_X2_cell, by decide⟩
theorem kw774 : Cond.methodLink RX2 70 yJ9_max_7cf53 ∈ lw_ok := ok_t4 (i := 54) ⟨rfl, rfl⟩
theorem sX2_70 : CS RX2 70 yJ9_max_7cf53 cJ9_max_7cf53 2 2 (some .int) := ⟨⟨kw774, kw353, kw12, kw354⟩, md_J9_max_7cf53, by decide⟩
theorem md_X2_firstFree : yX2_firstFree.cls ≠ "java/lang/invoke/MethodHandle" ∧ yX2_firstFree.cls ≠ "java/lang/invoke/VarHandle" ∧ (parseMethodDescriptor yX2_firstFree.desc).map (fun d => d.parameters.length) = some 1 := ⟨mhX2.1, mhX2.2, by decide +kernel⟩
theorem kw716 : Cond.code yX2_firstFree cX2_firstFree 3 (some .int) ∈ lw_ok := ok_t3 (i := 236) ⟨rfl, rfl⟩
theorem kw713 : Cond.methodLink RX2 75 yX2_firstFree ∈ lw_ok := ok_t3 (i := 233) ⟨rfl, rfl⟩
theorem kw715 : Cond.instanceMethod yX2_firstFree ∈ lw_ok := ok_t3 (i := 235) ⟨rfl, rfl⟩
theorem kp24 : Cond.selects RX2 yX2_firstFree yX2_firstFree ∈ lw_ok := ok_pq (i := 24) ⟨rfl, rfl⟩
theorem vX2_75 : CV RX2 75 yX2_firstFree cX2_firstFree 3 1 (some .int) := ⟨⟨kw713, kw715, kp24, kw7, kw716⟩, md_X2_firstFree, by decide⟩
theorem md_X2_target : yX2_target.cls ≠ "java/lang/invoke/MethodHandle" ∧ yX2_target.cls ≠ "java/lang/invoke/VarHandle" ∧ (parseMethodDescriptor yX2_target.desc).map (fun d => d.parameters.length) = some 2 := ⟨mhX2.1, mhX2.2, by decide +kernel⟩
theorem kw456 : Cond.code yX2_target cX2_target 3 (some .int) ∈ lw_ok := ok_t2 (i := 216) ⟨rfl, rfl⟩
theorem kw477 : Cond.methodLink RX2 79 yX2_target ∈ lw_ok := ok_t2 (i := 237) ⟨rfl, rfl⟩
theorem kw454 : Cond.instanceMethod yX2_target ∈ lw_ok := ok_t2 (i := 214) ⟨rfl, rfl⟩
theorem kw455 : Cond.selects RX2 yX2_target yX2_target ∈ lw_ok := ok_t2 (i := 215) ⟨rfl, rfl⟩
theorem vX2_79 : CV RX2 79 yX2_target cX2_target 3 2 (some .int) := ⟨⟨kw477, kw454, kw455, kw7, kw456⟩, md_X2_target, by decide⟩
theorem md_X2_hasRow : yX2_hasRow.cls ≠ "java/lang/invoke/MethodHandle" ∧ yX2_hasRow.cls ≠ "java/lang/invoke/VarHandle" ∧ (parseMethodDescriptor yX2_hasRow.desc).map (fun d => d.parameters.length) = some 1 := ⟨mhX2.1, mhX2.2, by decide +kernel⟩
theorem kw482 : Cond.code yX2_hasRow cX2_hasRow 2 (some .boolean) ∈ lw_ok := ok_t3 (i := 2) ⟨rfl, rfl⟩
theorem kw479 : Cond.methodLink RX2 82 yX2_hasRow ∈ lw_ok := ok_t2 (i := 239) ⟨rfl, rfl⟩
theorem kw480 : Cond.instanceMethod yX2_hasRow ∈ lw_ok := ok_t3 (i := 0) ⟨rfl, rfl⟩
theorem kw481 : Cond.selects RX2 yX2_hasRow yX2_hasRow ∈ lw_ok := ok_t3 (i := 1) ⟨rfl, rfl⟩
theorem vX2_82 : CV RX2 82 yX2_hasRow cX2_hasRow 2 1 (some .boolean) := ⟨⟨kw479, kw480, kw481, kw7, kw482⟩, md_X2_hasRow, by decide⟩
theorem mhX4 : RX4 ≠ "java/lang/invoke/MethodHandle" ∧ RX4 ≠ "java/lang/invoke/VarHandle" := by decide +kernel
theorem md_X4_takeTable : yX4_takeTable.cls ≠ "java/lang/invoke/MethodHandle" ∧ yX4_takeTable.cls ≠ "java/lang/invoke/VarHandle" ∧ (parseMethodDescriptor yX4_takeTable.desc).map (fun d => d.parameters.length) = some 1 := ⟨mhX4.1, mhX4.2, by decide +kernel⟩
theorem kw438 : Cond.code yX4_takeTable cX4_takeTable 3 (some .int) ∈ lw_ok := ok_t2 (i := 198) ⟨rfl, rfl⟩
theorem kw2 : Cond.initialized RX4 ∈ lw_ok := ok_t1 (i := 2) ⟨rfl, rfl⟩
theorem kw435 : Cond.methodLink RX3 109 yX4_takeTable ∈ lw_ok := ok_t2 (i := 195) ⟨rfl, rfl⟩
theorem kw436 : Cond.instanceMethod yX4_takeTable ∈ lw_ok := ok_t2 (i := 196) ⟨rfl, rfl⟩
theorem kw437 : Cond.selects RX4 yX4_takeTable yX4_takeTable ∈ lw_ok := ok_t2 (i := 197) ⟨rfl, rfl⟩
theorem vX3_109 : CV RX3 109 yX4_takeTable cX4_takeTable 3 1 (some .int) := ⟨⟨kw435, kw436, kw437, kw2, kw438⟩, md_X4_takeTable, by decide⟩
theorem md_X2_hasTable : yX2_hasTable.cls ≠ "java/lang/invoke/MethodHandle" ∧ yX2_hasTable.cls ≠ "java/lang/invoke/VarHandle" ∧ (parseMethodDescriptor yX2_hasTable.desc).map (fun d => d.parameters.length) = some 1 := ⟨mhX2.1, mhX2.2, by decide +kernel⟩
theorem kw447 : Cond.code yX2_hasTable cX2_hasTable 2 (some .boolean) ∈ lw_ok := ok_t2 (i := 207) ⟨rfl, rfl⟩
theorem kw444 : Cond.methodLink RX3 113 yX2_hasTable ∈ lw_ok := ok_t2 (i := 204) ⟨rfl, rfl⟩
theorem kw445 : Cond.instanceMethod yX2_hasTable ∈ lw_ok := ok_t2 (i := 205) ⟨rfl, rfl⟩
theorem kw446 : Cond.selects RX2 yX2_hasTable yX2_hasTable ∈ lw_ok := ok_t2 (i := 206) ⟨rfl, rfl⟩
theorem vX3_113 : CV RX3 113 yX2_hasTable cX2_hasTable 2 1 (some .boolean) := ⟨⟨kw444, kw445, kw446, kw7, kw447⟩, md_X2_hasTable, by decide⟩
theorem mhX3 : RX3 ≠ "java/lang/invoke/MethodHandle" ∧ RX3 ≠ "java/lang/invoke/VarHandle" := by decide +kernel
theorem md_X3_readValue : yX3_readValue.cls ≠ "java/lang/invoke/MethodHandle" ∧ yX3_readValue.cls ≠ "java/lang/invoke/VarHandle" ∧ (parseMethodDescriptor yX3_readValue.desc).map (fun d => d.parameters.length) = some 2 := ⟨mhX3.1, mhX3.2, by decide +kernel⟩
theorem kw451 : Cond.code yX3_readValue cX3_readValue 5 none ∈ lw_ok := ok_t2 (i := 211) ⟨rfl, rfl⟩
theorem kw11 : Cond.initialized RX3 ∈ lw_ok := ok_t1 (i := 11) ⟨rfl, rfl⟩
theorem kw448 : Cond.methodLink RX3 122 yX3_readValue ∈ lw_ok := ok_t2 (i := 208) ⟨rfl, rfl⟩
theorem kw450 : Cond.instanceMethod yX3_readValue ∈ lw_ok := ok_t2 (i := 210) ⟨rfl, rfl⟩
theorem kp5 : Cond.selects RX3 yX3_readValue yX3_readValue ∈ lw_ok := ok_pq (i := 5) ⟨rfl, rfl⟩
theorem vX3_122 : CV RX3 122 yX3_readValue cX3_readValue 5 2 none := ⟨⟨kw448, kw450, kp5, kw11, kw451⟩, md_X3_readValue, by decide⟩
theorem kw452 : Cond.methodLink RX3 125 yX2_hasColumn ∈ lw_ok := ok_t2 (i := 212) ⟨rfl, rfl⟩
theorem vX3_125 : CV RX3 125 yX2_hasColumn cX2_hasColumn 3 2 (some .boolean) := ⟨⟨kw452, kw428, kw429, kw7, kw430⟩, md_X2_hasColumn, by decide⟩
theorem kw453 : Cond.methodLink RX3 129 yX2_target ∈ lw_ok := ok_t2 (i := 213) ⟨rfl, rfl⟩
theorem vX3_129 : CV RX3 129 yX2_target cX2_target 3 2 (some .int) := ⟨⟨kw453, kw454, kw455, kw7, kw456⟩, md_X2_target, by decide⟩
theorem kw461 : Cond.methodLink RX3 141 yX2_cell ∈ lw_ok := ok_t2 (i := 221) ⟨rfl, rfl⟩
theorem vX3_141 : CV RX3 141 yX2_cell cX2_cell 3 2 (some .int) := ⟨⟨kw461, kw462, kw463, kw7, kw464⟩, md_X2_cell, by decide⟩
theorem md_X2_rowOf : yX2_rowOf.cls ≠ "java/lang/invoke/MethodHandle" ∧ yX2_rowOf.cls ≠ "java/lang/invoke/VarHandle" ∧ (parseMethodDescriptor yX2_rowOf.desc).map (fun d => d.parameters.length) = some 2 := ⟨mhX2.1, mhX2.2, by decide +kernel⟩
theorem kw468 : Cond.code yX2_rowOf cX2_rowOf 4 (some .int) ∈ lw_ok := ok_t2 (i := 228) ⟨rfl, rfl⟩
theorem kw465 : Cond.methodLink RX3 144 yX2_rowOf ∈ lw_ok := ok_t2 (i := 225) ⟨rfl, rfl⟩
theorem kw466 : Cond.instanceMethod yX2_rowOf ∈ lw_ok := ok_t2 (i := 226) ⟨rfl, rfl⟩
theorem kw467 : Cond.selects RX2 yX2_rowOf yX2_rowOf ∈ lw_ok := ok_t2 (i := 227) ⟨rfl, rfl⟩
theorem vX3_144 : CV RX3 144 yX2_rowOf cX2_rowOf 4 2 (some .int) := ⟨⟨kw465, kw466, kw467, kw7, kw468⟩, md_X2_rowOf, by decide⟩
theorem md_X3_joinLink : yX3_joinLink.cls ≠ "java/lang/invoke/MethodHandle" ∧ yX3_joinLink.cls ≠ "java/lang/invoke/VarHandle" ∧ (parseMethodDescriptor yX3_joinLink.desc).map (fun d => d.parameters.length) = some 3 := ⟨mhX3.1, mhX3.2, by decide +kernel⟩
theorem kw472 : Cond.code yX3_joinLink cX3_joinLink 4 none ∈ lw_ok := ok_t2 (i := 232) ⟨rfl, rfl⟩
theorem kw469 : Cond.methodLink RX3 147 yX3_joinLink ∈ lw_ok := ok_t2 (i := 229) ⟨rfl, rfl⟩
theorem kw471 : Cond.instanceMethod yX3_joinLink ∈ lw_ok := ok_t2 (i := 231) ⟨rfl, rfl⟩
theorem kp7 : Cond.selects RX3 yX3_joinLink yX3_joinLink ∈ lw_ok := ok_pq (i := 7) ⟨rfl, rfl⟩
theorem vX3_147 : CV RX3 147 yX3_joinLink cX3_joinLink 4 3 none := ⟨⟨kw469, kw471, kp7, kw11, kw472⟩, md_X3_joinLink, by decide⟩
theorem md_X2_clear : yX2_clear.cls ≠ "java/lang/invoke/MethodHandle" ∧ yX2_clear.cls ≠ "java/lang/invoke/VarHandle" ∧ (parseMethodDescriptor yX2_clear.desc).map (fun d => d.parameters.length) = some 0 := ⟨mhX2.1, mhX2.2, by decide +kernel⟩
theorem kw318 : Cond.code yX2_clear cX2_clear 1 none ∈ lw_ok := ok_t2 (i := 78) ⟨rfl, rfl⟩
theorem kw315 : Cond.methodLink RX3 19 yX2_clear ∈ lw_ok := ok_t2 (i := 75) ⟨rfl, rfl⟩
theorem kw316 : Cond.instanceMethod yX2_clear ∈ lw_ok := ok_t2 (i := 76) ⟨rfl, rfl⟩
theorem kw317 : Cond.selects RX2 yX2_clear yX2_clear ∈ lw_ok := ok_t2 (i := 77) ⟨rfl, rfl⟩
theorem vX3_19 : CV RX3 19 yX2_clear cX2_clear 1 0 none := ⟨⟨kw315, kw316, kw317, kw7, kw318⟩, md_X2_clear, by decide⟩
theorem md_X4_open : yX4_open.cls ≠ "java/lang/invoke/MethodHandle" ∧ yX4_open.cls ≠ "java/lang/invoke/VarHandle" ∧ (parseMethodDescriptor yX4_open.desc).map (fun d => d.parameters.length) = some 1 := ⟨mhX4.1, mhX4.2, by decide +kernel⟩
theorem kw323 : Cond.code yX4_open cX4_open 2 none ∈ lw_ok := ok_t2 (i := 83) ⟨rfl, rfl⟩
theorem kw320 : Cond.methodLink RX3 24 yX4_open ∈ lw_ok := ok_t2 (i := 80) ⟨rfl, rfl⟩
theorem kw321 : Cond.instanceMethod yX4_open ∈ lw_ok := ok_t2 (i := 81) ⟨rfl, rfl⟩
theorem kw322 : Cond.selects RX4 yX4_open yX4_open ∈ lw_ok := ok_t2 (i := 82) ⟨rfl, rfl⟩
theorem vX3_24 : CV RX3 24 yX4_open cX4_open 2 1 none := ⟨⟨kw320, kw321, kw322, kw2, kw323⟩, md_X4_open, by decide⟩
theorem md_X3_readTable : yX3_readTable.cls ≠ "java/lang/invoke/MethodHandle" ∧ yX3_readTable.cls ≠ "java/lang/invoke/VarHandle" ∧ (parseMethodDescriptor yX3_readTable.desc).map (fun d => d.parameters.length) = some 1 := ⟨mhX3.1, mhX3.2, by decide +kernel⟩
theorem kw399 : Cond.code yX3_readTable cX3_readTable 6 none ∈ lw_ok := ok_t2 (i := 159) ⟨rfl, rfl⟩
theorem kw396 : Cond.methodLink RX3 40 yX3_readTable ∈ lw_ok := ok_t2 (i := 156) ⟨rfl, rfl⟩
theorem kw398 : Cond.instanceMethod yX3_readTable ∈ lw_ok := ok_t2 (i := 158) ⟨rfl, rfl⟩
theorem kp2 : Cond.selects RX3 yX3_readTable yX3_readTable ∈ lw_ok := ok_pq (i := 2) ⟨rfl, rfl⟩
theorem vX3_40 : CV RX3 40 yX3_readTable cX3_readTable 6 1 none := ⟨⟨kw396, kw398, kp2, kw11, kw399⟩, md_X3_readTable, by decide⟩
theorem md_X3_readRow : yX3_readRow.cls ≠ "java/lang/invoke/MethodHandle" ∧ yX3_readRow.cls ≠ "java/lang/invoke/VarHandle" ∧ (parseMethodDescriptor yX3_readRow.desc).map (fun d => d.parameters.length) = some 1 := ⟨mhX3.1, mhX3.2, by decide +kernel⟩
theorem kw443 : Cond.code yX3_readRow cX3_readRow 5 none ∈ lw_ok := ok_t2 (i := 203) ⟨rfl, rfl⟩
theorem kw440 : Cond.methodLink RX3 47 yX3_readRow ∈ lw_ok := ok_t2 (i := 200) ⟨rfl, rfl⟩
theorem kw442 : Cond.instanceMethod yX3_readRow ∈ lw_ok := ok_t2 (i := 202) ⟨rfl, rfl⟩
theorem kp4 : Cond.selects RX3 yX3_readRow yX3_readRow ∈ lw_ok := ok_pq (i := 4) ⟨rfl, rfl⟩
theorem vX3_47 : CV RX3 47 yX3_readRow cX3_readRow 5 1 none := ⟨⟨kw440, kw442, kp4, kw11, kw443⟩, md_X3_readRow, by decide⟩
theorem md_X4_refuseToken : yX4_refuseToken.cls ≠ "java/lang/invoke/MethodHandle" ∧ yX4_refuseToken.cls ≠ "java/lang/invoke/VarHandle" ∧ (parseMethodDescriptor yX4_refuseToken.desc).map (fun d => d.parameters.length) = some 0 := ⟨mhX4.1, mhX4.2, by decide +kernel⟩
theorem kw416 : Cond.code yX4_refuseToken cX4_refuseToken 1 none ∈ lw_ok := ok_t2 (i := 176) ⟨rfl, rfl⟩
theorem kw422 : Cond.methodLink RX3 50 yX4_refuseToken ∈ lw_ok := ok_t2 (i := 182) ⟨rfl, rfl⟩
theorem kw414 : Cond.instanceMethod yX4_refuseToken ∈ lw_ok := ok_t2 (i := 174) ⟨rfl, rfl⟩
theorem kw415 : Cond.selects RX4 yX4_refuseToken yX4_refuseToken ∈ lw_ok := ok_t2 (i := 175) ⟨rfl, rfl⟩
theorem vX3_50 : CV RX3 50 yX4_refuseToken cX4_refuseToken 1 0 none := ⟨⟨kw422, kw414, kw415, kw2, kw416⟩, md_X4_refuseToken, by decide⟩
theorem md_X3_joinLinks : yX3_joinLinks.cls ≠ "java/lang/invoke/MethodHandle" ∧ yX3_joinLinks.cls ≠ "java/lang/invoke/VarHandle" ∧ (parseMethodDescriptor yX3_joinLinks.desc).map (fun d => d.parameters.length) = some 0 := ⟨mhX3.1, mhX3.2, by decide +kernel⟩
theorem kw460 : Cond.code yX3_joinLinks cX3_joinLinks 6 none ∈ lw_ok := ok_t2 (i := 220) ⟨rfl, rfl⟩
theorem kw457 : Cond.methodLink RX3 53 yX3_joinLinks ∈ lw_ok := ok_t2 (i := 217) ⟨rfl, rfl⟩
theorem kw459 : Cond.instanceMethod yX3_joinLinks ∈ lw_ok := ok_t2 (i := 219) ⟨rfl, rfl⟩
theorem kp6 : Cond.selects RX3 yX3_joinLinks yX3_joinLinks ∈ lw_ok := ok_pq (i := 6) ⟨rfl, rfl⟩
theorem vX3_53 : CV RX3 53 yX3_joinLinks cX3_joinLinks 6 0 none := ⟨⟨kw457, kw459, kp6, kw11, kw460⟩, md_X3_joinLinks, by decide⟩
theorem md_X2_findLinks : yX2_findLinks.cls ≠ "java/lang/invoke/MethodHandle" ∧ yX2_findLinks.cls ≠ "java/lang/invoke/VarHandle" ∧ (parseMethodDescriptor yX2_findLinks.desc).map (fun d => d.parameters.length) = some 0 := ⟨mhX2.1, mhX2.2, by decide +kernel⟩
theorem kw476 : Cond.code yX2_findLinks cX2_findLinks 3 none ∈ lw_ok := ok_t2 (i := 236) ⟨rfl, rfl⟩
theorem kw473 : Cond.methodLink RX3 56 yX2_findLinks ∈ lw_ok := ok_t2 (i := 233) ⟨rfl, rfl⟩
theorem kw474 : Cond.instanceMethod yX2_findLinks ∈ lw_ok := ok_t2 (i := 234) ⟨rfl, rfl⟩
theorem kw475 : Cond.selects RX2 yX2_findLinks yX2_findLinks ∈ lw_ok := ok_t2 (i := 235) ⟨rfl, rfl⟩
theorem vX3_56 : CV RX3 56 yX2_findLinks cX2_findLinks 3 0 none := ⟨⟨kw473, kw474, kw475, kw7, kw476⟩, md_X2_findLinks, by decide⟩
theorem md_X4_advance : yX4_advance.cls ≠ "java/lang/invoke/MethodHandle" ∧ yX4_advance.cls ≠ "java/lang/invoke/VarHandle" ∧ (parseMethodDescriptor yX4_advance.desc).map (fun d => d.parameters.length) = some 0 := ⟨mhX4.1, mhX4.2, by decide +kernel⟩
theorem kw328 : Cond.code yX4_advance cX4_advance 2 none ∈ lw_ok := ok_t2 (i := 88) ⟨rfl, rfl⟩
theorem kw400 : Cond.methodLink RX3 59 yX4_advance ∈ lw_ok := ok_t2 (i := 160) ⟨rfl, rfl⟩
theorem kw326 : Cond.instanceMethod yX4_advance ∈ lw_ok := ok_t2 (i := 86) ⟨rfl, rfl⟩
theorem kw327 : Cond.selects RX4 yX4_advance yX4_advance ∈ lw_ok := ok_t2 (i := 87) ⟨rfl, rfl⟩
theorem vX3_59 : CV RX3 59 yX4_advance cX4_advance 2 0 none := ⟨⟨kw400, kw326, kw327, kw2, kw328⟩, md_X4_advance, by decide⟩
theorem md_X2_tableNamed : yX2_tableNamed.cls ≠ "java/lang/invoke/MethodHandle" ∧ yX2_tableNamed.cls ≠ "java/lang/invoke/VarHandle" ∧ (parseMethodDescriptor yX2_tableNamed.desc).map (fun d => d.parameters.length) = some 1 := ⟨mhX2.1, mhX2.2, by decide +kernel⟩
theorem kw404 : Cond.code yX2_tableNamed cX2_tableNamed 4 (some .int) ∈ lw_ok := ok_t2 (i := 164) ⟨rfl, rfl⟩
theorem kw401 : Cond.methodLink RX3 66 yX2_tableNamed ∈ lw_ok := ok_t2 (i := 161) ⟨rfl, rfl⟩
theorem kw402 : Cond.instanceMethod yX2_tableNamed ∈ lw_ok := ok_t2 (i := 162) ⟨rfl, rfl⟩
theorem kw403 : Cond.selects RX2 yX2_tableNamed yX2_tableNamed ∈ lw_ok := ok_t2 (i := 163) ⟨rfl, rfl⟩
theorem vX3_66 : CV RX3 66 yX2_tableNamed cX2_tableNamed 4 1 (some .int) := ⟨⟨kw401, kw402, kw403, kw7, kw404⟩, md_X2_tableNamed, by decide⟩
theorem md_X4_refuse : yX4_refuse.cls ≠ "java/lang/invoke/MethodHandle" ∧ yX4_refuse.cls ≠ "java/lang/invoke/VarHandle" ∧ (parseMethodDescriptor yX4_refuse.desc).map (fun d => d.parameters.length) = some 2 := ⟨mhX4.1, mhX4.2, by decide +kernel⟩
theorem kw408 : Cond.code yX4_refuse cX4_refuse 3 none ∈ lw_ok := ok_t2 (i := 168) ⟨rfl, rfl⟩
theorem kw405 : Cond.methodLink RX3 73 yX4_refuse ∈ lw_ok := ok_t2 (i := 165) ⟨rfl, rfl⟩
theorem kw406 : Cond.instanceMethod yX4_refuse ∈ lw_ok := ok_t2 (i := 166) ⟨rfl, rfl⟩
theorem kw407 : Cond.selects RX4 yX4_refuse yX4_refuse ∈ lw_ok := ok_t2 (i := 167) ⟨rfl, rfl⟩
theorem vX3_73 : CV RX3 73 yX4_refuse cX4_refuse 3 2 none := ⟨⟨kw405, kw406, kw407, kw2, kw408⟩, md_X4_refuse, by decide⟩
theorem md_X4_take : yX4_take.cls ≠ "java/lang/invoke/MethodHandle" ∧ yX4_take.cls ≠ "java/lang/invoke/VarHandle" ∧ (parseMethodDescriptor yX4_take.desc).map (fun d => d.parameters.length) = some 1 := ⟨mhX4.1, mhX4.2, by decide +kernel⟩
theorem kw412 : Cond.code yX4_take cX4_take 2 (some .boolean) ∈ lw_ok := ok_t2 (i := 172) ⟨rfl, rfl⟩
theorem kw409 : Cond.methodLink RX3 77 yX4_take ∈ lw_ok := ok_t2 (i := 169) ⟨rfl, rfl⟩
theorem kw410 : Cond.instanceMethod yX4_take ∈ lw_ok := ok_t2 (i := 170) ⟨rfl, rfl⟩
theorem kw411 : Cond.selects RX4 yX4_take yX4_take ∈ lw_ok := ok_t2 (i := 171) ⟨rfl, rfl⟩
theorem vX3_77 : CV RX3 77 yX4_take cX4_take 2 1 (some .boolean) := ⟨⟨kw409, kw410, kw411, kw2, kw412⟩, md_X4_take, by decide⟩
theorem md_X3_readColumn : yX3_readColumn.cls ≠ "java/lang/invoke/MethodHandle" ∧ yX3_readColumn.cls ≠ "java/lang/invoke/VarHandle" ∧ (parseMethodDescriptor yX3_readColumn.desc).map (fun d => d.parameters.length) = some 1 := ⟨mhX3.1, mhX3.2, by decide +kernel⟩
theorem kw421 : Cond.code yX3_readColumn cX3_readColumn 3 none ∈ lw_ok := ok_t2 (i := 181) ⟨rfl, rfl⟩
theorem kw418 : Cond.methodLink RX3 92 yX3_readColumn ∈ lw_ok := ok_t2 (i := 178) ⟨rfl, rfl⟩
theorem kw420 : Cond.instanceMethod yX3_readColumn ∈ lw_ok := ok_t2 (i := 180) ⟨rfl, rfl⟩
theorem kp3 : Cond.selects RX3 yX3_readColumn yX3_readColumn ∈ lw_ok := ok_pq (i := 3) ⟨rfl, rfl⟩
theorem vX3_92 : CV RX3 92 yX3_readColumn cX3_readColumn 3 1 none := ⟨⟨kw418, kw420, kp3, kw11, kw421⟩, md_X3_readColumn, by decide⟩
theorem md_X2_columnNamed : yX2_columnNamed.cls ≠ "java/lang/invoke/MethodHandle" ∧ yX2_columnNamed.cls ≠ "java/lang/invoke/VarHandle" ∧ (parseMethodDescriptor yX2_columnNamed.desc).map (fun d => d.parameters.length) = some 2 := ⟨mhX2.1, mhX2.2, by decide +kernel⟩
theorem kw426 : Cond.code yX2_columnNamed cX2_columnNamed 5 (some .int) ∈ lw_ok := ok_t2 (i := 186) ⟨rfl, rfl⟩
theorem kw423 : Cond.methodLink RX3 95 yX2_columnNamed ∈ lw_ok := ok_t2 (i := 183) ⟨rfl, rfl⟩
theorem kw424 : Cond.instanceMethod yX2_columnNamed ∈ lw_ok := ok_t2 (i := 184) ⟨rfl, rfl⟩
theorem kw425 : Cond.selects RX2 yX2_columnNamed yX2_columnNamed ∈ lw_ok := ok_t2 (i := 185) ⟨rfl, rfl⟩
theorem vX3_95 : CV RX3 95 yX2_columnNamed cX2_columnNamed 5 2 (some .int) := ⟨⟨kw423, kw424, kw425, kw7, kw426⟩, md_X2_columnNamed, by decide⟩
theorem mhJ0 : RJ0 ≠ "java/lang/invoke/MethodHandle" ∧ RJ0 ≠ "java/lang/invoke/VarHandle" := by decide +kernel
theorem md_J0_length_8abf5 : yJ0_length_8abf5.cls ≠ "java/lang/invoke/MethodHandle" ∧ yJ0_length_8abf5.cls ≠ "java/lang/invoke/VarHandle" ∧ (parseMethodDescriptor yJ0_length_8abf5.desc).map (fun d => d.parameters.length) = some 0 := ⟨mhJ0.1, mhJ0.2, by decide +kernel⟩
theorem kw36 : Cond.code yJ0_length_8abf5 cJ0_length_8abf5 1 (some .int) ∈ lw_ok := ok_t1 (i := 36) ⟨rfl, rfl⟩
theorem kw3 : Cond.initialized RJ0 ∈ lw_ok := ok_t1 (i := 3) ⟨rfl, rfl⟩
theorem kw33 : Cond.methodLink RX4 31 yJ0_length_8abf5 ∈ lw_ok := ok_t1 (i := 33) ⟨rfl, rfl⟩
theorem kw34 : Cond.instanceMethod yJ0_length_8abf5 ∈ lw_ok := ok_t1 (i := 34) ⟨rfl, rfl⟩
theorem kw35 : Cond.selects RJ0 yJ0_length_8abf5 yJ0_length_8abf5 ∈ lw_ok := ok_t1 (i := 35) ⟨rfl, rfl⟩
theorem vX4_31 : CV RX4 31 yJ0_length_8abf5 cJ0_length_8abf5 1 0 (some .int) := ⟨⟨kw33, kw34, kw35, kw3, kw36⟩, md_J0_length_8abf5, by decide⟩
theorem md_J0_charAt_5068e : yJ0_charAt_5068e.cls ≠ "java/lang/invoke/MethodHandle" ∧ yJ0_charAt_5068e.cls ≠ "java/lang/invoke/VarHandle" ∧ (parseMethodDescriptor yJ0_charAt_5068e.desc).map (fun d => d.parameters.length) = some 1 := ⟨mhJ0.1, mhJ0.2, by decide +kernel⟩
theorem kw46 : Cond.code yJ0_charAt_5068e cJ0_charAt_5068e 2 (some .char) ∈ lw_ok := ok_t1 (i := 46) ⟨rfl, rfl⟩
theorem kw43 : Cond.methodLink RX4 37 yJ0_charAt_5068e ∈ lw_ok := ok_t1 (i := 43) ⟨rfl, rfl⟩
theorem kw44 : Cond.instanceMethod yJ0_charAt_5068e ∈ lw_ok := ok_t1 (i := 44) ⟨rfl, rfl⟩
theorem kw45 : Cond.selects RJ0 yJ0_charAt_5068e yJ0_charAt_5068e ∈ lw_ok := ok_t1 (i := 45) ⟨rfl, rfl⟩
theorem vX4_37 : CV RX4 37 yJ0_charAt_5068e cJ0_charAt_5068e 2 1 (some .char) := ⟨⟨kw43, kw44, kw45, kw3, kw46⟩, md_J0_charAt_5068e, by decide⟩
theorem kw325 : Cond.methodLink RX4 53 yX4_advance ∈ lw_ok := ok_t2 (i := 85) ⟨rfl, rfl⟩
theorem vX4_53 : CV RX4 53 yX4_advance cX4_advance 2 0 none := ⟨⟨kw325, kw326, kw327, kw2, kw328⟩, md_X4_advance, by decide⟩
theorem md_X4_readWord : yX4_readWord.cls ≠ "java/lang/invoke/MethodHandle" ∧ yX4_readWord.cls ≠ "java/lang/invoke/VarHandle" ∧ (parseMethodDescriptor yX4_readWord.desc).map (fun d => d.parameters.length) = some 0 := ⟨mhX4.1, mhX4.2, by decide +kernel⟩
theorem kw332 : Cond.code yX4_readWord cX4_readWord 2 none ∈ lw_ok := ok_t2 (i := 92) ⟨rfl, rfl⟩
theorem kw329 : Cond.methodLink RX4 62 yX4_readWord ∈ lw_ok := ok_t2 (i := 89) ⟨rfl, rfl⟩
theorem kw331 : Cond.instanceMethod yX4_readWord ∈ lw_ok := ok_t2 (i := 91) ⟨rfl, rfl⟩
theorem kp0 : Cond.selects RX4 yX4_readWord yX4_readWord ∈ lw_ok := ok_pq (i := 0) ⟨rfl, rfl⟩
theorem vX4_62 : CV RX4 62 yX4_readWord cX4_readWord 2 0 none := ⟨⟨kw329, kw331, kp0, kw2, kw332⟩, md_X4_readWord, by decide⟩
theorem md_X4_readNumber : yX4_readNumber.cls ≠ "java/lang/invoke/MethodHandle" ∧ yX4_readNumber.cls ≠ "java/lang/invoke/VarHandle" ∧ (parseMethodDescriptor yX4_readNumber.desc).map (fun d => d.parameters.length) = some 0 := ⟨mhX4.1, mhX4.2, by decide +kernel⟩
theorem kw336 : Cond.code yX4_readNumber cX4_readNumber 2 none ∈ lw_ok := ok_t2 (i := 96) ⟨rfl, rfl⟩
theorem kw333 : Cond.methodLink RX4 65 yX4_readNumber ∈ lw_ok := ok_t2 (i := 93) ⟨rfl, rfl⟩
theorem kw335 : Cond.instanceMethod yX4_readNumber ∈ lw_ok := ok_t2 (i := 95) ⟨rfl, rfl⟩
theorem kp1 : Cond.selects RX4 yX4_readNumber yX4_readNumber ∈ lw_ok := ok_pq (i := 1) ⟨rfl, rfl⟩
theorem vX4_65 : CV RX4 65 yX4_readNumber cX4_readNumber 2 0 none := ⟨⟨kw333, kw335, kp1, kw2, kw336⟩, md_X4_readNumber, by decide⟩
theorem md_J0_indexOf_0f7a4 : yJ0_indexOf_0f7a4.cls ≠ "java/lang/invoke/MethodHandle" ∧ yJ0_indexOf_0f7a4.cls ≠ "java/lang/invoke/VarHandle" ∧ (parseMethodDescriptor yJ0_indexOf_0f7a4.desc).map (fun d => d.parameters.length) = some 1 := ⟨mhJ0.1, mhJ0.2, by decide +kernel⟩
theorem kw340 : Cond.code yJ0_indexOf_0f7a4 cJ0_indexOf_0f7a4 2 (some .int) ∈ lw_ok := ok_t2 (i := 100) ⟨rfl, rfl⟩
theorem kw337 : Cond.methodLink RX4 68 yJ0_indexOf_0f7a4 ∈ lw_ok := ok_t2 (i := 97) ⟨rfl, rfl⟩
theorem kw338 : Cond.instanceMethod yJ0_indexOf_0f7a4 ∈ lw_ok := ok_t2 (i := 98) ⟨rfl, rfl⟩
theorem kw339 : Cond.selects RJ0 yJ0_indexOf_0f7a4 yJ0_indexOf_0f7a4 ∈ lw_ok := ok_t2 (i := 99) ⟨rfl, rfl⟩
theorem vX4_68 : CV RX4 68 yJ0_indexOf_0f7a4 cJ0_indexOf_0f7a4 2 1 (some .int) := ⟨⟨kw337, kw338, kw339, kw3, kw340⟩, md_J0_indexOf_0f7a4, by decide⟩
theorem kw417 : Cond.methodLink RX4 72 yX4_refuse ∈ lw_ok := ok_t2 (i := 177) ⟨rfl, rfl⟩
theorem vX4_72 : CV RX4 72 yX4_refuse cX4_refuse 3 2 none := ⟨⟨kw417, kw406, kw407, kw2, kw408⟩, md_X4_refuse, by decide⟩
theorem kw413 : Cond.methodLink RX4 76 yX4_refuseToken ∈ lw_ok := ok_t2 (i := 173) ⟨rfl, rfl⟩
theorem vX4_76 : CV RX4 76 yX4_refuseToken cX4_refuseToken 1 0 none := ⟨⟨kw413, kw414, kw415, kw2, kw416⟩, md_X4_refuseToken, by decide⟩
theorem kw439 : Cond.methodLink RX4 83 yX2_tableNamed ∈ lw_ok := ok_t2 (i := 199) ⟨rfl, rfl⟩
theorem vX4_83 : CV RX4 83 yX2_tableNamed cX2_tableNamed 4 1 (some .int) := ⟨⟨kw439, kw402, kw403, kw7, kw404⟩, md_X2_tableNamed, by decide⟩
theorem kw538 : Cond.methodLink RX5 100 yX4_refuse ∈ lw_ok := ok_t3 (i := 58) ⟨rfl, rfl⟩
theorem vX5_100 : CV RX5 100 yX4_refuse cX4_refuse 3 2 none := ⟨⟨kw538, kw406, kw407, kw2, kw408⟩, md_X4_refuse, by decide⟩
theorem md_X1_addLaw : yX1_addLaw.cls ≠ "java/lang/invoke/MethodHandle" ∧ yX1_addLaw.cls ≠ "java/lang/invoke/VarHandle" ∧ (parseMethodDescriptor yX1_addLaw.desc).map (fun d => d.parameters.length) = some 5 := ⟨mhX1.1, mhX1.2, by decide +kernel⟩
theorem kw591 : Cond.code yX1_addLaw cX1_addLaw 7 none ∈ lw_ok := ok_t3 (i := 111) ⟨rfl, rfl⟩
theorem kw588 : Cond.methodLink RX5 104 yX1_addLaw ∈ lw_ok := ok_t3 (i := 108) ⟨rfl, rfl⟩
theorem kw589 : Cond.instanceMethod yX1_addLaw ∈ lw_ok := ok_t3 (i := 109) ⟨rfl, rfl⟩
theorem kw590 : Cond.selects RX1 yX1_addLaw yX1_addLaw ∈ lw_ok := ok_t3 (i := 110) ⟨rfl, rfl⟩
theorem vX5_104 : CV RX5 104 yX1_addLaw cX1_addLaw 7 5 none := ⟨⟨kw588, kw589, kw590, kw8, kw591⟩, md_X1_addLaw, by decide⟩
theorem mhX5 : RX5 ≠ "java/lang/invoke/MethodHandle" ∧ RX5 ≠ "java/lang/invoke/VarHandle" := by decide +kernel
theorem md_X5_readOne : yX5_readOne.cls ≠ "java/lang/invoke/MethodHandle" ∧ yX5_readOne.cls ≠ "java/lang/invoke/VarHandle" ∧ (parseMethodDescriptor yX5_readOne.desc).map (fun d => d.parameters.length) = some 1 := ⟨mhX5.1, mhX5.2, by decide +kernel⟩
theorem kw552 : Cond.code yX5_readOne cX5_readOne 3 (some .int) ∈ lw_ok := ok_t3 (i := 72) ⟨rfl, rfl⟩
theorem kw14 : Cond.initialized RX5 ∈ lw_ok := ok_t1 (i := 14) ⟨rfl, rfl⟩
theorem kw549 : Cond.methodLink RX5 111 yX5_readOne ∈ lw_ok := ok_t3 (i := 69) ⟨rfl, rfl⟩
theorem kw551 : Cond.instanceMethod yX5_readOne ∈ lw_ok := ok_t3 (i := 71) ⟨rfl, rfl⟩
theorem kp12 : Cond.selects RX5 yX5_readOne yX5_readOne ∈ lw_ok := ok_pq (i := 12) ⟨rfl, rfl⟩
theorem vX5_111 : CV RX5 111 yX5_readOne cX5_readOne 3 1 (some .int) := ⟨⟨kw549, kw551, kp12, kw14, kw552⟩, md_X5_readOne, by decide⟩
theorem md_X5_readPath : yX5_readPath.cls ≠ "java/lang/invoke/MethodHandle" ∧ yX5_readPath.cls ≠ "java/lang/invoke/VarHandle" ∧ (parseMethodDescriptor yX5_readPath.desc).map (fun d => d.parameters.length) = some 0 := ⟨mhX5.1, mhX5.2, by decide +kernel⟩
theorem kw557 : Cond.code yX5_readPath cX5_readPath 4 none ∈ lw_ok := ok_t3 (i := 77) ⟨rfl, rfl⟩
theorem kw554 : Cond.methodLink RX5 114 yX5_readPath ∈ lw_ok := ok_t3 (i := 74) ⟨rfl, rfl⟩
theorem kw556 : Cond.instanceMethod yX5_readPath ∈ lw_ok := ok_t3 (i := 76) ⟨rfl, rfl⟩
theorem kp13 : Cond.selects RX5 yX5_readPath yX5_readPath ∈ lw_ok := ok_pq (i := 13) ⟨rfl, rfl⟩
theorem vX5_114 : CV RX5 114 yX5_readPath cX5_readPath 4 0 none := ⟨⟨kw554, kw556, kp13, kw14, kw557⟩, md_X5_readPath, by decide⟩
theorem md_X5_readComparison : yX5_readComparison.cls ≠ "java/lang/invoke/MethodHandle" ∧ yX5_readComparison.cls ≠ "java/lang/invoke/VarHandle" ∧ (parseMethodDescriptor yX5_readComparison.desc).map (fun d => d.parameters.length) = some 0 := ⟨mhX5.1, mhX5.2, by decide +kernel⟩
theorem kw563 : Cond.code yX5_readComparison cX5_readComparison 5 (some .int) ∈ lw_ok := ok_t3 (i := 83) ⟨rfl, rfl⟩
theorem kw560 : Cond.methodLink RX5 117 yX5_readComparison ∈ lw_ok := ok_t3 (i := 80) ⟨rfl, rfl⟩
theorem kw562 : Cond.instanceMethod yX5_readComparison ∈ lw_ok := ok_t3 (i := 82) ⟨rfl, rfl⟩
theorem kp14 : Cond.selects RX5 yX5_readComparison yX5_readComparison ∈ lw_ok := ok_pq (i := 14) ⟨rfl, rfl⟩
theorem vX5_117 : CV RX5 117 yX5_readComparison cX5_readComparison 5 0 (some .int) := ⟨⟨kw560, kw562, kp14, kw14, kw563⟩, md_X5_readComparison, by decide⟩
theorem md_X5_valueAlong : yX5_valueAlong.cls ≠ "java/lang/invoke/MethodHandle" ∧ yX5_valueAlong.cls ≠ "java/lang/invoke/VarHandle" ∧ (parseMethodDescriptor yX5_valueAlong.desc).map (fun d => d.parameters.length) = some 1 := ⟨mhX5.1, mhX5.2, by decide +kernel⟩
theorem kw567 : Cond.code yX5_valueAlong cX5_valueAlong 4 (some .int) ∈ lw_ok := ok_t3 (i := 87) ⟨rfl, rfl⟩
theorem kw564 : Cond.methodLink RX5 132 yX5_valueAlong ∈ lw_ok := ok_t3 (i := 84) ⟨rfl, rfl⟩
theorem kw566 : Cond.instanceMethod yX5_valueAlong ∈ lw_ok := ok_t3 (i := 86) ⟨rfl, rfl⟩
theorem kp15 : Cond.selects RX5 yX5_valueAlong yX5_valueAlong ∈ lw_ok := ok_pq (i := 15) ⟨rfl, rfl⟩
theorem vX5_132 : CV RX5 132 yX5_valueAlong cX5_valueAlong 4 1 (some .int) := ⟨⟨kw564, kw566, kp15, kw14, kw567⟩, md_X5_valueAlong, by decide⟩
theorem md_X5_compares : yX5_compares.cls ≠ "java/lang/invoke/MethodHandle" ∧ yX5_compares.cls ≠ "java/lang/invoke/VarHandle" ∧ (parseMethodDescriptor yX5_compares.desc).map (fun d => d.parameters.length) = some 3 := ⟨mhX5.1, mhX5.2, by decide +kernel⟩
theorem kw571 : Cond.code yX5_compares cX5_compares 3 (some .boolean) ∈ lw_ok := ok_t3 (i := 91) ⟨rfl, rfl⟩
theorem kw569 : Cond.methodLink RX5 135 yX5_compares ∈ lw_ok := ok_t3 (i := 89) ⟨rfl, rfl⟩
theorem kw570 : Cond.static yX5_compares ∈ lw_ok := ok_t3 (i := 90) ⟨rfl, rfl⟩
theorem sX5_135 : CS RX5 135 yX5_compares cX5_compares 3 3 (some .boolean) := ⟨⟨kw569, kw570, kw14, kw571⟩, md_X5_compares, by decide⟩
theorem kw568 : Cond.methodLink RX5 139 yX2_cell ∈ lw_ok := ok_t3 (i := 88) ⟨rfl, rfl⟩
theorem vX5_139 : CV RX5 139 yX2_cell cX2_cell 3 2 (some .int) := ⟨⟨kw568, kw462, kw463, kw7, kw464⟩, md_X2_cell, by decide⟩
theorem md_X1_clear : yX1_clear.cls ≠ "java/lang/invoke/MethodHandle" ∧ yX1_clear.cls ≠ "java/lang/invoke/VarHandle" ∧ (parseMethodDescriptor yX1_clear.desc).map (fun d => d.parameters.length) = some 0 := ⟨mhX1.1, mhX1.2, by decide +kernel⟩
theorem kw486 : Cond.code yX1_clear cX1_clear 1 none ∈ lw_ok := ok_t3 (i := 6) ⟨rfl, rfl⟩
theorem kw527 : Cond.methodLink RX5 27 yX1_clear ∈ lw_ok := ok_t3 (i := 47) ⟨rfl, rfl⟩
theorem kw484 : Cond.instanceMethod yX1_clear ∈ lw_ok := ok_t3 (i := 4) ⟨rfl, rfl⟩
theorem kw485 : Cond.selects RX1 yX1_clear yX1_clear ∈ lw_ok := ok_t3 (i := 5) ⟨rfl, rfl⟩
theorem vX5_27 : CV RX5 27 yX1_clear cX1_clear 1 0 none := ⟨⟨kw527, kw484, kw485, kw8, kw486⟩, md_X1_clear, by decide⟩
theorem kw528 : Cond.methodLink RX5 32 yX4_open ∈ lw_ok := ok_t3 (i := 48) ⟨rfl, rfl⟩
theorem vX5_32 : CV RX5 32 yX4_open cX4_open 2 1 none := ⟨⟨kw528, kw321, kw322, kw2, kw323⟩, md_X4_open, by decide⟩
theorem md_X5_readWish : yX5_readWish.cls ≠ "java/lang/invoke/MethodHandle" ∧ yX5_readWish.cls ≠ "java/lang/invoke/VarHandle" ∧ (parseMethodDescriptor yX5_readWish.desc).map (fun d => d.parameters.length) = some 0 := ⟨mhX5.1, mhX5.2, by decide +kernel⟩
theorem kw532 : Cond.code yX5_readWish cX5_readWish 3 none ∈ lw_ok := ok_t3 (i := 52) ⟨rfl, rfl⟩
theorem kw529 : Cond.methodLink RX5 45 yX5_readWish ∈ lw_ok := ok_t3 (i := 49) ⟨rfl, rfl⟩
theorem kw531 : Cond.instanceMethod yX5_readWish ∈ lw_ok := ok_t3 (i := 51) ⟨rfl, rfl⟩
theorem kp9 : Cond.selects RX5 yX5_readWish yX5_readWish ∈ lw_ok := ok_pq (i := 9) ⟨rfl, rfl⟩
theorem vX5_45 : CV RX5 45 yX5_readWish cX5_readWish 3 0 none := ⟨⟨kw529, kw531, kp9, kw14, kw532⟩, md_X5_readWish, by decide⟩
theorem md_X5_readLaw : yX5_readLaw.cls ≠ "java/lang/invoke/MethodHandle" ∧ yX5_readLaw.cls ≠ "java/lang/invoke/VarHandle" ∧ (parseMethodDescriptor yX5_readLaw.desc).map (fun d => d.parameters.length) = some 0 := ⟨mhX5.1, mhX5.2, by decide +kernel⟩
theorem kw587 : Cond.code yX5_readLaw cX5_readLaw 5 none ∈ lw_ok := ok_t3 (i := 107) ⟨rfl, rfl⟩
theorem kw584 : Cond.methodLink RX5 48 yX5_readLaw ∈ lw_ok := ok_t3 (i := 104) ⟨rfl, rfl⟩
theorem kw586 : Cond.instanceMethod yX5_readLaw ∈ lw_ok := ok_t3 (i := 106) ⟨rfl, rfl⟩
theorem kp18 : Cond.selects RX5 yX5_readLaw yX5_readLaw ∈ lw_ok := ok_pq (i := 18) ⟨rfl, rfl⟩
theorem vX5_48 : CV RX5 48 yX5_readLaw cX5_readLaw 5 0 none := ⟨⟨kw584, kw586, kp18, kw14, kw587⟩, md_X5_readLaw, by decide⟩
theorem kw553 : Cond.methodLink RX5 51 yX4_refuseToken ∈ lw_ok := ok_t3 (i := 73) ⟨rfl, rfl⟩
theorem vX5_51 : CV RX5 51 yX4_refuseToken cX4_refuseToken 1 0 none := ⟨⟨kw553, kw414, kw415, kw2, kw416⟩, md_X4_refuseToken, by decide⟩
theorem kw533 : Cond.methodLink RX5 54 yX4_advance ∈ lw_ok := ok_t3 (i := 53) ⟨rfl, rfl⟩
theorem vX5_54 : CV RX5 54 yX4_advance cX4_advance 2 0 none := ⟨⟨kw533, kw326, kw327, kw2, kw328⟩, md_X4_advance, by decide⟩
theorem md_X5_readNeed : yX5_readNeed.cls ≠ "java/lang/invoke/MethodHandle" ∧ yX5_readNeed.cls ≠ "java/lang/invoke/VarHandle" ∧ (parseMethodDescriptor yX5_readNeed.desc).map (fun d => d.parameters.length) = some 0 := ⟨mhX5.1, mhX5.2, by decide +kernel⟩
theorem kw537 : Cond.code yX5_readNeed cX5_readNeed 2 (some .int) ∈ lw_ok := ok_t3 (i := 57) ⟨rfl, rfl⟩
theorem kw534 : Cond.methodLink RX5 57 yX5_readNeed ∈ lw_ok := ok_t3 (i := 54) ⟨rfl, rfl⟩
theorem kw536 : Cond.instanceMethod yX5_readNeed ∈ lw_ok := ok_t3 (i := 56) ⟨rfl, rfl⟩
theorem kp10 : Cond.selects RX5 yX5_readNeed yX5_readNeed ∈ lw_ok := ok_pq (i := 10) ⟨rfl, rfl⟩
theorem vX5_57 : CV RX5 57 yX5_readNeed cX5_readNeed 2 0 (some .int) := ⟨⟨kw534, kw536, kp10, kw14, kw537⟩, md_X5_readNeed, by decide⟩
theorem kw540 : Cond.methodLink RX5 61 yX4_takeTable ∈ lw_ok := ok_t3 (i := 60) ⟨rfl, rfl⟩
theorem vX5_61 : CV RX5 61 yX4_takeTable cX4_takeTable 3 1 (some .int) := ⟨⟨kw540, kw436, kw437, kw2, kw438⟩, md_X4_takeTable, by decide⟩
theorem md_X2_rowsOf : yX2_rowsOf.cls ≠ "java/lang/invoke/MethodHandle" ∧ yX2_rowsOf.cls ≠ "java/lang/invoke/VarHandle" ∧ (parseMethodDescriptor yX2_rowsOf.desc).map (fun d => d.parameters.length) = some 1 := ⟨mhX2.1, mhX2.2, by decide +kernel⟩
theorem kw544 : Cond.code yX2_rowsOf cX2_rowsOf 4 (some .int) ∈ lw_ok := ok_t3 (i := 64) ⟨rfl, rfl⟩
theorem kw541 : Cond.methodLink RX5 68 yX2_rowsOf ∈ lw_ok := ok_t3 (i := 61) ⟨rfl, rfl⟩
theorem kw542 : Cond.instanceMethod yX2_rowsOf ∈ lw_ok := ok_t3 (i := 62) ⟨rfl, rfl⟩
theorem kw543 : Cond.selects RX2 yX2_rowsOf yX2_rowsOf ∈ lw_ok := ok_t3 (i := 63) ⟨rfl, rfl⟩
theorem vX5_68 : CV RX5 68 yX2_rowsOf cX2_rowsOf 4 1 (some .int) := ⟨⟨kw541, kw542, kw543, kw7, kw544⟩, md_X2_rowsOf, by decide⟩
theorem md_X5_readEither : yX5_readEither.cls ≠ "java/lang/invoke/MethodHandle" ∧ yX5_readEither.cls ≠ "java/lang/invoke/VarHandle" ∧ (parseMethodDescriptor yX5_readEither.desc).map (fun d => d.parameters.length) = some 1 := ⟨mhX5.1, mhX5.2, by decide +kernel⟩
theorem kw548 : Cond.code yX5_readEither cX5_readEither 6 (some .int) ∈ lw_ok := ok_t3 (i := 68) ⟨rfl, rfl⟩
theorem kw545 : Cond.methodLink RX5 74 yX5_readEither ∈ lw_ok := ok_t3 (i := 65) ⟨rfl, rfl⟩
theorem kw547 : Cond.instanceMethod yX5_readEither ∈ lw_ok := ok_t3 (i := 67) ⟨rfl, rfl⟩
theorem kp11 : Cond.selects RX5 yX5_readEither yX5_readEither ∈ lw_ok := ok_pq (i := 11) ⟨rfl, rfl⟩
theorem vX5_74 : CV RX5 74 yX5_readEither cX5_readEither 6 1 (some .int) := ⟨⟨kw545, kw547, kp11, kw14, kw548⟩, md_X5_readEither, by decide⟩
theorem kw539 : Cond.methodLink RX5 77 yX4_take ∈ lw_ok := ok_t3 (i := 59) ⟨rfl, rfl⟩
theorem vX5_77 : CV RX5 77 yX4_take cX4_take 2 1 (some .boolean) := ⟨⟨kw539, kw410, kw411, kw2, kw412⟩, md_X4_take, by decide⟩
theorem md_X1_addWish : yX1_addWish.cls ≠ "java/lang/invoke/MethodHandle" ∧ yX1_addWish.cls ≠ "java/lang/invoke/VarHandle" ∧ (parseMethodDescriptor yX1_addWish.desc).map (fun d => d.parameters.length) = some 3 := ⟨mhX1.1, mhX1.2, by decide +kernel⟩
theorem kw575 : Cond.code yX1_addWish cX1_addWish 4 none ∈ lw_ok := ok_t3 (i := 95) ⟨rfl, rfl⟩
theorem kw572 : Cond.methodLink RX5 81 yX1_addWish ∈ lw_ok := ok_t3 (i := 92) ⟨rfl, rfl⟩
theorem kw573 : Cond.instanceMethod yX1_addWish ∈ lw_ok := ok_t3 (i := 93) ⟨rfl, rfl⟩
theorem kw574 : Cond.selects RX1 yX1_addWish yX1_addWish ∈ lw_ok := ok_t3 (i := 94) ⟨rfl, rfl⟩
theorem vX5_81 : CV RX5 81 yX1_addWish cX1_addWish 4 3 none := ⟨⟨kw572, kw573, kw574, kw8, kw575⟩, md_X1_addWish, by decide⟩
theorem kw558 : Cond.methodLink RX5 89 yX2_columnNamed ∈ lw_ok := ok_t3 (i := 78) ⟨rfl, rfl⟩
theorem vX5_89 : CV RX5 89 yX2_columnNamed cX2_columnNamed 5 2 (some .int) := ⟨⟨kw558, kw424, kw425, kw7, kw426⟩, md_X2_columnNamed, by decide⟩
theorem kw559 : Cond.methodLink RX5 93 yX2_target ∈ lw_ok := ok_t3 (i := 79) ⟨rfl, rfl⟩
theorem vX5_93 : CV RX5 93 yX2_target cX2_target 3 2 (some .int) := ⟨⟨kw559, kw454, kw455, kw7, kw456⟩, md_X2_target, by decide⟩
theorem mhX6 : RX6 ≠ "java/lang/invoke/MethodHandle" ∧ RX6 ≠ "java/lang/invoke/VarHandle" := by decide +kernel
theorem md_X6_has : yX6_has.cls ≠ "java/lang/invoke/MethodHandle" ∧ yX6_has.cls ≠ "java/lang/invoke/VarHandle" ∧ (parseMethodDescriptor yX6_has.desc).map (fun d => d.parameters.length) = some 2 := ⟨mhX6.1, mhX6.2, by decide +kernel⟩
theorem kw618 : Cond.code yX6_has cX6_has 2 (some .boolean) ∈ lw_ok := ok_t3 (i := 138) ⟨rfl, rfl⟩
theorem kw1 : Cond.initialized RX6 ∈ lw_ok := ok_t1 (i := 1) ⟨rfl, rfl⟩
theorem kw616 : Cond.methodLink RX6 109 yX6_has ∈ lw_ok := ok_t3 (i := 136) ⟨rfl, rfl⟩
theorem kw617 : Cond.static yX6_has ∈ lw_ok := ok_t3 (i := 137) ⟨rfl, rfl⟩
theorem sX6_109 : CS RX6 109 yX6_has cX6_has 2 2 (some .boolean) := ⟨⟨kw616, kw617, kw1, kw618⟩, md_X6_has, by decide⟩
theorem kw623 : Cond.methodLink RX6 113 yX2_cell ∈ lw_ok := ok_t3 (i := 143) ⟨rfl, rfl⟩
theorem vX6_113 : CV RX6 113 yX2_cell cX2_cell 3 2 (some .int) := ⟨⟨kw623, kw462, kw463, kw7, kw464⟩, md_X2_cell, by decide⟩
theorem md_X1_isWish : yX1_isWish.cls ≠ "java/lang/invoke/MethodHandle" ∧ yX1_isWish.cls ≠ "java/lang/invoke/VarHandle" ∧ (parseMethodDescriptor yX1_isWish.desc).map (fun d => d.parameters.length) = some 1 := ⟨mhX1.1, mhX1.2, by decide +kernel⟩
theorem kw631 : Cond.code yX1_isWish cX1_isWish 2 (some .boolean) ∈ lw_ok := ok_t3 (i := 151) ⟨rfl, rfl⟩
theorem kw628 : Cond.methodLink RX6 117 yX1_isWish ∈ lw_ok := ok_t3 (i := 148) ⟨rfl, rfl⟩
theorem kw629 : Cond.instanceMethod yX1_isWish ∈ lw_ok := ok_t3 (i := 149) ⟨rfl, rfl⟩
theorem kw630 : Cond.selects RX1 yX1_isWish yX1_isWish ∈ lw_ok := ok_t3 (i := 150) ⟨rfl, rfl⟩
theorem vX6_117 : CV RX6 117 yX1_isWish cX1_isWish 2 1 (some .boolean) := ⟨⟨kw628, kw629, kw630, kw8, kw631⟩, md_X1_isWish, by decide⟩
theorem md_X2_isLinkedFrom : yX2_isLinkedFrom.cls ≠ "java/lang/invoke/MethodHandle" ∧ yX2_isLinkedFrom.cls ≠ "java/lang/invoke/VarHandle" ∧ (parseMethodDescriptor yX2_isLinkedFrom.desc).map (fun d => d.parameters.length) = some 2 := ⟨mhX2.1, mhX2.2, by decide +kernel⟩
theorem kw639 : Cond.code yX2_isLinkedFrom cX2_isLinkedFrom 4 (some .boolean) ∈ lw_ok := ok_t3 (i := 159) ⟨rfl, rfl⟩
theorem kw636 : Cond.methodLink RX6 126 yX2_isLinkedFrom ∈ lw_ok := ok_t3 (i := 156) ⟨rfl, rfl⟩
theorem kw637 : Cond.instanceMethod yX2_isLinkedFrom ∈ lw_ok := ok_t3 (i := 157) ⟨rfl, rfl⟩
theorem kw638 : Cond.selects RX2 yX2_isLinkedFrom yX2_isLinkedFrom ∈ lw_ok := ok_t3 (i := 158) ⟨rfl, rfl⟩
theorem vX6_126 : CV RX6 126 yX2_isLinkedFrom cX2_isLinkedFrom 4 2 (some .boolean) := ⟨⟨kw636, kw637, kw638, kw7, kw639⟩, md_X2_isLinkedFrom, by decide⟩
theorem md_X0_init : yX0_init.cls ≠ "java/lang/invoke/MethodHandle" ∧ yX0_init.cls ≠ "java/lang/invoke/VarHandle" ∧ (parseMethodDescriptor yX0_init.desc).map (fun d => d.parameters.length) = some 4 := ⟨mhX0.1, mhX0.2, by decide +kernel⟩
theorem kw649 : Cond.code yX0_init cX0_init 5 none ∈ lw_ok := ok_t3 (i := 169) ⟨rfl, rfl⟩
theorem kw647 : Cond.methodLink RX6 135 yX0_init ∈ lw_ok := ok_t3 (i := 167) ⟨rfl, rfl⟩
theorem kw648 : Cond.instanceMethod yX0_init ∈ lw_ok := ok_t3 (i := 168) ⟨rfl, rfl⟩
theorem iX6_135 : CI RX6 135 yX0_init cX0_init 5 4 := ⟨⟨kw647, kw648, kw16, kw649⟩, md_X0_init, by decide, rfl⟩
theorem md_X0_cut : yX0_cut.cls ≠ "java/lang/invoke/MethodHandle" ∧ yX0_cut.cls ≠ "java/lang/invoke/VarHandle" ∧ (parseMethodDescriptor yX0_cut.desc).map (fun d => d.parameters.length) = some 0 := ⟨mhX0.1, mhX0.2, by decide +kernel⟩
theorem kw673 : Cond.code yX0_cut cX0_cut 5 (some .int) ∈ lw_ok := ok_t3 (i := 193) ⟨rfl, rfl⟩
theorem kw670 : Cond.methodLink RX6 138 yX0_cut ∈ lw_ok := ok_t3 (i := 190) ⟨rfl, rfl⟩
theorem kw671 : Cond.instanceMethod yX0_cut ∈ lw_ok := ok_t3 (i := 191) ⟨rfl, rfl⟩
theorem kw672 : Cond.selects RX0 yX0_cut yX0_cut ∈ lw_ok := ok_t3 (i := 192) ⟨rfl, rfl⟩
theorem vX6_138 : CV RX6 138 yX0_cut cX0_cut 5 0 (some .int) := ⟨⟨kw670, kw671, kw672, kw16, kw673⟩, md_X0_cut, by decide⟩
theorem md_X2_lineUp : yX2_lineUp.cls ≠ "java/lang/invoke/MethodHandle" ∧ yX2_lineUp.cls ≠ "java/lang/invoke/VarHandle" ∧ (parseMethodDescriptor yX2_lineUp.desc).map (fun d => d.parameters.length) = some 2 := ⟨mhX2.1, mhX2.2, by decide +kernel⟩
theorem kw712 : Cond.code yX2_lineUp cX2_lineUp 6 (some .int) ∈ lw_ok := ok_t3 (i := 232) ⟨rfl, rfl⟩
theorem kw709 : Cond.methodLink RX6 145 yX2_lineUp ∈ lw_ok := ok_t3 (i := 229) ⟨rfl, rfl⟩
theorem kw710 : Cond.instanceMethod yX2_lineUp ∈ lw_ok := ok_t3 (i := 230) ⟨rfl, rfl⟩
theorem kw711 : Cond.selects RX2 yX2_lineUp yX2_lineUp ∈ lw_ok := ok_t3 (i := 231) ⟨rfl, rfl⟩
theorem vX6_145 : CV RX6 145 yX2_lineUp cX2_lineUp 6 2 (some .int) := ⟨⟨kw709, kw710, kw711, kw7, kw712⟩, md_X2_lineUp, by decide⟩
theorem md_X6_least : yX6_least.cls ≠ "java/lang/invoke/MethodHandle" ∧ yX6_least.cls ≠ "java/lang/invoke/VarHandle" ∧ (parseMethodDescriptor yX6_least.desc).map (fun d => d.parameters.length) = some 0 := ⟨mhX6.1, mhX6.2, by decide +kernel⟩
theorem kw644 : Cond.code yX6_least cX6_least 1 (some .int) ∈ lw_ok := ok_t3 (i := 164) ⟨rfl, rfl⟩
theorem kw721 : Cond.methodLink RX6 152 yX6_least ∈ lw_ok := ok_t4 (i := 1) ⟨rfl, rfl⟩
theorem kw642 : Cond.instanceMethod yX6_least ∈ lw_ok := ok_t3 (i := 162) ⟨rfl, rfl⟩
theorem kw643 : Cond.selects RX6 yX6_least yX6_least ∈ lw_ok := ok_t3 (i := 163) ⟨rfl, rfl⟩
theorem vX6_152 : CV RX6 152 yX6_least cX6_least 1 0 (some .int) := ⟨⟨kw721, kw642, kw643, kw1, kw644⟩, md_X6_least, by decide⟩
theorem kw730 : Cond.methodLink RX6 161 yX2_allRows ∈ lw_ok := ok_t4 (i := 10) ⟨rfl, rfl⟩
theorem vX6_161 : CV RX6 161 yX2_allRows cX2_allRows 1 0 (some .int) := ⟨⟨kw730, kw675, kw676, kw7, kw677⟩, md_X2_allRows, by decide⟩
theorem kw731 : Cond.methodLink RX6 164 yX0_isPiece ∈ lw_ok := ok_t4 (i := 11) ⟨rfl, rfl⟩
theorem vX6_164 : CV RX6 164 yX0_isPiece cX0_isPiece 4 1 (some .boolean) := ⟨⟨kw731, kw679, kw680, kw16, kw681⟩, md_X0_isPiece, by decide⟩
theorem md_X1_wishesMetBy : yX1_wishesMetBy.cls ≠ "java/lang/invoke/MethodHandle" ∧ yX1_wishesMetBy.cls ≠ "java/lang/invoke/VarHandle" ∧ (parseMethodDescriptor yX1_wishesMetBy.desc).map (fun d => d.parameters.length) = some 1 := ⟨mhX1.1, mhX1.2, by decide +kernel⟩
theorem kw739 : Cond.code yX1_wishesMetBy cX1_wishesMetBy 3 (some .boolean) ∈ lw_ok := ok_t4 (i := 19) ⟨rfl, rfl⟩
theorem kw736 : Cond.methodLink RX6 167 yX1_wishesMetBy ∈ lw_ok := ok_t4 (i := 16) ⟨rfl, rfl⟩
theorem kw737 : Cond.instanceMethod yX1_wishesMetBy ∈ lw_ok := ok_t4 (i := 17) ⟨rfl, rfl⟩
theorem kw738 : Cond.selects RX1 yX1_wishesMetBy yX1_wishesMetBy ∈ lw_ok := ok_t4 (i := 18) ⟨rfl, rfl⟩
theorem vX6_167 : CV RX6 167 yX1_wishesMetBy cX1_wishesMetBy 3 1 (some .boolean) := ⟨⟨kw736, kw737, kw738, kw8, kw739⟩, md_X1_wishesMetBy, by decide⟩
theorem kw748 : Cond.methodLink RX6 170 yJ6_bitCount_0f7a4 ∈ lw_ok := ok_t4 (i := 28) ⟨rfl, rfl⟩
theorem sX6_170 : CS RX6 170 yJ6_bitCount_0f7a4 cJ6_bitCount_0f7a4 1 1 (some .int) := ⟨⟨kw748, kw601, kw15, kw602⟩, md_J6_bitCount_0f7a4, by decide⟩
theorem md_X2_isPlainColumn : yX2_isPlainColumn.cls ≠ "java/lang/invoke/MethodHandle" ∧ yX2_isPlainColumn.cls ≠ "java/lang/invoke/VarHandle" ∧ (parseMethodDescriptor yX2_isPlainColumn.desc).map (fun d => d.parameters.length) = some 2 := ⟨mhX2.1, mhX2.2, by decide +kernel⟩
theorem kw756 : Cond.code yX2_isPlainColumn cX2_isPlainColumn 3 (some .boolean) ∈ lw_ok := ok_t4 (i := 36) ⟨rfl, rfl⟩
theorem kw753 : Cond.methodLink RX6 176 yX2_isPlainColumn ∈ lw_ok := ok_t4 (i := 33) ⟨rfl, rfl⟩
theorem kw754 : Cond.instanceMethod yX2_isPlainColumn ∈ lw_ok := ok_t4 (i := 34) ⟨rfl, rfl⟩
theorem kw755 : Cond.selects RX2 yX2_isPlainColumn yX2_isPlainColumn ∈ lw_ok := ok_t4 (i := 35) ⟨rfl, rfl⟩
theorem vX6_176 : CV RX6 176 yX2_isPlainColumn cX2_isPlainColumn 3 2 (some .boolean) := ⟨⟨kw753, kw754, kw755, kw7, kw756⟩, md_X2_isPlainColumn, by decide⟩
theorem md_X6_slot : yX6_slot.cls ≠ "java/lang/invoke/MethodHandle" ∧ yX6_slot.cls ≠ "java/lang/invoke/VarHandle" ∧ (parseMethodDescriptor yX6_slot.desc).map (fun d => d.parameters.length) = some 2 := ⟨mhX6.1, mhX6.2, by decide +kernel⟩
theorem kw433 : Cond.code yX6_slot cX6_slot 2 (some .int) ∈ lw_ok := ok_t2 (i := 193) ⟨rfl, rfl⟩
theorem kw757 : Cond.methodLink RX6 179 yX6_slot ∈ lw_ok := ok_t4 (i := 37) ⟨rfl, rfl⟩
theorem kw432 : Cond.static yX6_slot ∈ lw_ok := ok_t2 (i := 192) ⟨rfl, rfl⟩
theorem sX6_179 : CS RX6 179 yX6_slot cX6_slot 2 2 (some .int) := ⟨⟨kw757, kw432, kw1, kw433⟩, md_X6_slot, by decide⟩
theorem md_X6_turned : yX6_turned.cls ≠ "java/lang/invoke/MethodHandle" ∧ yX6_turned.cls ≠ "java/lang/invoke/VarHandle" ∧ (parseMethodDescriptor yX6_turned.desc).map (fun d => d.parameters.length) = some 2 := ⟨mhX6.1, mhX6.2, by decide +kernel⟩
theorem kw764 : Cond.code yX6_turned cX6_turned 2 (some .int) ∈ lw_ok := ok_t4 (i := 44) ⟨rfl, rfl⟩
theorem kw762 : Cond.methodLink RX6 182 yX6_turned ∈ lw_ok := ok_t4 (i := 42) ⟨rfl, rfl⟩
theorem kw763 : Cond.static yX6_turned ∈ lw_ok := ok_t4 (i := 43) ⟨rfl, rfl⟩
theorem sX6_182 : CS RX6 182 yX6_turned cX6_turned 2 2 (some .int) := ⟨⟨kw762, kw763, kw1, kw764⟩, md_X6_turned, by decide⟩
theorem md_X2_total : yX2_total.cls ≠ "java/lang/invoke/MethodHandle" ∧ yX2_total.cls ≠ "java/lang/invoke/VarHandle" ∧ (parseMethodDescriptor yX2_total.desc).map (fun d => d.parameters.length) = some 3 := ⟨mhX2.1, mhX2.2, by decide +kernel⟩
theorem kw773 : Cond.code yX2_total cX2_total 6 (some .int) ∈ lw_ok := ok_t4 (i := 53) ⟨rfl, rfl⟩
theorem kw770 : Cond.methodLink RX6 185 yX2_total ∈ lw_ok := ok_t4 (i := 50) ⟨rfl, rfl⟩
theorem kw771 : Cond.instanceMethod yX2_total ∈ lw_ok := ok_t4 (i := 51) ⟨rfl, rfl⟩
theorem kw772 : Cond.selects RX2 yX2_total yX2_total ∈ lw_ok := ok_t4 (i := 52) ⟨rfl, rfl⟩
theorem vX6_185 : CV RX6 185 yX2_total cX2_total 6 3 (some .int) := ⟨⟨kw770, kw771, kw772, kw7, kw773⟩, md_X2_total, by decide⟩
theorem md_X6_commonDivisor : yX6_commonDivisor.cls ≠ "java/lang/invoke/MethodHandle" ∧ yX6_commonDivisor.cls ≠ "java/lang/invoke/VarHandle" ∧ (parseMethodDescriptor yX6_commonDivisor.desc).map (fun d => d.parameters.length) = some 2 := ⟨mhX6.1, mhX6.2, by decide +kernel⟩
theorem kw777 : Cond.code yX6_commonDivisor cX6_commonDivisor 6 (some .int) ∈ lw_ok := ok_t4 (i := 57) ⟨rfl, rfl⟩
theorem kw775 : Cond.methodLink RX6 189 yX6_commonDivisor ∈ lw_ok := ok_t4 (i := 55) ⟨rfl, rfl⟩
theorem kw776 : Cond.static yX6_commonDivisor ∈ lw_ok := ok_t4 (i := 56) ⟨rfl, rfl⟩
theorem sX6_189 : CS RX6 189 yX6_commonDivisor cX6_commonDivisor 6 2 (some .int) := ⟨⟨kw775, kw776, kw1, kw777⟩, md_X6_commonDivisor, by decide⟩
theorem md_X6_aboutTable : yX6_aboutTable.cls ≠ "java/lang/invoke/MethodHandle" ∧ yX6_aboutTable.cls ≠ "java/lang/invoke/VarHandle" ∧ (parseMethodDescriptor yX6_aboutTable.desc).map (fun d => d.parameters.length) = some 1 := ⟨mhX6.1, mhX6.2, by decide +kernel⟩
theorem kw785 : Cond.code yX6_aboutTable cX6_aboutTable 2 (some .int) ∈ lw_ok := ok_t4 (i := 65) ⟨rfl, rfl⟩
theorem kw782 : Cond.methodLink RX6 194 yX6_aboutTable ∈ lw_ok := ok_t4 (i := 62) ⟨rfl, rfl⟩
theorem kw784 : Cond.instanceMethod yX6_aboutTable ∈ lw_ok := ok_t4 (i := 64) ⟨rfl, rfl⟩
theorem kp25 : Cond.selects RX6 yX6_aboutTable yX6_aboutTable ∈ lw_ok := ok_pq (i := 25) ⟨rfl, rfl⟩
theorem vX6_194 : CV RX6 194 yX6_aboutTable cX6_aboutTable 2 1 (some .int) := ⟨⟨kw782, kw784, kp25, kw1, kw785⟩, md_X6_aboutTable, by decide⟩
theorem kw786 : Cond.methodLink RX6 197 yX2_hasTable ∈ lw_ok := ok_t4 (i := 66) ⟨rfl, rfl⟩
theorem vX6_197 : CV RX6 197 yX2_hasTable cX2_hasTable 2 1 (some .boolean) := ⟨⟨kw786, kw445, kw446, kw7, kw447⟩, md_X2_hasTable, by decide⟩
theorem md_X2_init : yX2_init.cls ≠ "java/lang/invoke/MethodHandle" ∧ yX2_init.cls ≠ "java/lang/invoke/VarHandle" ∧ (parseMethodDescriptor yX2_init.desc).map (fun d => d.parameters.length) = some 0 := ⟨mhX2.1, mhX2.2, by decide +kernel⟩
theorem kw135 : Cond.code yX2_init cX2_init 1 none ∈ lw_ok := ok_t1 (i := 135) ⟨rfl, rfl⟩
theorem kw133 : Cond.methodLink RX6 25 yX2_init ∈ lw_ok := ok_t1 (i := 133) ⟨rfl, rfl⟩
theorem kw134 : Cond.instanceMethod yX2_init ∈ lw_ok := ok_t1 (i := 134) ⟨rfl, rfl⟩
theorem iX6_25 : CI RX6 25 yX2_init cX2_init 1 0 := ⟨⟨kw133, kw134, kw7, kw135⟩, md_X2_init, by decide, rfl⟩
theorem md_X1_init : yX1_init.cls ≠ "java/lang/invoke/MethodHandle" ∧ yX1_init.cls ≠ "java/lang/invoke/VarHandle" ∧ (parseMethodDescriptor yX1_init.desc).map (fun d => d.parameters.length) = some 0 := ⟨mhX1.1, mhX1.2, by decide +kernel⟩
theorem kw202 : Cond.code yX1_init cX1_init 1 none ∈ lw_ok := ok_t1 (i := 202) ⟨rfl, rfl⟩
theorem kw200 : Cond.methodLink RX6 35 yX1_init ∈ lw_ok := ok_t1 (i := 200) ⟨rfl, rfl⟩
theorem kw201 : Cond.instanceMethod yX1_init ∈ lw_ok := ok_t1 (i := 201) ⟨rfl, rfl⟩
theorem iX6_35 : CI RX6 35 yX1_init cX1_init 1 0 := ⟨⟨kw200, kw201, kw8, kw202⟩, md_X1_init, by decide, rfl⟩
theorem kw236 : Cond.methodLink RX6 43 yJ7_fill_53178 ∈ lw_ok := ok_t1 (i := 236) ⟨rfl, rfl⟩
theorem sX6_43 : CS RX6 43 yJ7_fill_53178 cJ7_fill_53178 4 2 none := ⟨⟨kw236, kw237, kw9, kw238⟩, md_J7_fill_53178, by decide⟩
theorem md_X4_append : yX4_append.cls ≠ "java/lang/invoke/MethodHandle" ∧ yX4_append.cls ≠ "java/lang/invoke/VarHandle" ∧ (parseMethodDescriptor yX4_append.desc).map (fun d => d.parameters.length) = some 1 := ⟨mhX4.1, mhX4.2, by decide +kernel⟩
theorem kw289 : Cond.code yX4_append cX4_append 3 none ∈ lw_ok := ok_t2 (i := 49) ⟨rfl, rfl⟩
theorem kw286 : Cond.methodLink RX6 53 yX4_append ∈ lw_ok := ok_t2 (i := 46) ⟨rfl, rfl⟩
theorem kw287 : Cond.instanceMethod yX4_append ∈ lw_ok := ok_t2 (i := 47) ⟨rfl, rfl⟩
theorem kw288 : Cond.selects RX4 yX4_append yX4_append ∈ lw_ok := ok_t2 (i := 48) ⟨rfl, rfl⟩
theorem vX6_53 : CV RX6 53 yX4_append cX4_append 3 1 none := ⟨⟨kw286, kw287, kw288, kw2, kw289⟩, md_X4_append, by decide⟩
theorem md_X3_init : yX3_init.cls ≠ "java/lang/invoke/MethodHandle" ∧ yX3_init.cls ≠ "java/lang/invoke/VarHandle" ∧ (parseMethodDescriptor yX3_init.desc).map (fun d => d.parameters.length) = some 2 := ⟨mhX3.1, mhX3.2, by decide +kernel⟩
theorem kw302 : Cond.code yX3_init cX3_init 3 none ∈ lw_ok := ok_t2 (i := 62) ⟨rfl, rfl⟩
theorem kw300 : Cond.methodLink RX6 59 yX3_init ∈ lw_ok := ok_t2 (i := 60) ⟨rfl, rfl⟩
theorem kw301 : Cond.instanceMethod yX3_init ∈ lw_ok := ok_t2 (i := 61) ⟨rfl, rfl⟩
theorem iX6_59 : CI RX6 59 yX3_init cX3_init 3 2 := ⟨⟨kw300, kw301, kw11, kw302⟩, md_X3_init, by decide, rfl⟩
theorem md_X3_readAll : yX3_readAll.cls ≠ "java/lang/invoke/MethodHandle" ∧ yX3_readAll.cls ≠ "java/lang/invoke/VarHandle" ∧ (parseMethodDescriptor yX3_readAll.desc).map (fun d => d.parameters.length) = some 0 := ⟨mhX3.1, mhX3.2, by decide +kernel⟩
theorem kw314 : Cond.code yX3_readAll cX3_readAll 3 (some .boolean) ∈ lw_ok := ok_t2 (i := 74) ⟨rfl, rfl⟩
theorem kw311 : Cond.methodLink RX6 62 yX3_readAll ∈ lw_ok := ok_t2 (i := 71) ⟨rfl, rfl⟩
theorem kw312 : Cond.instanceMethod yX3_readAll ∈ lw_ok := ok_t2 (i := 72) ⟨rfl, rfl⟩
theorem kw313 : Cond.selects RX3 yX3_readAll yX3_readAll ∈ lw_ok := ok_t2 (i := 73) ⟨rfl, rfl⟩
theorem vX6_62 : CV RX6 62 yX3_readAll cX3_readAll 3 0 (some .boolean) := ⟨⟨kw311, kw312, kw313, kw11, kw314⟩, md_X3_readAll, by decide⟩
theorem kw483 : Cond.methodLink RX6 66 yX1_clear ∈ lw_ok := ok_t3 (i := 3) ⟨rfl, rfl⟩
theorem vX6_66 : CV RX6 66 yX1_clear cX1_clear 1 0 none := ⟨⟨kw483, kw484, kw485, kw8, kw486⟩, md_X1_clear, by decide⟩
theorem md_X6_forgetPieces : yX6_forgetPieces.cls ≠ "java/lang/invoke/MethodHandle" ∧ yX6_forgetPieces.cls ≠ "java/lang/invoke/VarHandle" ∧ (parseMethodDescriptor yX6_forgetPieces.desc).map (fun d => d.parameters.length) = some 0 := ⟨mhX6.1, mhX6.2, by decide +kernel⟩
theorem kw490 : Cond.code yX6_forgetPieces cX6_forgetPieces 1 none ∈ lw_ok := ok_t3 (i := 10) ⟨rfl, rfl⟩
theorem kw487 : Cond.methodLink RX6 75 yX6_forgetPieces ∈ lw_ok := ok_t3 (i := 7) ⟨rfl, rfl⟩
theorem kw489 : Cond.instanceMethod yX6_forgetPieces ∈ lw_ok := ok_t3 (i := 9) ⟨rfl, rfl⟩
theorem kp8 : Cond.selects RX6 yX6_forgetPieces yX6_forgetPieces ∈ lw_ok := ok_pq (i := 8) ⟨rfl, rfl⟩
theorem vX6_75 : CV RX6 75 yX6_forgetPieces cX6_forgetPieces 1 0 none := ⟨⟨kw487, kw489, kp8, kw1, kw490⟩, md_X6_forgetPieces, by decide⟩
theorem md_X5_init : yX5_init.cls ≠ "java/lang/invoke/MethodHandle" ∧ yX5_init.cls ≠ "java/lang/invoke/VarHandle" ∧ (parseMethodDescriptor yX5_init.desc).map (fun d => d.parameters.length) = some 3 := ⟨mhX5.1, mhX5.2, by decide +kernel⟩
theorem kw499 : Cond.code yX5_init cX5_init 4 none ∈ lw_ok := ok_t3 (i := 19) ⟨rfl, rfl⟩
theorem kw497 : Cond.methodLink RX6 83 yX5_init ∈ lw_ok := ok_t3 (i := 17) ⟨rfl, rfl⟩
theorem kw498 : Cond.instanceMethod yX5_init ∈ lw_ok := ok_t3 (i := 18) ⟨rfl, rfl⟩
theorem iX6_83 : CI RX6 83 yX5_init cX5_init 4 3 := ⟨⟨kw497, kw498, kw14, kw499⟩, md_X5_init, by decide, rfl⟩
theorem md_X5_readAll : yX5_readAll.cls ≠ "java/lang/invoke/MethodHandle" ∧ yX5_readAll.cls ≠ "java/lang/invoke/VarHandle" ∧ (parseMethodDescriptor yX5_readAll.desc).map (fun d => d.parameters.length) = some 0 := ⟨mhX5.1, mhX5.2, by decide +kernel⟩
theorem kw526 : Cond.code yX5_readAll cX5_readAll 2 (some .boolean) ∈ lw_ok := ok_t3 (i := 46) ⟨rfl, rfl⟩
theorem kw523 : Cond.methodLink RX6 86 yX5_readAll ∈ lw_ok := ok_t3 (i := 43) ⟨rfl, rfl⟩
theorem kw524 : Cond.instanceMethod yX5_readAll ∈ lw_ok := ok_t3 (i := 44) ⟨rfl, rfl⟩
theorem kw525 : Cond.selects RX5 yX5_readAll yX5_readAll ∈ lw_ok := ok_t3 (i := 45) ⟨rfl, rfl⟩
theorem vX6_86 : CV RX6 86 yX5_readAll cX5_readAll 2 0 (some .boolean) := ⟨⟨kw523, kw524, kw525, kw14, kw526⟩, md_X5_readAll, by decide⟩
theorem md_X1_lose : yX1_lose.cls ≠ "java/lang/invoke/MethodHandle" ∧ yX1_lose.cls ≠ "java/lang/invoke/VarHandle" ∧ (parseMethodDescriptor yX1_lose.desc).map (fun d => d.parameters.length) = some 1 := ⟨mhX1.1, mhX1.2, by decide +kernel⟩
theorem kw599 : Cond.code yX1_lose cX1_lose 3 none ∈ lw_ok := ok_t3 (i := 119) ⟨rfl, rfl⟩
theorem kw596 : Cond.methodLink RX6 87 yX1_lose ∈ lw_ok := ok_t3 (i := 116) ⟨rfl, rfl⟩
theorem kw597 : Cond.instanceMethod yX1_lose ∈ lw_ok := ok_t3 (i := 117) ⟨rfl, rfl⟩
theorem kw598 : Cond.selects RX1 yX1_lose yX1_lose ∈ lw_ok := ok_t3 (i := 118) ⟨rfl, rfl⟩
theorem vX6_87 : CV RX6 87 yX1_lose cX1_lose 3 1 none := ⟨⟨kw596, kw597, kw598, kw8, kw599⟩, md_X1_lose, by decide⟩
theorem md_X4_init : yX4_init.cls ≠ "java/lang/invoke/MethodHandle" ∧ yX4_init.cls ≠ "java/lang/invoke/VarHandle" ∧ (parseMethodDescriptor yX4_init.desc).map (fun d => d.parameters.length) = some 0 := ⟨mhX4.1, mhX4.2, by decide +kernel⟩
theorem kw29 : Cond.code yX4_init cX4_init 4 none ∈ lw_ok := ok_t1 (i := 29) ⟨rfl, rfl⟩
theorem kw27 : Cond.methodLink RX6 9 yX4_init ∈ lw_ok := ok_t1 (i := 27) ⟨rfl, rfl⟩
theorem kw28 : Cond.instanceMethod yX4_init ∈ lw_ok := ok_t1 (i := 28) ⟨rfl, rfl⟩
theorem iX6_9 : CI RX6 9 yX4_init cX4_init 4 0 := ⟨⟨kw27, kw28, kw2, kw29⟩, md_X4_init, by decide, rfl⟩
theorem kw615 : Cond.methodLink RX6 99 yX2_hasRow ∈ lw_ok := ok_t3 (i := 135) ⟨rfl, rfl⟩
theorem vX6_99 : CV RX6 99 yX2_hasRow cX2_hasRow 2 1 (some .boolean) := ⟨⟨kw615, kw480, kw481, kw7, kw482⟩, md_X2_hasRow, by decide⟩
theorem mhX7 : RX7 ≠ "java/lang/invoke/MethodHandle" ∧ RX7 ≠ "java/lang/invoke/VarHandle" := by decide +kernel
theorem md_X7_about : yX7_about.cls ≠ "java/lang/invoke/MethodHandle" ∧ yX7_about.cls ≠ "java/lang/invoke/VarHandle" ∧ (parseMethodDescriptor yX7_about.desc).map (fun d => d.parameters.length) = some 1 := ⟨mhX7.1, mhX7.2, by decide +kernel⟩
theorem kw1226 : Cond.code yX7_about cX7_about 2 (some .int) ∈ lw_ok := ok_t6 (i := 26) ⟨rfl, rfl⟩
theorem kw10 : Cond.initialized RX7 ∈ lw_ok := ok_t1 (i := 10) ⟨rfl, rfl⟩
theorem kw1223 : Cond.methodLink RL 100 yX7_about ∈ lw_ok := ok_t6 (i := 23) ⟨rfl, rfl⟩
theorem kw1224 : Cond.instanceMethod yX7_about ∈ lw_ok := ok_t6 (i := 24) ⟨rfl, rfl⟩
theorem kw1225 : Cond.selects RX7 yX7_about yX7_about ∈ lw_ok := ok_t6 (i := 25) ⟨rfl, rfl⟩
theorem vL_100 : CV RL 100 yX7_about cX7_about 2 1 (some .int) := ⟨⟨kw1223, kw1224, kw1225, kw10, kw1226⟩, md_X7_about, by decide⟩
theorem md_X7_init : yX7_init.cls ≠ "java/lang/invoke/MethodHandle" ∧ yX7_init.cls ≠ "java/lang/invoke/VarHandle" ∧ (parseMethodDescriptor yX7_init.desc).map (fun d => d.parameters.length) = some 0 := ⟨mhX7.1, mhX7.2, by decide +kernel⟩
theorem kw1033 : Cond.code yX7_init cX7_init 2 none ∈ lw_ok := ok_t5 (i := 73) ⟨rfl, rfl⟩
theorem kw1031 : Cond.methodLink RL 12 yX7_init ∈ lw_ok := ok_t5 (i := 71) ⟨rfl, rfl⟩
theorem kw1032 : Cond.instanceMethod yX7_init ∈ lw_ok := ok_t5 (i := 72) ⟨rfl, rfl⟩
theorem iL_12 : CI RL 12 yX7_init cX7_init 2 0 := ⟨⟨kw1031, kw1032, kw10, kw1033⟩, md_X7_init, by decide, rfl⟩
theorem md_X6_feed : yX6_feed.cls ≠ "java/lang/invoke/MethodHandle" ∧ yX6_feed.cls ≠ "java/lang/invoke/VarHandle" ∧ (parseMethodDescriptor yX6_feed.desc).map (fun d => d.parameters.length) = some 5 := ⟨mhX6.1, mhX6.2, by decide +kernel⟩
theorem kw285 : Cond.code yX6_feed cX6_feed 6 (some .int) ∈ lw_ok := ok_t2 (i := 45) ⟨rfl, rfl⟩
theorem kw282 : Cond.methodLink RL 13 yX6_feed ∈ lw_ok := ok_t2 (i := 42) ⟨rfl, rfl⟩
theorem kw283 : Cond.instanceMethod yX6_feed ∈ lw_ok := ok_t2 (i := 43) ⟨rfl, rfl⟩
theorem kw284 : Cond.selects RX6 yX6_feed yX6_feed ∈ lw_ok := ok_t2 (i := 44) ⟨rfl, rfl⟩
theorem vL_13 : CV RL 13 yX6_feed cX6_feed 6 5 (some .int) := ⟨⟨kw282, kw283, kw284, kw1, kw285⟩, md_X6_feed, by decide⟩
theorem md_X7_feed : yX7_feed.cls ≠ "java/lang/invoke/MethodHandle" ∧ yX7_feed.cls ≠ "java/lang/invoke/VarHandle" ∧ (parseMethodDescriptor yX7_feed.desc).map (fun d => d.parameters.length) = some 5 := ⟨mhX7.1, mhX7.2, by decide +kernel⟩
theorem kw1230 : Cond.code yX7_feed cX7_feed 8 (some .int) ∈ lw_ok := ok_t6 (i := 30) ⟨rfl, rfl⟩
theorem kw1227 : Cond.methodLink RL 17 yX7_feed ∈ lw_ok := ok_t6 (i := 27) ⟨rfl, rfl⟩
theorem kw1228 : Cond.instanceMethod yX7_feed ∈ lw_ok := ok_t6 (i := 28) ⟨rfl, rfl⟩
theorem kw1229 : Cond.selects RX7 yX7_feed yX7_feed ∈ lw_ok := ok_t6 (i := 29) ⟨rfl, rfl⟩
theorem vL_17 : CV RL 17 yX7_feed cX7_feed 8 5 (some .int) := ⟨⟨kw1227, kw1228, kw1229, kw10, kw1230⟩, md_X7_feed, by decide⟩
theorem md_X6_end : yX6_end.cls ≠ "java/lang/invoke/MethodHandle" ∧ yX6_end.cls ≠ "java/lang/invoke/VarHandle" ∧ (parseMethodDescriptor yX6_end.desc).map (fun d => d.parameters.length) = some 1 := ⟨mhX6.1, mhX6.2, by decide +kernel⟩
theorem kw293 : Cond.code yX6_end cX6_end 2 (some .int) ∈ lw_ok := ok_t2 (i := 53) ⟨rfl, rfl⟩
theorem kw290 : Cond.methodLink RL 18 yX6_end ∈ lw_ok := ok_t2 (i := 50) ⟨rfl, rfl⟩
theorem kw291 : Cond.instanceMethod yX6_end ∈ lw_ok := ok_t2 (i := 51) ⟨rfl, rfl⟩
theorem kw292 : Cond.selects RX6 yX6_end yX6_end ∈ lw_ok := ok_t2 (i := 52) ⟨rfl, rfl⟩
theorem vL_18 : CV RL 18 yX6_end cX6_end 2 1 (some .int) := ⟨⟨kw290, kw291, kw292, kw1, kw293⟩, md_X6_end, by decide⟩
theorem md_X7_end : yX7_end.cls ≠ "java/lang/invoke/MethodHandle" ∧ yX7_end.cls ≠ "java/lang/invoke/VarHandle" ∧ (parseMethodDescriptor yX7_end.desc).map (fun d => d.parameters.length) = some 1 := ⟨mhX7.1, mhX7.2, by decide +kernel⟩
theorem kw1234 : Cond.code yX7_end cX7_end 2 (some .int) ∈ lw_ok := ok_t6 (i := 34) ⟨rfl, rfl⟩
theorem kw1231 : Cond.methodLink RL 22 yX7_end ∈ lw_ok := ok_t6 (i := 31) ⟨rfl, rfl⟩
theorem kw1232 : Cond.instanceMethod yX7_end ∈ lw_ok := ok_t6 (i := 32) ⟨rfl, rfl⟩
theorem kw1233 : Cond.selects RX7 yX7_end yX7_end ∈ lw_ok := ok_t6 (i := 33) ⟨rfl, rfl⟩
theorem vL_22 : CV RL 22 yX7_end cX7_end 2 1 (some .int) := ⟨⟨kw1231, kw1232, kw1233, kw10, kw1234⟩, md_X7_end, by decide⟩
theorem md_X6_store : yX6_store.cls ≠ "java/lang/invoke/MethodHandle" ∧ yX6_store.cls ≠ "java/lang/invoke/VarHandle" ∧ (parseMethodDescriptor yX6_store.desc).map (fun d => d.parameters.length) = some 0 := ⟨mhX6.1, mhX6.2, by decide +kernel⟩
theorem kw297 : Cond.code yX6_store cX6_store 3 (some .int) ∈ lw_ok := ok_t2 (i := 57) ⟨rfl, rfl⟩
theorem kw294 : Cond.methodLink RL 23 yX6_store ∈ lw_ok := ok_t2 (i := 54) ⟨rfl, rfl⟩
theorem kw295 : Cond.instanceMethod yX6_store ∈ lw_ok := ok_t2 (i := 55) ⟨rfl, rfl⟩
theorem kw296 : Cond.selects RX6 yX6_store yX6_store ∈ lw_ok := ok_t2 (i := 56) ⟨rfl, rfl⟩
theorem vL_23 : CV RL 23 yX6_store cX6_store 3 0 (some .int) := ⟨⟨kw294, kw295, kw296, kw1, kw297⟩, md_X6_store, by decide⟩
theorem md_X7_store : yX7_store.cls ≠ "java/lang/invoke/MethodHandle" ∧ yX7_store.cls ≠ "java/lang/invoke/VarHandle" ∧ (parseMethodDescriptor yX7_store.desc).map (fun d => d.parameters.length) = some 0 := ⟨mhX7.1, mhX7.2, by decide +kernel⟩
theorem kw790 : Cond.code yX7_store cX7_store 2 (some .int) ∈ lw_ok := ok_t4 (i := 70) ⟨rfl, rfl⟩
theorem kw787 : Cond.methodLink RL 27 yX7_store ∈ lw_ok := ok_t4 (i := 67) ⟨rfl, rfl⟩
theorem kw788 : Cond.instanceMethod yX7_store ∈ lw_ok := ok_t4 (i := 68) ⟨rfl, rfl⟩
theorem kw789 : Cond.selects RX7 yX7_store yX7_store ∈ lw_ok := ok_t4 (i := 69) ⟨rfl, rfl⟩
theorem vL_27 : CV RL 27 yX7_store cX7_store 2 0 (some .int) := ⟨⟨kw787, kw788, kw789, kw10, kw790⟩, md_X7_store, by decide⟩
theorem md_X6_wishes : yX6_wishes.cls ≠ "java/lang/invoke/MethodHandle" ∧ yX6_wishes.cls ≠ "java/lang/invoke/VarHandle" ∧ (parseMethodDescriptor yX6_wishes.desc).map (fun d => d.parameters.length) = some 0 := ⟨mhX6.1, mhX6.2, by decide +kernel⟩
theorem kw494 : Cond.code yX6_wishes cX6_wishes 3 (some .int) ∈ lw_ok := ok_t3 (i := 14) ⟨rfl, rfl⟩
theorem kw491 : Cond.methodLink RL 28 yX6_wishes ∈ lw_ok := ok_t3 (i := 11) ⟨rfl, rfl⟩
theorem kw492 : Cond.instanceMethod yX6_wishes ∈ lw_ok := ok_t3 (i := 12) ⟨rfl, rfl⟩
theorem kw493 : Cond.selects RX6 yX6_wishes yX6_wishes ∈ lw_ok := ok_t3 (i := 13) ⟨rfl, rfl⟩
theorem vL_28 : CV RL 28 yX6_wishes cX6_wishes 3 0 (some .int) := ⟨⟨kw491, kw492, kw493, kw1, kw494⟩, md_X6_wishes, by decide⟩
theorem md_X7_wishes : yX7_wishes.cls ≠ "java/lang/invoke/MethodHandle" ∧ yX7_wishes.cls ≠ "java/lang/invoke/VarHandle" ∧ (parseMethodDescriptor yX7_wishes.desc).map (fun d => d.parameters.length) = some 0 := ⟨mhX7.1, mhX7.2, by decide +kernel⟩
theorem kw915 : Cond.code yX7_wishes cX7_wishes 1 (some .int) ∈ lw_ok := ok_t4 (i := 195) ⟨rfl, rfl⟩
theorem kw912 : Cond.methodLink RL 31 yX7_wishes ∈ lw_ok := ok_t4 (i := 192) ⟨rfl, rfl⟩
theorem kw913 : Cond.instanceMethod yX7_wishes ∈ lw_ok := ok_t4 (i := 193) ⟨rfl, rfl⟩
theorem kw914 : Cond.selects RX7 yX7_wishes yX7_wishes ∈ lw_ok := ok_t4 (i := 194) ⟨rfl, rfl⟩
theorem vL_31 : CV RL 31 yX7_wishes cX7_wishes 1 0 (some .int) := ⟨⟨kw912, kw913, kw914, kw10, kw915⟩, md_X7_wishes, by decide⟩
theorem md_X6_fault : yX6_fault.cls ≠ "java/lang/invoke/MethodHandle" ∧ yX6_fault.cls ≠ "java/lang/invoke/VarHandle" ∧ (parseMethodDescriptor yX6_fault.desc).map (fun d => d.parameters.length) = some 1 := ⟨mhX6.1, mhX6.2, by decide +kernel⟩
theorem kw610 : Cond.code yX6_fault cX6_fault 2 (some .int) ∈ lw_ok := ok_t3 (i := 130) ⟨rfl, rfl⟩
theorem kw607 : Cond.methodLink RL 32 yX6_fault ∈ lw_ok := ok_t3 (i := 127) ⟨rfl, rfl⟩
theorem kw608 : Cond.instanceMethod yX6_fault ∈ lw_ok := ok_t3 (i := 128) ⟨rfl, rfl⟩
theorem kw609 : Cond.selects RX6 yX6_fault yX6_fault ∈ lw_ok := ok_t3 (i := 129) ⟨rfl, rfl⟩
theorem vL_32 : CV RL 32 yX6_fault cX6_fault 2 1 (some .int) := ⟨⟨kw607, kw608, kw609, kw1, kw610⟩, md_X6_fault, by decide⟩
theorem md_X7_fault : yX7_fault.cls ≠ "java/lang/invoke/MethodHandle" ∧ yX7_fault.cls ≠ "java/lang/invoke/VarHandle" ∧ (parseMethodDescriptor yX7_fault.desc).map (fun d => d.parameters.length) = some 1 := ⟨mhX7.1, mhX7.2, by decide +kernel⟩
theorem kw883 : Cond.code yX7_fault cX7_fault 2 (some .int) ∈ lw_ok := ok_t4 (i := 163) ⟨rfl, rfl⟩
theorem kw880 : Cond.methodLink RL 35 yX7_fault ∈ lw_ok := ok_t4 (i := 160) ⟨rfl, rfl⟩
theorem kw881 : Cond.instanceMethod yX7_fault ∈ lw_ok := ok_t4 (i := 161) ⟨rfl, rfl⟩
theorem kw882 : Cond.selects RX7 yX7_fault yX7_fault ∈ lw_ok := ok_t4 (i := 162) ⟨rfl, rfl⟩
theorem vL_35 : CV RL 35 yX7_fault cX7_fault 2 1 (some .int) := ⟨⟨kw880, kw881, kw882, kw10, kw883⟩, md_X7_fault, by decide⟩
theorem md_X6_row : yX6_row.cls ≠ "java/lang/invoke/MethodHandle" ∧ yX6_row.cls ≠ "java/lang/invoke/VarHandle" ∧ (parseMethodDescriptor yX6_row.desc).map (fun d => d.parameters.length) = some 2 := ⟨mhX6.1, mhX6.2, by decide +kernel⟩
theorem kw614 : Cond.code yX6_row cX6_row 3 (some .int) ∈ lw_ok := ok_t3 (i := 134) ⟨rfl, rfl⟩
theorem kw611 : Cond.methodLink RL 36 yX6_row ∈ lw_ok := ok_t3 (i := 131) ⟨rfl, rfl⟩
theorem kw612 : Cond.instanceMethod yX6_row ∈ lw_ok := ok_t3 (i := 132) ⟨rfl, rfl⟩
theorem kw613 : Cond.selects RX6 yX6_row yX6_row ∈ lw_ok := ok_t3 (i := 133) ⟨rfl, rfl⟩
theorem vL_36 : CV RL 36 yX6_row cX6_row 3 2 (some .int) := ⟨⟨kw611, kw612, kw613, kw1, kw614⟩, md_X6_row, by decide⟩
theorem md_X7_row : yX7_row.cls ≠ "java/lang/invoke/MethodHandle" ∧ yX7_row.cls ≠ "java/lang/invoke/VarHandle" ∧ (parseMethodDescriptor yX7_row.desc).map (fun d => d.parameters.length) = some 2 := ⟨mhX7.1, mhX7.2, by decide +kernel⟩
theorem kw887 : Cond.code yX7_row cX7_row 3 (some .int) ∈ lw_ok := ok_t4 (i := 167) ⟨rfl, rfl⟩
theorem kw884 : Cond.methodLink RL 40 yX7_row ∈ lw_ok := ok_t4 (i := 164) ⟨rfl, rfl⟩
theorem kw885 : Cond.instanceMethod yX7_row ∈ lw_ok := ok_t4 (i := 165) ⟨rfl, rfl⟩
theorem kw886 : Cond.selects RX7 yX7_row yX7_row ∈ lw_ok := ok_t4 (i := 166) ⟨rfl, rfl⟩
theorem vL_40 : CV RL 40 yX7_row cX7_row 3 2 (some .int) := ⟨⟨kw884, kw885, kw886, kw10, kw887⟩, md_X7_row, by decide⟩
theorem md_X6_value : yX6_value.cls ≠ "java/lang/invoke/MethodHandle" ∧ yX6_value.cls ≠ "java/lang/invoke/VarHandle" ∧ (parseMethodDescriptor yX6_value.desc).map (fun d => d.parameters.length) = some 2 := ⟨mhX6.1, mhX6.2, by decide +kernel⟩
theorem kw622 : Cond.code yX6_value cX6_value 3 (some .int) ∈ lw_ok := ok_t3 (i := 142) ⟨rfl, rfl⟩
theorem kw619 : Cond.methodLink RL 41 yX6_value ∈ lw_ok := ok_t3 (i := 139) ⟨rfl, rfl⟩
theorem kw620 : Cond.instanceMethod yX6_value ∈ lw_ok := ok_t3 (i := 140) ⟨rfl, rfl⟩
theorem kw621 : Cond.selects RX6 yX6_value yX6_value ∈ lw_ok := ok_t3 (i := 141) ⟨rfl, rfl⟩
theorem vL_41 : CV RL 41 yX6_value cX6_value 3 2 (some .int) := ⟨⟨kw619, kw620, kw621, kw1, kw622⟩, md_X6_value, by decide⟩
theorem md_X7_value : yX7_value.cls ≠ "java/lang/invoke/MethodHandle" ∧ yX7_value.cls ≠ "java/lang/invoke/VarHandle" ∧ (parseMethodDescriptor yX7_value.desc).map (fun d => d.parameters.length) = some 2 := ⟨mhX7.1, mhX7.2, by decide +kernel⟩
theorem kw903 : Cond.code yX7_value cX7_value 3 (some .int) ∈ lw_ok := ok_t4 (i := 183) ⟨rfl, rfl⟩
theorem kw900 : Cond.methodLink RL 44 yX7_value ∈ lw_ok := ok_t4 (i := 180) ⟨rfl, rfl⟩
theorem kw901 : Cond.instanceMethod yX7_value ∈ lw_ok := ok_t4 (i := 181) ⟨rfl, rfl⟩
theorem kw902 : Cond.selects RX7 yX7_value yX7_value ∈ lw_ok := ok_t4 (i := 182) ⟨rfl, rfl⟩
theorem vL_44 : CV RL 44 yX7_value cX7_value 3 2 (some .int) := ⟨⟨kw900, kw901, kw902, kw10, kw903⟩, md_X7_value, by decide⟩
theorem md_X6_holds : yX6_holds.cls ≠ "java/lang/invoke/MethodHandle" ∧ yX6_holds.cls ≠ "java/lang/invoke/VarHandle" ∧ (parseMethodDescriptor yX6_holds.desc).map (fun d => d.parameters.length) = some 2 := ⟨mhX6.1, mhX6.2, by decide +kernel⟩
theorem kw627 : Cond.code yX6_holds cX6_holds 3 (some .int) ∈ lw_ok := ok_t3 (i := 147) ⟨rfl, rfl⟩
theorem kw624 : Cond.methodLink RL 45 yX6_holds ∈ lw_ok := ok_t3 (i := 144) ⟨rfl, rfl⟩
theorem kw625 : Cond.instanceMethod yX6_holds ∈ lw_ok := ok_t3 (i := 145) ⟨rfl, rfl⟩
theorem kw626 : Cond.selects RX6 yX6_holds yX6_holds ∈ lw_ok := ok_t3 (i := 146) ⟨rfl, rfl⟩
theorem vL_45 : CV RL 45 yX6_holds cX6_holds 3 2 (some .int) := ⟨⟨kw624, kw625, kw626, kw1, kw627⟩, md_X6_holds, by decide⟩
theorem md_X7_holds : yX7_holds.cls ≠ "java/lang/invoke/MethodHandle" ∧ yX7_holds.cls ≠ "java/lang/invoke/VarHandle" ∧ (parseMethodDescriptor yX7_holds.desc).map (fun d => d.parameters.length) = some 2 := ⟨mhX7.1, mhX7.2, by decide +kernel⟩
theorem kw959 : Cond.code yX7_holds cX7_holds 4 (some .int) ∈ lw_ok := ok_t4 (i := 239) ⟨rfl, rfl⟩
theorem kw956 : Cond.methodLink RL 48 yX7_holds ∈ lw_ok := ok_t4 (i := 236) ⟨rfl, rfl⟩
theorem kw957 : Cond.instanceMethod yX7_holds ∈ lw_ok := ok_t4 (i := 237) ⟨rfl, rfl⟩
theorem kw958 : Cond.selects RX7 yX7_holds yX7_holds ∈ lw_ok := ok_t4 (i := 238) ⟨rfl, rfl⟩
theorem vL_48 : CV RL 48 yX7_holds cX7_holds 4 2 (some .int) := ⟨⟨kw956, kw957, kw958, kw10, kw959⟩, md_X7_holds, by decide⟩
theorem md_X6_gone : yX6_gone.cls ≠ "java/lang/invoke/MethodHandle" ∧ yX6_gone.cls ≠ "java/lang/invoke/VarHandle" ∧ (parseMethodDescriptor yX6_gone.desc).map (fun d => d.parameters.length) = some 1 := ⟨mhX6.1, mhX6.2, by decide +kernel⟩
theorem kw635 : Cond.code yX6_gone cX6_gone 2 (some .boolean) ∈ lw_ok := ok_t3 (i := 155) ⟨rfl, rfl⟩
theorem kw632 : Cond.methodLink RL 49 yX6_gone ∈ lw_ok := ok_t3 (i := 152) ⟨rfl, rfl⟩
theorem kw633 : Cond.instanceMethod yX6_gone ∈ lw_ok := ok_t3 (i := 153) ⟨rfl, rfl⟩
theorem kw634 : Cond.selects RX6 yX6_gone yX6_gone ∈ lw_ok := ok_t3 (i := 154) ⟨rfl, rfl⟩
theorem vL_49 : CV RL 49 yX6_gone cX6_gone 2 1 (some .boolean) := ⟨⟨kw632, kw633, kw634, kw1, kw635⟩, md_X6_gone, by decide⟩
theorem md_X7_gone : yX7_gone.cls ≠ "java/lang/invoke/MethodHandle" ∧ yX7_gone.cls ≠ "java/lang/invoke/VarHandle" ∧ (parseMethodDescriptor yX7_gone.desc).map (fun d => d.parameters.length) = some 1 := ⟨mhX7.1, mhX7.2, by decide +kernel⟩
theorem kw974 : Cond.code yX7_gone cX7_gone 3 (some .boolean) ∈ lw_ok := ok_t5 (i := 14) ⟨rfl, rfl⟩
theorem kw971 : Cond.methodLink RL 53 yX7_gone ∈ lw_ok := ok_t5 (i := 11) ⟨rfl, rfl⟩
theorem kw972 : Cond.instanceMethod yX7_gone ∈ lw_ok := ok_t5 (i := 12) ⟨rfl, rfl⟩
theorem kw973 : Cond.selects RX7 yX7_gone yX7_gone ∈ lw_ok := ok_t5 (i := 13) ⟨rfl, rfl⟩
theorem vL_53 : CV RL 53 yX7_gone cX7_gone 3 1 (some .boolean) := ⟨⟨kw971, kw972, kw973, kw10, kw974⟩, md_X7_gone, by decide⟩
theorem kw641 : Cond.methodLink RL 54 yX6_least ∈ lw_ok := ok_t3 (i := 161) ⟨rfl, rfl⟩
theorem vL_54 : CV RL 54 yX6_least cX6_least 1 0 (some .int) := ⟨⟨kw641, kw642, kw643, kw1, kw644⟩, md_X6_least, by decide⟩
theorem md_X7_least : yX7_least.cls ≠ "java/lang/invoke/MethodHandle" ∧ yX7_least.cls ≠ "java/lang/invoke/VarHandle" ∧ (parseMethodDescriptor yX7_least.desc).map (fun d => d.parameters.length) = some 0 := ⟨mhX7.1, mhX7.2, by decide +kernel⟩
theorem kw986 : Cond.code yX7_least cX7_least 1 (some .int) ∈ lw_ok := ok_t5 (i := 26) ⟨rfl, rfl⟩
theorem kw983 : Cond.methodLink RL 57 yX7_least ∈ lw_ok := ok_t5 (i := 23) ⟨rfl, rfl⟩
theorem kw984 : Cond.instanceMethod yX7_least ∈ lw_ok := ok_t5 (i := 24) ⟨rfl, rfl⟩
theorem kw985 : Cond.selects RX7 yX7_least yX7_least ∈ lw_ok := ok_t5 (i := 25) ⟨rfl, rfl⟩
theorem vL_57 : CV RL 57 yX7_least cX7_least 1 0 (some .int) := ⟨⟨kw983, kw984, kw985, kw10, kw986⟩, md_X7_least, by decide⟩
theorem md_X6_keep : yX6_keep.cls ≠ "java/lang/invoke/MethodHandle" ∧ yX6_keep.cls ≠ "java/lang/invoke/VarHandle" ∧ (parseMethodDescriptor yX6_keep.desc).map (fun d => d.parameters.length) = some 0 := ⟨mhX6.1, mhX6.2, by decide +kernel⟩
theorem kw720 : Cond.code yX6_keep cX6_keep 2 (some .boolean) ∈ lw_ok := ok_t4 (i := 0) ⟨rfl, rfl⟩
theorem kw717 : Cond.methodLink RL 58 yX6_keep ∈ lw_ok := ok_t3 (i := 237) ⟨rfl, rfl⟩
theorem kw718 : Cond.instanceMethod yX6_keep ∈ lw_ok := ok_t3 (i := 238) ⟨rfl, rfl⟩
theorem kw719 : Cond.selects RX6 yX6_keep yX6_keep ∈ lw_ok := ok_t3 (i := 239) ⟨rfl, rfl⟩
theorem vL_58 : CV RL 58 yX6_keep cX6_keep 2 0 (some .boolean) := ⟨⟨kw717, kw718, kw719, kw1, kw720⟩, md_X6_keep, by decide⟩
theorem md_X7_keep : yX7_keep.cls ≠ "java/lang/invoke/MethodHandle" ∧ yX7_keep.cls ≠ "java/lang/invoke/VarHandle" ∧ (parseMethodDescriptor yX7_keep.desc).map (fun d => d.parameters.length) = some 0 := ⟨mhX7.1, mhX7.2, by decide +kernel⟩
theorem kw1004 : Cond.code yX7_keep cX7_keep 1 (some .boolean) ∈ lw_ok := ok_t5 (i := 44) ⟨rfl, rfl⟩
theorem kw1001 : Cond.methodLink RL 62 yX7_keep ∈ lw_ok := ok_t5 (i := 41) ⟨rfl, rfl⟩
theorem kw1002 : Cond.instanceMethod yX7_keep ∈ lw_ok := ok_t5 (i := 42) ⟨rfl, rfl⟩
theorem kw1003 : Cond.selects RX7 yX7_keep yX7_keep ∈ lw_ok := ok_t5 (i := 43) ⟨rfl, rfl⟩
theorem vL_62 : CV RL 62 yX7_keep cX7_keep 1 0 (some .boolean) := ⟨⟨kw1001, kw1002, kw1003, kw10, kw1004⟩, md_X7_keep, by decide⟩
theorem md_X6_steady : yX6_steady.cls ≠ "java/lang/invoke/MethodHandle" ∧ yX6_steady.cls ≠ "java/lang/invoke/VarHandle" ∧ (parseMethodDescriptor yX6_steady.desc).map (fun d => d.parameters.length) = some 0 := ⟨mhX6.1, mhX6.2, by decide +kernel⟩
theorem kw725 : Cond.code yX6_steady cX6_steady 1 (some .int) ∈ lw_ok := ok_t4 (i := 5) ⟨rfl, rfl⟩
theorem kw722 : Cond.methodLink RL 63 yX6_steady ∈ lw_ok := ok_t4 (i := 2) ⟨rfl, rfl⟩
theorem kw723 : Cond.instanceMethod yX6_steady ∈ lw_ok := ok_t4 (i := 3) ⟨rfl, rfl⟩
theorem kw724 : Cond.selects RX6 yX6_steady yX6_steady ∈ lw_ok := ok_t4 (i := 4) ⟨rfl, rfl⟩
theorem vL_63 : CV RL 63 yX6_steady cX6_steady 1 0 (some .int) := ⟨⟨kw722, kw723, kw724, kw1, kw725⟩, md_X6_steady, by decide⟩
theorem md_X7_steady : yX7_steady.cls ≠ "java/lang/invoke/MethodHandle" ∧ yX7_steady.cls ≠ "java/lang/invoke/VarHandle" ∧ (parseMethodDescriptor yX7_steady.desc).map (fun d => d.parameters.length) = some 0 := ⟨mhX7.1, mhX7.2, by decide +kernel⟩
theorem kw1008 : Cond.code yX7_steady cX7_steady 5 (some .int) ∈ lw_ok := ok_t5 (i := 48) ⟨rfl, rfl⟩
theorem kw1005 : Cond.methodLink RL 66 yX7_steady ∈ lw_ok := ok_t5 (i := 45) ⟨rfl, rfl⟩
theorem kw1006 : Cond.instanceMethod yX7_steady ∈ lw_ok := ok_t5 (i := 46) ⟨rfl, rfl⟩
theorem kw1007 : Cond.selects RX7 yX7_steady yX7_steady ∈ lw_ok := ok_t5 (i := 47) ⟨rfl, rfl⟩
theorem vL_66 : CV RL 66 yX7_steady cX7_steady 5 0 (some .int) := ⟨⟨kw1005, kw1006, kw1007, kw10, kw1008⟩, md_X7_steady, by decide⟩
theorem md_X6_piece : yX6_piece.cls ≠ "java/lang/invoke/MethodHandle" ∧ yX6_piece.cls ≠ "java/lang/invoke/VarHandle" ∧ (parseMethodDescriptor yX6_piece.desc).map (fun d => d.parameters.length) = some 1 := ⟨mhX6.1, mhX6.2, by decide +kernel⟩
theorem kw729 : Cond.code yX6_piece cX6_piece 2 (some .int) ∈ lw_ok := ok_t4 (i := 9) ⟨rfl, rfl⟩
theorem kw726 : Cond.methodLink RL 67 yX6_piece ∈ lw_ok := ok_t4 (i := 6) ⟨rfl, rfl⟩
theorem kw727 : Cond.instanceMethod yX6_piece ∈ lw_ok := ok_t4 (i := 7) ⟨rfl, rfl⟩
theorem kw728 : Cond.selects RX6 yX6_piece yX6_piece ∈ lw_ok := ok_t4 (i := 8) ⟨rfl, rfl⟩
theorem vL_67 : CV RL 67 yX6_piece cX6_piece 2 1 (some .int) := ⟨⟨kw726, kw727, kw728, kw1, kw729⟩, md_X6_piece, by decide⟩
theorem md_X7_piece : yX7_piece.cls ≠ "java/lang/invoke/MethodHandle" ∧ yX7_piece.cls ≠ "java/lang/invoke/VarHandle" ∧ (parseMethodDescriptor yX7_piece.desc).map (fun d => d.parameters.length) = some 1 := ⟨mhX7.1, mhX7.2, by decide +kernel⟩
theorem kw1012 : Cond.code yX7_piece cX7_piece 2 (some .int) ∈ lw_ok := ok_t5 (i := 52) ⟨rfl, rfl⟩
theorem kw1009 : Cond.methodLink RL 70 yX7_piece ∈ lw_ok := ok_t5 (i := 49) ⟨rfl, rfl⟩
theorem kw1010 : Cond.instanceMethod yX7_piece ∈ lw_ok := ok_t5 (i := 50) ⟨rfl, rfl⟩
theorem kw1011 : Cond.selects RX7 yX7_piece yX7_piece ∈ lw_ok := ok_t5 (i := 51) ⟨rfl, rfl⟩
theorem vL_70 : CV RL 70 yX7_piece cX7_piece 2 1 (some .int) := ⟨⟨kw1009, kw1010, kw1011, kw10, kw1012⟩, md_X7_piece, by decide⟩
theorem md_X6_why : yX6_why.cls ≠ "java/lang/invoke/MethodHandle" ∧ yX6_why.cls ≠ "java/lang/invoke/VarHandle" ∧ (parseMethodDescriptor yX6_why.desc).map (fun d => d.parameters.length) = some 1 := ⟨mhX6.1, mhX6.2, by decide +kernel⟩
theorem kw735 : Cond.code yX6_why cX6_why 4 (some .int) ∈ lw_ok := ok_t4 (i := 15) ⟨rfl, rfl⟩
theorem kw732 : Cond.methodLink RL 71 yX6_why ∈ lw_ok := ok_t4 (i := 12) ⟨rfl, rfl⟩
theorem kw733 : Cond.instanceMethod yX6_why ∈ lw_ok := ok_t4 (i := 13) ⟨rfl, rfl⟩
theorem kw734 : Cond.selects RX6 yX6_why yX6_why ∈ lw_ok := ok_t4 (i := 14) ⟨rfl, rfl⟩
theorem vL_71 : CV RL 71 yX6_why cX6_why 4 1 (some .int) := ⟨⟨kw732, kw733, kw734, kw1, kw735⟩, md_X6_why, by decide⟩
theorem md_X7_why : yX7_why.cls ≠ "java/lang/invoke/MethodHandle" ∧ yX7_why.cls ≠ "java/lang/invoke/VarHandle" ∧ (parseMethodDescriptor yX7_why.desc).map (fun d => d.parameters.length) = some 1 := ⟨mhX7.1, mhX7.2, by decide +kernel⟩
theorem kw1016 : Cond.code yX7_why cX7_why 4 (some .int) ∈ lw_ok := ok_t5 (i := 56) ⟨rfl, rfl⟩
theorem kw1013 : Cond.methodLink RL 74 yX7_why ∈ lw_ok := ok_t5 (i := 53) ⟨rfl, rfl⟩
theorem kw1014 : Cond.instanceMethod yX7_why ∈ lw_ok := ok_t5 (i := 54) ⟨rfl, rfl⟩
theorem kw1015 : Cond.selects RX7 yX7_why yX7_why ∈ lw_ok := ok_t5 (i := 55) ⟨rfl, rfl⟩
theorem vL_74 : CV RL 74 yX7_why cX7_why 4 1 (some .int) := ⟨⟨kw1013, kw1014, kw1015, kw10, kw1016⟩, md_X7_why, by decide⟩
theorem md_X6_order : yX6_order.cls ≠ "java/lang/invoke/MethodHandle" ∧ yX6_order.cls ≠ "java/lang/invoke/VarHandle" ∧ (parseMethodDescriptor yX6_order.desc).map (fun d => d.parameters.length) = some 1 := ⟨mhX6.1, mhX6.2, by decide +kernel⟩
theorem kw743 : Cond.code yX6_order cX6_order 2 (some .int) ∈ lw_ok := ok_t4 (i := 23) ⟨rfl, rfl⟩
theorem kw740 : Cond.methodLink RL 75 yX6_order ∈ lw_ok := ok_t4 (i := 20) ⟨rfl, rfl⟩
theorem kw741 : Cond.instanceMethod yX6_order ∈ lw_ok := ok_t4 (i := 21) ⟨rfl, rfl⟩
theorem kw742 : Cond.selects RX6 yX6_order yX6_order ∈ lw_ok := ok_t4 (i := 22) ⟨rfl, rfl⟩
theorem vL_75 : CV RL 75 yX6_order cX6_order 2 1 (some .int) := ⟨⟨kw740, kw741, kw742, kw1, kw743⟩, md_X6_order, by decide⟩
theorem md_X7_order : yX7_order.cls ≠ "java/lang/invoke/MethodHandle" ∧ yX7_order.cls ≠ "java/lang/invoke/VarHandle" ∧ (parseMethodDescriptor yX7_order.desc).map (fun d => d.parameters.length) = some 1 := ⟨mhX7.1, mhX7.2, by decide +kernel⟩
theorem kw1021 : Cond.code yX7_order cX7_order 2 (some .int) ∈ lw_ok := ok_t5 (i := 61) ⟨rfl, rfl⟩
theorem kw1018 : Cond.methodLink RL 78 yX7_order ∈ lw_ok := ok_t5 (i := 58) ⟨rfl, rfl⟩
theorem kw1019 : Cond.instanceMethod yX7_order ∈ lw_ok := ok_t5 (i := 59) ⟨rfl, rfl⟩
theorem kw1020 : Cond.selects RX7 yX7_order yX7_order ∈ lw_ok := ok_t5 (i := 60) ⟨rfl, rfl⟩
theorem vL_78 : CV RL 78 yX7_order cX7_order 2 1 (some .int) := ⟨⟨kw1018, kw1019, kw1020, kw10, kw1021⟩, md_X7_order, by decide⟩
theorem md_X6_rings : yX6_rings.cls ≠ "java/lang/invoke/MethodHandle" ∧ yX6_rings.cls ≠ "java/lang/invoke/VarHandle" ∧ (parseMethodDescriptor yX6_rings.desc).map (fun d => d.parameters.length) = some 0 := ⟨mhX6.1, mhX6.2, by decide +kernel⟩
theorem kw747 : Cond.code yX6_rings cX6_rings 2 (some .int) ∈ lw_ok := ok_t4 (i := 27) ⟨rfl, rfl⟩
theorem kw744 : Cond.methodLink RL 79 yX6_rings ∈ lw_ok := ok_t4 (i := 24) ⟨rfl, rfl⟩
theorem kw745 : Cond.instanceMethod yX6_rings ∈ lw_ok := ok_t4 (i := 25) ⟨rfl, rfl⟩
theorem kw746 : Cond.selects RX6 yX6_rings yX6_rings ∈ lw_ok := ok_t4 (i := 26) ⟨rfl, rfl⟩
theorem vL_79 : CV RL 79 yX6_rings cX6_rings 2 0 (some .int) := ⟨⟨kw744, kw745, kw746, kw1, kw747⟩, md_X6_rings, by decide⟩
theorem md_X7_rings : yX7_rings.cls ≠ "java/lang/invoke/MethodHandle" ∧ yX7_rings.cls ≠ "java/lang/invoke/VarHandle" ∧ (parseMethodDescriptor yX7_rings.desc).map (fun d => d.parameters.length) = some 0 := ⟨mhX7.1, mhX7.2, by decide +kernel⟩
theorem kw1029 : Cond.code yX7_rings cX7_rings 1 (some .int) ∈ lw_ok := ok_t5 (i := 69) ⟨rfl, rfl⟩
theorem kw1026 : Cond.methodLink RL 82 yX7_rings ∈ lw_ok := ok_t5 (i := 66) ⟨rfl, rfl⟩
theorem kw1027 : Cond.instanceMethod yX7_rings ∈ lw_ok := ok_t5 (i := 67) ⟨rfl, rfl⟩
theorem kw1028 : Cond.selects RX7 yX7_rings yX7_rings ∈ lw_ok := ok_t5 (i := 68) ⟨rfl, rfl⟩
theorem vL_82 : CV RL 82 yX7_rings cX7_rings 1 0 (some .int) := ⟨⟨kw1026, kw1027, kw1028, kw10, kw1029⟩, md_X7_rings, by decide⟩
theorem md_X6_hide : yX6_hide.cls ≠ "java/lang/invoke/MethodHandle" ∧ yX6_hide.cls ≠ "java/lang/invoke/VarHandle" ∧ (parseMethodDescriptor yX6_hide.desc).map (fun d => d.parameters.length) = some 3 := ⟨mhX6.1, mhX6.2, by decide +kernel⟩
theorem kw752 : Cond.code yX6_hide cX6_hide 4 (some .boolean) ∈ lw_ok := ok_t4 (i := 32) ⟨rfl, rfl⟩
theorem kw749 : Cond.methodLink RL 83 yX6_hide ∈ lw_ok := ok_t4 (i := 29) ⟨rfl, rfl⟩
theorem kw750 : Cond.instanceMethod yX6_hide ∈ lw_ok := ok_t4 (i := 30) ⟨rfl, rfl⟩
theorem kw751 : Cond.selects RX6 yX6_hide yX6_hide ∈ lw_ok := ok_t4 (i := 31) ⟨rfl, rfl⟩
theorem vL_83 : CV RL 83 yX6_hide cX6_hide 4 3 (some .boolean) := ⟨⟨kw749, kw750, kw751, kw1, kw752⟩, md_X6_hide, by decide⟩
theorem md_X7_hide : yX7_hide.cls ≠ "java/lang/invoke/MethodHandle" ∧ yX7_hide.cls ≠ "java/lang/invoke/VarHandle" ∧ (parseMethodDescriptor yX7_hide.desc).map (fun d => d.parameters.length) = some 3 := ⟨mhX7.1, mhX7.2, by decide +kernel⟩
theorem kw1204 : Cond.code yX7_hide cX7_hide 4 (some .boolean) ∈ lw_ok := ok_t6 (i := 4) ⟨rfl, rfl⟩
theorem kw1201 : Cond.methodLink RL 87 yX7_hide ∈ lw_ok := ok_t6 (i := 1) ⟨rfl, rfl⟩
theorem kw1202 : Cond.instanceMethod yX7_hide ∈ lw_ok := ok_t6 (i := 2) ⟨rfl, rfl⟩
theorem kw1203 : Cond.selects RX7 yX7_hide yX7_hide ∈ lw_ok := ok_t6 (i := 3) ⟨rfl, rfl⟩
theorem vL_87 : CV RL 87 yX7_hide cX7_hide 4 3 (some .boolean) := ⟨⟨kw1201, kw1202, kw1203, kw10, kw1204⟩, md_X7_hide, by decide⟩
theorem md_X6_shown : yX6_shown.cls ≠ "java/lang/invoke/MethodHandle" ∧ yX6_shown.cls ≠ "java/lang/invoke/VarHandle" ∧ (parseMethodDescriptor yX6_shown.desc).map (fun d => d.parameters.length) = some 2 := ⟨mhX6.1, mhX6.2, by decide +kernel⟩
theorem kw761 : Cond.code yX6_shown cX6_shown 5 (some .int) ∈ lw_ok := ok_t4 (i := 41) ⟨rfl, rfl⟩
theorem kw758 : Cond.methodLink RL 88 yX6_shown ∈ lw_ok := ok_t4 (i := 38) ⟨rfl, rfl⟩
theorem kw759 : Cond.instanceMethod yX6_shown ∈ lw_ok := ok_t4 (i := 39) ⟨rfl, rfl⟩
theorem kw760 : Cond.selects RX6 yX6_shown yX6_shown ∈ lw_ok := ok_t4 (i := 40) ⟨rfl, rfl⟩
theorem vL_88 : CV RL 88 yX6_shown cX6_shown 5 2 (some .int) := ⟨⟨kw758, kw759, kw760, kw1, kw761⟩, md_X6_shown, by decide⟩
theorem md_X6_init : yX6_init.cls ≠ "java/lang/invoke/MethodHandle" ∧ yX6_init.cls ≠ "java/lang/invoke/VarHandle" ∧ (parseMethodDescriptor yX6_init.desc).map (fun d => d.parameters.length) = some 0 := ⟨mhX6.1, mhX6.2, by decide +kernel⟩
theorem kw21 : Cond.code yX6_init cX6_init 1 none ∈ lw_ok := ok_t1 (i := 21) ⟨rfl, rfl⟩
theorem kw19 : Cond.methodLink RL 9 yX6_init ∈ lw_ok := ok_t1 (i := 19) ⟨rfl, rfl⟩
theorem kw20 : Cond.instanceMethod yX6_init ∈ lw_ok := ok_t1 (i := 20) ⟨rfl, rfl⟩
theorem iL_9 : CI RL 9 yX6_init cX6_init 1 0 := ⟨⟨kw19, kw20, kw1, kw21⟩, md_X6_init, by decide, rfl⟩
theorem md_X7_shown : yX7_shown.cls ≠ "java/lang/invoke/MethodHandle" ∧ yX7_shown.cls ≠ "java/lang/invoke/VarHandle" ∧ (parseMethodDescriptor yX7_shown.desc).map (fun d => d.parameters.length) = some 2 := ⟨mhX7.1, mhX7.2, by decide +kernel⟩
theorem kw1212 : Cond.code yX7_shown cX7_shown 5 (some .int) ∈ lw_ok := ok_t6 (i := 12) ⟨rfl, rfl⟩
theorem kw1209 : Cond.methodLink RL 91 yX7_shown ∈ lw_ok := ok_t6 (i := 9) ⟨rfl, rfl⟩
theorem kw1210 : Cond.instanceMethod yX7_shown ∈ lw_ok := ok_t6 (i := 10) ⟨rfl, rfl⟩
theorem kw1211 : Cond.selects RX7 yX7_shown yX7_shown ∈ lw_ok := ok_t6 (i := 11) ⟨rfl, rfl⟩
theorem vL_91 : CV RL 91 yX7_shown cX7_shown 5 2 (some .int) := ⟨⟨kw1209, kw1210, kw1211, kw10, kw1212⟩, md_X7_shown, by decide⟩
theorem md_X6_weight : yX6_weight.cls ≠ "java/lang/invoke/MethodHandle" ∧ yX6_weight.cls ≠ "java/lang/invoke/VarHandle" ∧ (parseMethodDescriptor yX6_weight.desc).map (fun d => d.parameters.length) = some 3 := ⟨mhX6.1, mhX6.2, by decide +kernel⟩
theorem kw769 : Cond.code yX6_weight cX6_weight 8 (some .int) ∈ lw_ok := ok_t4 (i := 49) ⟨rfl, rfl⟩
theorem kw766 : Cond.methodLink RL 92 yX6_weight ∈ lw_ok := ok_t4 (i := 46) ⟨rfl, rfl⟩
theorem kw767 : Cond.instanceMethod yX6_weight ∈ lw_ok := ok_t4 (i := 47) ⟨rfl, rfl⟩
theorem kw768 : Cond.selects RX6 yX6_weight yX6_weight ∈ lw_ok := ok_t4 (i := 48) ⟨rfl, rfl⟩
theorem vL_92 : CV RL 92 yX6_weight cX6_weight 8 3 (some .int) := ⟨⟨kw766, kw767, kw768, kw1, kw769⟩, md_X6_weight, by decide⟩
theorem md_X7_weight : yX7_weight.cls ≠ "java/lang/invoke/MethodHandle" ∧ yX7_weight.cls ≠ "java/lang/invoke/VarHandle" ∧ (parseMethodDescriptor yX7_weight.desc).map (fun d => d.parameters.length) = some 3 := ⟨mhX7.1, mhX7.2, by decide +kernel⟩
theorem kw1218 : Cond.code yX7_weight cX7_weight 9 (some .int) ∈ lw_ok := ok_t6 (i := 18) ⟨rfl, rfl⟩
theorem kw1215 : Cond.methodLink RL 96 yX7_weight ∈ lw_ok := ok_t6 (i := 15) ⟨rfl, rfl⟩
theorem kw1216 : Cond.instanceMethod yX7_weight ∈ lw_ok := ok_t6 (i := 16) ⟨rfl, rfl⟩
theorem kw1217 : Cond.selects RX7 yX7_weight yX7_weight ∈ lw_ok := ok_t6 (i := 17) ⟨rfl, rfl⟩
theorem vL_96 : CV RL 96 yX7_weight cX7_weight 9 3 (some .int) := ⟨⟨kw1215, kw1216, kw1217, kw10, kw1218⟩, md_X7_weight, by decide⟩
theorem md_X6_about : yX6_about.cls ≠ "java/lang/invoke/MethodHandle" ∧ yX6_about.cls ≠ "java/lang/invoke/VarHandle" ∧ (parseMethodDescriptor yX6_about.desc).map (fun d => d.parameters.length) = some 1 := ⟨mhX6.1, mhX6.2, by decide +kernel⟩
theorem kw781 : Cond.code yX6_about cX6_about 2 (some .int) ∈ lw_ok := ok_t4 (i := 61) ⟨rfl, rfl⟩
theorem kw778 : Cond.methodLink RL 97 yX6_about ∈ lw_ok := ok_t4 (i := 58) ⟨rfl, rfl⟩
theorem kw779 : Cond.instanceMethod yX6_about ∈ lw_ok := ok_t4 (i := 59) ⟨rfl, rfl⟩
theorem kw780 : Cond.selects RX6 yX6_about yX6_about ∈ lw_ok := ok_t4 (i := 60) ⟨rfl, rfl⟩
theorem vL_97 : CV RL 97 yX6_about cX6_about 2 1 (some .int) := ⟨⟨kw778, kw779, kw780, kw1, kw781⟩, md_X6_about, by decide⟩
theorem md_X7_takeTape : yX7_takeTape.cls ≠ "java/lang/invoke/MethodHandle" ∧ yX7_takeTape.cls ≠ "java/lang/invoke/VarHandle" ∧ (parseMethodDescriptor yX7_takeTape.desc).map (fun d => d.parameters.length) = some 1 := ⟨mhX7.1, mhX7.2, by decide +kernel⟩
theorem kw795 : Cond.code yX7_takeTape cX7_takeTape 3 none ∈ lw_ok := ok_t4 (i := 75) ⟨rfl, rfl⟩
theorem kw791 : Cond.methodLink RX7 112 yX7_takeTape ∈ lw_ok := ok_t4 (i := 71) ⟨rfl, rfl⟩
theorem kw793 : Cond.instanceMethod yX7_takeTape ∈ lw_ok := ok_t4 (i := 73) ⟨rfl, rfl⟩
theorem kp26 : Cond.selects RX7 yX7_takeTape yX7_takeTape ∈ lw_ok := ok_pq (i := 26) ⟨rfl, rfl⟩
theorem vX7_112 : CV RX7 112 yX7_takeTape cX7_takeTape 3 1 none := ⟨⟨kw791, kw793, kp26, kw10, kw795⟩, md_X7_takeTape, by decide⟩
theorem md_X7_isWord : yX7_isWord.cls ≠ "java/lang/invoke/MethodHandle" ∧ yX7_isWord.cls ≠ "java/lang/invoke/VarHandle" ∧ (parseMethodDescriptor yX7_isWord.desc).map (fun d => d.parameters.length) = some 1 := ⟨mhX7.1, mhX7.2, by decide +kernel⟩
theorem kw835 : Cond.code yX7_isWord cX7_isWord 3 (some .boolean) ∈ lw_ok := ok_t4 (i := 115) ⟨rfl, rfl⟩
theorem kw832 : Cond.methodLink RX7 125 yX7_isWord ∈ lw_ok := ok_t4 (i := 112) ⟨rfl, rfl⟩
theorem kw834 : Cond.instanceMethod yX7_isWord ∈ lw_ok := ok_t4 (i := 114) ⟨rfl, rfl⟩
theorem kp31 : Cond.selects RX7 yX7_isWord yX7_isWord ∈ lw_ok := ok_pq (i := 31) ⟨rfl, rfl⟩
theorem vX7_125 : CV RX7 125 yX7_isWord cX7_isWord 3 1 (some .boolean) := ⟨⟨kw832, kw834, kp31, kw10, kw835⟩, md_X7_isWord, by decide⟩
theorem md_X7_readTable : yX7_readTable.cls ≠ "java/lang/invoke/MethodHandle" ∧ yX7_readTable.cls ≠ "java/lang/invoke/VarHandle" ∧ (parseMethodDescriptor yX7_readTable.desc).map (fun d => d.parameters.length) = some 0 := ⟨mhX7.1, mhX7.2, by decide +kernel⟩
theorem kw839 : Cond.code yX7_readTable cX7_readTable 3 none ∈ lw_ok := ok_t4 (i := 119) ⟨rfl, rfl⟩
theorem kw836 : Cond.methodLink RX7 128 yX7_readTable ∈ lw_ok := ok_t4 (i := 116) ⟨rfl, rfl⟩
theorem kw838 : Cond.instanceMethod yX7_readTable ∈ lw_ok := ok_t4 (i := 118) ⟨rfl, rfl⟩
theorem kp32 : Cond.selects RX7 yX7_readTable yX7_readTable ∈ lw_ok := ok_pq (i := 32) ⟨rfl, rfl⟩
theorem vX7_128 : CV RX7 128 yX7_readTable cX7_readTable 3 0 none := ⟨⟨kw836, kw838, kp32, kw10, kw839⟩, md_X7_readTable, by decide⟩
theorem md_X7_readRow : yX7_readRow.cls ≠ "java/lang/invoke/MethodHandle" ∧ yX7_readRow.cls ≠ "java/lang/invoke/VarHandle" ∧ (parseMethodDescriptor yX7_readRow.desc).map (fun d => d.parameters.length) = some 0 := ⟨mhX7.1, mhX7.2, by decide +kernel⟩
theorem kw871 : Cond.code yX7_readRow cX7_readRow 5 none ∈ lw_ok := ok_t4 (i := 151) ⟨rfl, rfl⟩
theorem kw868 : Cond.methodLink RX7 131 yX7_readRow ∈ lw_ok := ok_t4 (i := 148) ⟨rfl, rfl⟩
theorem kw870 : Cond.instanceMethod yX7_readRow ∈ lw_ok := ok_t4 (i := 150) ⟨rfl, rfl⟩
theorem kp40 : Cond.selects RX7 yX7_readRow yX7_readRow ∈ lw_ok := ok_pq (i := 40) ⟨rfl, rfl⟩
theorem vX7_131 : CV RX7 131 yX7_readRow cX7_readRow 5 0 none := ⟨⟨kw868, kw870, kp40, kw10, kw871⟩, md_X7_readRow, by decide⟩
theorem md_X7_checkLinks : yX7_checkLinks.cls ≠ "java/lang/invoke/MethodHandle" ∧ yX7_checkLinks.cls ≠ "java/lang/invoke/VarHandle" ∧ (parseMethodDescriptor yX7_checkLinks.desc).map (fun d => d.parameters.length) = some 1 := ⟨mhX7.1, mhX7.2, by decide +kernel⟩
theorem kw879 : Cond.code yX7_checkLinks cX7_checkLinks 6 none ∈ lw_ok := ok_t4 (i := 159) ⟨rfl, rfl⟩
theorem kw876 : Cond.methodLink RX7 134 yX7_checkLinks ∈ lw_ok := ok_t4 (i := 156) ⟨rfl, rfl⟩
theorem kw878 : Cond.instanceMethod yX7_checkLinks ∈ lw_ok := ok_t4 (i := 158) ⟨rfl, rfl⟩
theorem kp42 : Cond.selects RX7 yX7_checkLinks yX7_checkLinks ∈ lw_ok := ok_pq (i := 42) ⟨rfl, rfl⟩
theorem vX7_134 : CV RX7 134 yX7_checkLinks cX7_checkLinks 6 1 none := ⟨⟨kw876, kw878, kp42, kw10, kw879⟩, md_X7_checkLinks, by decide⟩
theorem md_X7_tableOf : yX7_tableOf.cls ≠ "java/lang/invoke/MethodHandle" ∧ yX7_tableOf.cls ≠ "java/lang/invoke/VarHandle" ∧ (parseMethodDescriptor yX7_tableOf.desc).map (fun d => d.parameters.length) = some 2 := ⟨mhX7.1, mhX7.2, by decide +kernel⟩
theorem kw851 : Cond.code yX7_tableOf cX7_tableOf 5 (some .int) ∈ lw_ok := ok_t4 (i := 131) ⟨rfl, rfl⟩
theorem kw848 : Cond.methodLink RX7 156 yX7_tableOf ∈ lw_ok := ok_t4 (i := 128) ⟨rfl, rfl⟩
theorem kw850 : Cond.instanceMethod yX7_tableOf ∈ lw_ok := ok_t4 (i := 130) ⟨rfl, rfl⟩
theorem kp35 : Cond.selects RX7 yX7_tableOf yX7_tableOf ∈ lw_ok := ok_pq (i := 35) ⟨rfl, rfl⟩
theorem vX7_156 : CV RX7 156 yX7_tableOf cX7_tableOf 5 2 (some .int) := ⟨⟨kw848, kw850, kp35, kw10, kw851⟩, md_X7_tableOf, by decide⟩
theorem md_X7_is : yX7_is.cls ≠ "java/lang/invoke/MethodHandle" ∧ yX7_is.cls ≠ "java/lang/invoke/VarHandle" ∧ (parseMethodDescriptor yX7_is.desc).map (fun d => d.parameters.length) = some 1 := ⟨mhX7.1, mhX7.2, by decide +kernel⟩
theorem kw855 : Cond.code yX7_is cX7_is 2 (some .boolean) ∈ lw_ok := ok_t4 (i := 135) ⟨rfl, rfl⟩
theorem kw852 : Cond.methodLink RX7 163 yX7_is ∈ lw_ok := ok_t4 (i := 132) ⟨rfl, rfl⟩
theorem kw854 : Cond.instanceMethod yX7_is ∈ lw_ok := ok_t4 (i := 134) ⟨rfl, rfl⟩
theorem kp36 : Cond.selects RX7 yX7_is yX7_is ∈ lw_ok := ok_pq (i := 36) ⟨rfl, rfl⟩
theorem vX7_163 : CV RX7 163 yX7_is cX7_is 2 1 (some .boolean) := ⟨⟨kw852, kw854, kp36, kw10, kw855⟩, md_X7_is, by decide⟩
theorem md_X7_must : yX7_must.cls ≠ "java/lang/invoke/MethodHandle" ∧ yX7_must.cls ≠ "java/lang/invoke/VarHandle" ∧ (parseMethodDescriptor yX7_must.desc).map (fun d => d.parameters.length) = some 1 := ⟨mhX7.1, mhX7.2, by decide +kernel⟩
theorem kw859 : Cond.code yX7_must cX7_must 2 none ∈ lw_ok := ok_t4 (i := 139) ⟨rfl, rfl⟩
theorem kw856 : Cond.methodLink RX7 166 yX7_must ∈ lw_ok := ok_t4 (i := 136) ⟨rfl, rfl⟩
theorem kw858 : Cond.instanceMethod yX7_must ∈ lw_ok := ok_t4 (i := 138) ⟨rfl, rfl⟩
theorem kp37 : Cond.selects RX7 yX7_must yX7_must ∈ lw_ok := ok_pq (i := 37) ⟨rfl, rfl⟩
theorem vX7_166 : CV RX7 166 yX7_must cX7_must 2 1 none := ⟨⟨kw856, kw858, kp37, kw10, kw859⟩, md_X7_must, by decide⟩
theorem md_X7_readColumn : yX7_readColumn.cls ≠ "java/lang/invoke/MethodHandle" ∧ yX7_readColumn.cls ≠ "java/lang/invoke/VarHandle" ∧ (parseMethodDescriptor yX7_readColumn.desc).map (fun d => d.parameters.length) = some 1 := ⟨mhX7.1, mhX7.2, by decide +kernel⟩
theorem kw863 : Cond.code yX7_readColumn cX7_readColumn 3 none ∈ lw_ok := ok_t4 (i := 143) ⟨rfl, rfl⟩
theorem kw860 : Cond.methodLink RX7 169 yX7_readColumn ∈ lw_ok := ok_t4 (i := 140) ⟨rfl, rfl⟩
theorem kw862 : Cond.instanceMethod yX7_readColumn ∈ lw_ok := ok_t4 (i := 142) ⟨rfl, rfl⟩
theorem kp38 : Cond.selects RX7 yX7_readColumn yX7_readColumn ∈ lw_ok := ok_pq (i := 38) ⟨rfl, rfl⟩
theorem vX7_169 : CV RX7 169 yX7_readColumn cX7_readColumn 3 1 none := ⟨⟨kw860, kw862, kp38, kw10, kw863⟩, md_X7_readColumn, by decide⟩
theorem md_X7_columnOf : yX7_columnOf.cls ≠ "java/lang/invoke/MethodHandle" ∧ yX7_columnOf.cls ≠ "java/lang/invoke/VarHandle" ∧ (parseMethodDescriptor yX7_columnOf.desc).map (fun d => d.parameters.length) = some 2 := ⟨mhX7.1, mhX7.2, by decide +kernel⟩
theorem kw867 : Cond.code yX7_columnOf cX7_columnOf 5 (some .int) ∈ lw_ok := ok_t4 (i := 147) ⟨rfl, rfl⟩
theorem kw864 : Cond.methodLink RX7 172 yX7_columnOf ∈ lw_ok := ok_t4 (i := 144) ⟨rfl, rfl⟩
theorem kw866 : Cond.instanceMethod yX7_columnOf ∈ lw_ok := ok_t4 (i := 146) ⟨rfl, rfl⟩
theorem kp39 : Cond.selects RX7 yX7_columnOf yX7_columnOf ∈ lw_ok := ok_pq (i := 39) ⟨rfl, rfl⟩
theorem vX7_172 : CV RX7 172 yX7_columnOf cX7_columnOf 5 2 (some .int) := ⟨⟨kw864, kw866, kp39, kw10, kw867⟩, md_X7_columnOf, by decide⟩
theorem md_X7_readValue : yX7_readValue.cls ≠ "java/lang/invoke/MethodHandle" ∧ yX7_readValue.cls ≠ "java/lang/invoke/VarHandle" ∧ (parseMethodDescriptor yX7_readValue.desc).map (fun d => d.parameters.length) = some 2 := ⟨mhX7.1, mhX7.2, by decide +kernel⟩
theorem kw875 : Cond.code yX7_readValue cX7_readValue 3 none ∈ lw_ok := ok_t4 (i := 155) ⟨rfl, rfl⟩
theorem kw872 : Cond.methodLink RX7 178 yX7_readValue ∈ lw_ok := ok_t4 (i := 152) ⟨rfl, rfl⟩
theorem kw874 : Cond.instanceMethod yX7_readValue ∈ lw_ok := ok_t4 (i := 154) ⟨rfl, rfl⟩
theorem kp41 : Cond.selects RX7 yX7_readValue yX7_readValue ∈ lw_ok := ok_pq (i := 41) ⟨rfl, rfl⟩
theorem vX7_178 : CV RX7 178 yX7_readValue cX7_readValue 3 2 none := ⟨⟨kw872, kw874, kp41, kw10, kw875⟩, md_X7_readValue, by decide⟩
theorem md_X7_tableAt : yX7_tableAt.cls ≠ "java/lang/invoke/MethodHandle" ∧ yX7_tableAt.cls ≠ "java/lang/invoke/VarHandle" ∧ (parseMethodDescriptor yX7_tableAt.desc).map (fun d => d.parameters.length) = some 1 := ⟨mhX7.1, mhX7.2, by decide +kernel⟩
theorem kw895 : Cond.code yX7_tableAt cX7_tableAt 2 (some .int) ∈ lw_ok := ok_t4 (i := 175) ⟨rfl, rfl⟩
theorem kw892 : Cond.methodLink RX7 194 yX7_tableAt ∈ lw_ok := ok_t4 (i := 172) ⟨rfl, rfl⟩
theorem kw894 : Cond.instanceMethod yX7_tableAt ∈ lw_ok := ok_t4 (i := 174) ⟨rfl, rfl⟩
theorem kp44 : Cond.selects RX7 yX7_tableAt yX7_tableAt ∈ lw_ok := ok_pq (i := 44) ⟨rfl, rfl⟩
theorem vX7_194 : CV RX7 194 yX7_tableAt cX7_tableAt 2 1 (some .int) := ⟨⟨kw892, kw894, kp44, kw10, kw895⟩, md_X7_tableAt, by decide⟩
theorem md_X7_numberAt : yX7_numberAt.cls ≠ "java/lang/invoke/MethodHandle" ∧ yX7_numberAt.cls ≠ "java/lang/invoke/VarHandle" ∧ (parseMethodDescriptor yX7_numberAt.desc).map (fun d => d.parameters.length) = some 1 := ⟨mhX7.1, mhX7.2, by decide +kernel⟩
theorem kw899 : Cond.code yX7_numberAt cX7_numberAt 2 (some .int) ∈ lw_ok := ok_t4 (i := 179) ⟨rfl, rfl⟩
theorem kw896 : Cond.methodLink RX7 197 yX7_numberAt ∈ lw_ok := ok_t4 (i := 176) ⟨rfl, rfl⟩
theorem kw898 : Cond.instanceMethod yX7_numberAt ∈ lw_ok := ok_t4 (i := 178) ⟨rfl, rfl⟩
theorem kp45 : Cond.selects RX7 yX7_numberAt yX7_numberAt ∈ lw_ok := ok_pq (i := 45) ⟨rfl, rfl⟩
theorem vX7_197 : CV RX7 197 yX7_numberAt cX7_numberAt 2 1 (some .int) := ⟨⟨kw896, kw898, kp45, kw10, kw899⟩, md_X7_numberAt, by decide⟩
theorem md_X7_isRow : yX7_isRow.cls ≠ "java/lang/invoke/MethodHandle" ∧ yX7_isRow.cls ≠ "java/lang/invoke/VarHandle" ∧ (parseMethodDescriptor yX7_isRow.desc).map (fun d => d.parameters.length) = some 1 := ⟨mhX7.1, mhX7.2, by decide +kernel⟩
theorem kw891 : Cond.code yX7_isRow cX7_isRow 2 (some .boolean) ∈ lw_ok := ok_t4 (i := 171) ⟨rfl, rfl⟩
theorem kw888 : Cond.methodLink RX7 200 yX7_isRow ∈ lw_ok := ok_t4 (i := 168) ⟨rfl, rfl⟩
theorem kw890 : Cond.instanceMethod yX7_isRow ∈ lw_ok := ok_t4 (i := 170) ⟨rfl, rfl⟩
theorem kp43 : Cond.selects RX7 yX7_isRow yX7_isRow ∈ lw_ok := ok_pq (i := 43) ⟨rfl, rfl⟩
theorem vX7_200 : CV RX7 200 yX7_isRow cX7_isRow 2 1 (some .boolean) := ⟨⟨kw888, kw890, kp43, kw10, kw891⟩, md_X7_isRow, by decide⟩
theorem md_X7_hasColumn : yX7_hasColumn.cls ≠ "java/lang/invoke/MethodHandle" ∧ yX7_hasColumn.cls ≠ "java/lang/invoke/VarHandle" ∧ (parseMethodDescriptor yX7_hasColumn.desc).map (fun d => d.parameters.length) = some 2 := ⟨mhX7.1, mhX7.2, by decide +kernel⟩
theorem kw907 : Cond.code yX7_hasColumn cX7_hasColumn 3 (some .boolean) ∈ lw_ok := ok_t4 (i := 187) ⟨rfl, rfl⟩
theorem kw904 : Cond.methodLink RX7 203 yX7_hasColumn ∈ lw_ok := ok_t4 (i := 184) ⟨rfl, rfl⟩
theorem kw906 : Cond.instanceMethod yX7_hasColumn ∈ lw_ok := ok_t4 (i := 186) ⟨rfl, rfl⟩
theorem kp46 : Cond.selects RX7 yX7_hasColumn yX7_hasColumn ∈ lw_ok := ok_pq (i := 46) ⟨rfl, rfl⟩
theorem vX7_203 : CV RX7 203 yX7_hasColumn cX7_hasColumn 3 2 (some .boolean) := ⟨⟨kw904, kw906, kp46, kw10, kw907⟩, md_X7_hasColumn, by decide⟩
theorem md_X7_valueAt : yX7_valueAt.cls ≠ "java/lang/invoke/MethodHandle" ∧ yX7_valueAt.cls ≠ "java/lang/invoke/VarHandle" ∧ (parseMethodDescriptor yX7_valueAt.desc).map (fun d => d.parameters.length) = some 2 := ⟨mhX7.1, mhX7.2, by decide +kernel⟩
theorem kw911 : Cond.code yX7_valueAt cX7_valueAt 6 (some .int) ∈ lw_ok := ok_t4 (i := 191) ⟨rfl, rfl⟩
theorem kw908 : Cond.methodLink RX7 207 yX7_valueAt ∈ lw_ok := ok_t4 (i := 188) ⟨rfl, rfl⟩
theorem kw910 : Cond.instanceMethod yX7_valueAt ∈ lw_ok := ok_t4 (i := 190) ⟨rfl, rfl⟩
theorem kp47 : Cond.selects RX7 yX7_valueAt yX7_valueAt ∈ lw_ok := ok_pq (i := 47) ⟨rfl, rfl⟩
theorem vX7_207 : CV RX7 207 yX7_valueAt cX7_valueAt 6 2 (some .int) := ⟨⟨kw908, kw910, kp47, kw10, kw911⟩, md_X7_valueAt, by decide⟩
theorem md_X7_readWish : yX7_readWish.cls ≠ "java/lang/invoke/MethodHandle" ∧ yX7_readWish.cls ≠ "java/lang/invoke/VarHandle" ∧ (parseMethodDescriptor yX7_readWish.desc).map (fun d => d.parameters.length) = some 0 := ⟨mhX7.1, mhX7.2, by decide +kernel⟩
theorem kw919 : Cond.code yX7_readWish cX7_readWish 3 none ∈ lw_ok := ok_t4 (i := 199) ⟨rfl, rfl⟩
theorem kw916 : Cond.methodLink RX7 223 yX7_readWish ∈ lw_ok := ok_t4 (i := 196) ⟨rfl, rfl⟩
theorem kw918 : Cond.instanceMethod yX7_readWish ∈ lw_ok := ok_t4 (i := 198) ⟨rfl, rfl⟩
theorem kp48 : Cond.selects RX7 yX7_readWish yX7_readWish ∈ lw_ok := ok_pq (i := 48) ⟨rfl, rfl⟩
theorem vX7_223 : CV RX7 223 yX7_readWish cX7_readWish 3 0 none := ⟨⟨kw916, kw918, kp48, kw10, kw919⟩, md_X7_readWish, by decide⟩
theorem md_X7_aTable : yX7_aTable.cls ≠ "java/lang/invoke/MethodHandle" ∧ yX7_aTable.cls ≠ "java/lang/invoke/VarHandle" ∧ (parseMethodDescriptor yX7_aTable.desc).map (fun d => d.parameters.length) = some 0 := ⟨mhX7.1, mhX7.2, by decide +kernel⟩
theorem kw923 : Cond.code yX7_aTable cX7_aTable 2 (some .int) ∈ lw_ok := ok_t4 (i := 203) ⟨rfl, rfl⟩
theorem kw920 : Cond.methodLink RX7 232 yX7_aTable ∈ lw_ok := ok_t4 (i := 200) ⟨rfl, rfl⟩
theorem kw922 : Cond.instanceMethod yX7_aTable ∈ lw_ok := ok_t4 (i := 202) ⟨rfl, rfl⟩
theorem kp49 : Cond.selects RX7 yX7_aTable yX7_aTable ∈ lw_ok := ok_pq (i := 49) ⟨rfl, rfl⟩
theorem vX7_232 : CV RX7 232 yX7_aTable cX7_aTable 2 0 (some .int) := ⟨⟨kw920, kw922, kp49, kw10, kw923⟩, md_X7_aTable, by decide⟩
theorem md_X7_howMany : yX7_howMany.cls ≠ "java/lang/invoke/MethodHandle" ∧ yX7_howMany.cls ≠ "java/lang/invoke/VarHandle" ∧ (parseMethodDescriptor yX7_howMany.desc).map (fun d => d.parameters.length) = some 0 := ⟨mhX7.1, mhX7.2, by decide +kernel⟩
theorem kw927 : Cond.code yX7_howMany cX7_howMany 2 (some .int) ∈ lw_ok := ok_t4 (i := 207) ⟨rfl, rfl⟩
theorem kw924 : Cond.methodLink RX7 239 yX7_howMany ∈ lw_ok := ok_t4 (i := 204) ⟨rfl, rfl⟩
theorem kw926 : Cond.instanceMethod yX7_howMany ∈ lw_ok := ok_t4 (i := 206) ⟨rfl, rfl⟩
theorem kp50 : Cond.selects RX7 yX7_howMany yX7_howMany ∈ lw_ok := ok_pq (i := 50) ⟨rfl, rfl⟩
theorem vX7_239 : CV RX7 239 yX7_howMany cX7_howMany 2 0 (some .int) := ⟨⟨kw924, kw926, kp50, kw10, kw927⟩, md_X7_howMany, by decide⟩
theorem md_X7_readBy : yX7_readBy.cls ≠ "java/lang/invoke/MethodHandle" ∧ yX7_readBy.cls ≠ "java/lang/invoke/VarHandle" ∧ (parseMethodDescriptor yX7_readBy.desc).map (fun d => d.parameters.length) = some 1 := ⟨mhX7.1, mhX7.2, by decide +kernel⟩
theorem kw931 : Cond.code yX7_readBy cX7_readBy 3 none ∈ lw_ok := ok_t4 (i := 211) ⟨rfl, rfl⟩
theorem kw928 : Cond.methodLink RX7 242 yX7_readBy ∈ lw_ok := ok_t4 (i := 208) ⟨rfl, rfl⟩
theorem kw930 : Cond.instanceMethod yX7_readBy ∈ lw_ok := ok_t4 (i := 210) ⟨rfl, rfl⟩
theorem kp51 : Cond.selects RX7 yX7_readBy yX7_readBy ∈ lw_ok := ok_pq (i := 51) ⟨rfl, rfl⟩
theorem vX7_242 : CV RX7 242 yX7_readBy cX7_readBy 3 1 none := ⟨⟨kw928, kw930, kp51, kw10, kw931⟩, md_X7_readBy, by decide⟩
theorem md_X7_e : yX7_e.cls ≠ "java/lang/invoke/MethodHandle" ∧ yX7_e.cls ≠ "java/lang/invoke/VarHandle" ∧ (parseMethodDescriptor yX7_e.desc).map (fun d => d.parameters.length) = some 1 := ⟨mhX7.1, mhX7.2, by decide +kernel⟩
theorem kw935 : Cond.code yX7_e cX7_e 3 none ∈ lw_ok := ok_t4 (i := 215) ⟨rfl, rfl⟩
theorem kw932 : Cond.methodLink RX7 248 yX7_e ∈ lw_ok := ok_t4 (i := 212) ⟨rfl, rfl⟩
theorem kw934 : Cond.instanceMethod yX7_e ∈ lw_ok := ok_t4 (i := 214) ⟨rfl, rfl⟩
theorem kp52 : Cond.selects RX7 yX7_e yX7_e ∈ lw_ok := ok_pq (i := 52) ⟨rfl, rfl⟩
theorem vX7_248 : CV RX7 248 yX7_e cX7_e 3 1 none := ⟨⟨kw932, kw934, kp52, kw10, kw935⟩, md_X7_e, by decide⟩
theorem md_X7_pile : yX7_pile.cls ≠ "java/lang/invoke/MethodHandle" ∧ yX7_pile.cls ≠ "java/lang/invoke/VarHandle" ∧ (parseMethodDescriptor yX7_pile.desc).map (fun d => d.parameters.length) = some 1 := ⟨mhX7.1, mhX7.2, by decide +kernel⟩
theorem kw939 : Cond.code yX7_pile cX7_pile 2 none ∈ lw_ok := ok_t4 (i := 219) ⟨rfl, rfl⟩
theorem kw936 : Cond.methodLink RX7 272 yX7_pile ∈ lw_ok := ok_t4 (i := 216) ⟨rfl, rfl⟩
theorem kw938 : Cond.instanceMethod yX7_pile ∈ lw_ok := ok_t4 (i := 218) ⟨rfl, rfl⟩
theorem kp53 : Cond.selects RX7 yX7_pile yX7_pile ∈ lw_ok := ok_pq (i := 53) ⟨rfl, rfl⟩
theorem vX7_272 : CV RX7 272 yX7_pile cX7_pile 2 1 none := ⟨⟨kw936, kw938, kp53, kw10, kw939⟩, md_X7_pile, by decide⟩
theorem md_X7_one : yX7_one.cls ≠ "java/lang/invoke/MethodHandle" ∧ yX7_one.cls ≠ "java/lang/invoke/VarHandle" ∧ (parseMethodDescriptor yX7_one.desc).map (fun d => d.parameters.length) = some 1 := ⟨mhX7.1, mhX7.2, by decide +kernel⟩
theorem kw943 : Cond.code yX7_one cX7_one 3 (some .boolean) ∈ lw_ok := ok_t4 (i := 223) ⟨rfl, rfl⟩
theorem kw940 : Cond.methodLink RX7 275 yX7_one ∈ lw_ok := ok_t4 (i := 220) ⟨rfl, rfl⟩
theorem kw942 : Cond.instanceMethod yX7_one ∈ lw_ok := ok_t4 (i := 222) ⟨rfl, rfl⟩
theorem kp54 : Cond.selects RX7 yX7_one yX7_one ∈ lw_ok := ok_pq (i := 54) ⟨rfl, rfl⟩
theorem vX7_275 : CV RX7 275 yX7_one cX7_one 3 1 (some .boolean) := ⟨⟨kw940, kw942, kp54, kw10, kw943⟩, md_X7_one, by decide⟩
theorem md_X7_behind : yX7_behind.cls ≠ "java/lang/invoke/MethodHandle" ∧ yX7_behind.cls ≠ "java/lang/invoke/VarHandle" ∧ (parseMethodDescriptor yX7_behind.desc).map (fun d => d.parameters.length) = some 0 := ⟨mhX7.1, mhX7.2, by decide +kernel⟩
theorem kw955 : Cond.code yX7_behind cX7_behind 2 (some .boolean) ∈ lw_ok := ok_t4 (i := 235) ⟨rfl, rfl⟩
theorem kw952 : Cond.methodLink RX7 278 yX7_behind ∈ lw_ok := ok_t4 (i := 232) ⟨rfl, rfl⟩
theorem kw954 : Cond.instanceMethod yX7_behind ∈ lw_ok := ok_t4 (i := 234) ⟨rfl, rfl⟩
theorem kp57 : Cond.selects RX7 yX7_behind yX7_behind ∈ lw_ok := ok_pq (i := 57) ⟨rfl, rfl⟩
theorem vX7_278 : CV RX7 278 yX7_behind cX7_behind 2 0 (some .boolean) := ⟨⟨kw952, kw954, kp57, kw10, kw955⟩, md_X7_behind, by decide⟩
theorem md_X7_readPath : yX7_readPath.cls ≠ "java/lang/invoke/MethodHandle" ∧ yX7_readPath.cls ≠ "java/lang/invoke/VarHandle" ∧ (parseMethodDescriptor yX7_readPath.desc).map (fun d => d.parameters.length) = some 1 := ⟨mhX7.1, mhX7.2, by decide +kernel⟩
theorem kw947 : Cond.code yX7_readPath cX7_readPath 8 none ∈ lw_ok := ok_t4 (i := 227) ⟨rfl, rfl⟩
theorem kw944 : Cond.methodLink RX7 281 yX7_readPath ∈ lw_ok := ok_t4 (i := 224) ⟨rfl, rfl⟩
theorem kw946 : Cond.instanceMethod yX7_readPath ∈ lw_ok := ok_t4 (i := 226) ⟨rfl, rfl⟩
theorem kp55 : Cond.selects RX7 yX7_readPath yX7_readPath ∈ lw_ok := ok_pq (i := 55) ⟨rfl, rfl⟩
theorem vX7_281 : CV RX7 281 yX7_readPath cX7_readPath 8 1 none := ⟨⟨kw944, kw946, kp55, kw10, kw947⟩, md_X7_readPath, by decide⟩
theorem md_X7_step : yX7_step.cls ≠ "java/lang/invoke/MethodHandle" ∧ yX7_step.cls ≠ "java/lang/invoke/VarHandle" ∧ (parseMethodDescriptor yX7_step.desc).map (fun d => d.parameters.length) = some 2 := ⟨mhX7.1, mhX7.2, by decide +kernel⟩
theorem kw951 : Cond.code yX7_step cX7_step 3 none ∈ lw_ok := ok_t4 (i := 231) ⟨rfl, rfl⟩
theorem kw948 : Cond.methodLink RX7 284 yX7_step ∈ lw_ok := ok_t4 (i := 228) ⟨rfl, rfl⟩
theorem kw950 : Cond.instanceMethod yX7_step ∈ lw_ok := ok_t4 (i := 230) ⟨rfl, rfl⟩
theorem kp56 : Cond.selects RX7 yX7_step yX7_step ∈ lw_ok := ok_pq (i := 56) ⟨rfl, rfl⟩
theorem vX7_284 : CV RX7 284 yX7_step cX7_step 3 2 none := ⟨⟨kw948, kw950, kp56, kw10, kw951⟩, md_X7_step, by decide⟩
theorem md_X7_along : yX7_along.cls ≠ "java/lang/invoke/MethodHandle" ∧ yX7_along.cls ≠ "java/lang/invoke/VarHandle" ∧ (parseMethodDescriptor yX7_along.desc).map (fun d => d.parameters.length) = some 2 := ⟨mhX7.1, mhX7.2, by decide +kernel⟩
theorem kw967 : Cond.code yX7_along cX7_along 5 (some .int) ∈ lw_ok := ok_t5 (i := 7) ⟨rfl, rfl⟩
theorem kw964 : Cond.methodLink RX7 296 yX7_along ∈ lw_ok := ok_t5 (i := 4) ⟨rfl, rfl⟩
theorem kw966 : Cond.instanceMethod yX7_along ∈ lw_ok := ok_t5 (i := 6) ⟨rfl, rfl⟩
theorem kp59 : Cond.selects RX7 yX7_along yX7_along ∈ lw_ok := ok_pq (i := 59) ⟨rfl, rfl⟩
theorem vX7_296 : CV RX7 296 yX7_along cX7_along 5 2 (some .int) := ⟨⟨kw964, kw966, kp59, kw10, kw967⟩, md_X7_along, by decide⟩
theorem md_X7_related : yX7_related.cls ≠ "java/lang/invoke/MethodHandle" ∧ yX7_related.cls ≠ "java/lang/invoke/VarHandle" ∧ (parseMethodDescriptor yX7_related.desc).map (fun d => d.parameters.length) = some 3 := ⟨mhX7.1, mhX7.2, by decide +kernel⟩
theorem kw970 : Cond.code yX7_related cX7_related 3 (some .boolean) ∈ lw_ok := ok_t5 (i := 10) ⟨rfl, rfl⟩
theorem kw968 : Cond.methodLink RX7 303 yX7_related ∈ lw_ok := ok_t5 (i := 8) ⟨rfl, rfl⟩
theorem kw969 : Cond.static yX7_related ∈ lw_ok := ok_t5 (i := 9) ⟨rfl, rfl⟩
theorem sX7_303 : CS RX7 303 yX7_related cX7_related 3 3 (some .boolean) := ⟨⟨kw968, kw969, kw10, kw970⟩, md_X7_related, by decide⟩
theorem md_X7_holdsFor : yX7_holdsFor.cls ≠ "java/lang/invoke/MethodHandle" ∧ yX7_holdsFor.cls ≠ "java/lang/invoke/VarHandle" ∧ (parseMethodDescriptor yX7_holdsFor.desc).map (fun d => d.parameters.length) = some 2 := ⟨mhX7.1, mhX7.2, by decide +kernel⟩
theorem kw963 : Cond.code yX7_holdsFor cX7_holdsFor 7 (some .boolean) ∈ lw_ok := ok_t5 (i := 3) ⟨rfl, rfl⟩
theorem kw960 : Cond.methodLink RX7 307 yX7_holdsFor ∈ lw_ok := ok_t5 (i := 0) ⟨rfl, rfl⟩
theorem kw962 : Cond.instanceMethod yX7_holdsFor ∈ lw_ok := ok_t5 (i := 2) ⟨rfl, rfl⟩
theorem kp58 : Cond.selects RX7 yX7_holdsFor yX7_holdsFor ∈ lw_ok := ok_pq (i := 58) ⟨rfl, rfl⟩
theorem vX7_307 : CV RX7 307 yX7_holdsFor cX7_holdsFor 7 2 (some .boolean) := ⟨⟨kw960, kw962, kp58, kw10, kw963⟩, md_X7_holdsFor, by decide⟩
theorem md_X7_isLink : yX7_isLink.cls ≠ "java/lang/invoke/MethodHandle" ∧ yX7_isLink.cls ≠ "java/lang/invoke/VarHandle" ∧ (parseMethodDescriptor yX7_isLink.desc).map (fun d => d.parameters.length) = some 2 := ⟨mhX7.1, mhX7.2, by decide +kernel⟩
theorem kw982 : Cond.code yX7_isLink cX7_isLink 3 (some .boolean) ∈ lw_ok := ok_t5 (i := 22) ⟨rfl, rfl⟩
theorem kw979 : Cond.methodLink RX7 313 yX7_isLink ∈ lw_ok := ok_t5 (i := 19) ⟨rfl, rfl⟩
theorem kw981 : Cond.instanceMethod yX7_isLink ∈ lw_ok := ok_t5 (i := 21) ⟨rfl, rfl⟩
theorem kp61 : Cond.selects RX7 yX7_isLink yX7_isLink ∈ lw_ok := ok_pq (i := 61) ⟨rfl, rfl⟩
theorem vX7_313 : CV RX7 313 yX7_isLink cX7_isLink 3 2 (some .boolean) := ⟨⟨kw979, kw981, kp61, kw10, kw982⟩, md_X7_isLink, by decide⟩
theorem md_X7_bitsOf : yX7_bitsOf.cls ≠ "java/lang/invoke/MethodHandle" ∧ yX7_bitsOf.cls ≠ "java/lang/invoke/VarHandle" ∧ (parseMethodDescriptor yX7_bitsOf.desc).map (fun d => d.parameters.length) = some 1 := ⟨mhX7.1, mhX7.2, by decide +kernel⟩
theorem kw993 : Cond.code yX7_bitsOf cX7_bitsOf 3 (some .int) ∈ lw_ok := ok_t5 (i := 33) ⟨rfl, rfl⟩
theorem kw991 : Cond.methodLink RX7 322 yX7_bitsOf ∈ lw_ok := ok_t5 (i := 31) ⟨rfl, rfl⟩
theorem kw992 : Cond.static yX7_bitsOf ∈ lw_ok := ok_t5 (i := 32) ⟨rfl, rfl⟩
theorem sX7_322 : CS RX7 322 yX7_bitsOf cX7_bitsOf 3 1 (some .int) := ⟨⟨kw991, kw992, kw10, kw993⟩, md_X7_bitsOf, by decide⟩
theorem md_X7_lookAt : yX7_lookAt.cls ≠ "java/lang/invoke/MethodHandle" ∧ yX7_lookAt.cls ≠ "java/lang/invoke/VarHandle" ∧ (parseMethodDescriptor yX7_lookAt.desc).map (fun d => d.parameters.length) = some 0 := ⟨mhX7.1, mhX7.2, by decide +kernel⟩
theorem kw978 : Cond.code yX7_lookAt cX7_lookAt 5 none ∈ lw_ok := ok_t5 (i := 18) ⟨rfl, rfl⟩
theorem kw975 : Cond.methodLink RX7 325 yX7_lookAt ∈ lw_ok := ok_t5 (i := 15) ⟨rfl, rfl⟩
theorem kw977 : Cond.instanceMethod yX7_lookAt ∈ lw_ok := ok_t5 (i := 17) ⟨rfl, rfl⟩
theorem kp60 : Cond.selects RX7 yX7_lookAt yX7_lookAt ∈ lw_ok := ok_pq (i := 60) ⟨rfl, rfl⟩
theorem vX7_325 : CV RX7 325 yX7_lookAt cX7_lookAt 5 0 none := ⟨⟨kw975, kw977, kp60, kw10, kw978⟩, md_X7_lookAt, by decide⟩
theorem md_X7_isPiece : yX7_isPiece.cls ≠ "java/lang/invoke/MethodHandle" ∧ yX7_isPiece.cls ≠ "java/lang/invoke/VarHandle" ∧ (parseMethodDescriptor yX7_isPiece.desc).map (fun d => d.parameters.length) = some 1 := ⟨mhX7.1, mhX7.2, by decide +kernel⟩
theorem kw997 : Cond.code yX7_isPiece cX7_isPiece 6 (some .boolean) ∈ lw_ok := ok_t5 (i := 37) ⟨rfl, rfl⟩
theorem kw994 : Cond.methodLink RX7 331 yX7_isPiece ∈ lw_ok := ok_t5 (i := 34) ⟨rfl, rfl⟩
theorem kw996 : Cond.instanceMethod yX7_isPiece ∈ lw_ok := ok_t5 (i := 36) ⟨rfl, rfl⟩
theorem kp63 : Cond.selects RX7 yX7_isPiece yX7_isPiece ∈ lw_ok := ok_pq (i := 63) ⟨rfl, rfl⟩
theorem vX7_331 : CV RX7 331 yX7_isPiece cX7_isPiece 6 1 (some .boolean) := ⟨⟨kw994, kw996, kp63, kw10, kw997⟩, md_X7_isPiece, by decide⟩
theorem md_X7_isAhead : yX7_isAhead.cls ≠ "java/lang/invoke/MethodHandle" ∧ yX7_isAhead.cls ≠ "java/lang/invoke/VarHandle" ∧ (parseMethodDescriptor yX7_isAhead.desc).map (fun d => d.parameters.length) = some 2 := ⟨mhX7.1, mhX7.2, by decide +kernel⟩
theorem kw1000 : Cond.code yX7_isAhead cX7_isAhead 3 (some .boolean) ∈ lw_ok := ok_t5 (i := 40) ⟨rfl, rfl⟩
theorem kw998 : Cond.methodLink RX7 334 yX7_isAhead ∈ lw_ok := ok_t5 (i := 38) ⟨rfl, rfl⟩
theorem kw999 : Cond.static yX7_isAhead ∈ lw_ok := ok_t5 (i := 39) ⟨rfl, rfl⟩
theorem sX7_334 : CS RX7 334 yX7_isAhead cX7_isAhead 3 2 (some .boolean) := ⟨⟨kw998, kw999, kw10, kw1000⟩, md_X7_isAhead, by decide⟩
theorem md_X7_know : yX7_know.cls ≠ "java/lang/invoke/MethodHandle" ∧ yX7_know.cls ≠ "java/lang/invoke/VarHandle" ∧ (parseMethodDescriptor yX7_know.desc).map (fun d => d.parameters.length) = some 0 := ⟨mhX7.1, mhX7.2, by decide +kernel⟩
theorem kw990 : Cond.code yX7_know cX7_know 2 none ∈ lw_ok := ok_t5 (i := 30) ⟨rfl, rfl⟩
theorem kw987 : Cond.methodLink RX7 337 yX7_know ∈ lw_ok := ok_t5 (i := 27) ⟨rfl, rfl⟩
theorem kw989 : Cond.instanceMethod yX7_know ∈ lw_ok := ok_t5 (i := 29) ⟨rfl, rfl⟩
theorem kp62 : Cond.selects RX7 yX7_know yX7_know ∈ lw_ok := ok_pq (i := 62) ⟨rfl, rfl⟩
theorem vX7_337 : CV RX7 337 yX7_know cX7_know 2 0 none := ⟨⟨kw987, kw989, kp62, kw10, kw990⟩, md_X7_know, by decide⟩
theorem kw1017 : Cond.methodLink RX7 340 yX7_least ∈ lw_ok := ok_t5 (i := 57) ⟨rfl, rfl⟩
theorem vX7_340 : CV RX7 340 yX7_least cX7_least 1 0 (some .int) := ⟨⟨kw1017, kw984, kw985, kw10, kw986⟩, md_X7_least, by decide⟩
theorem md_X7_place : yX7_place.cls ≠ "java/lang/invoke/MethodHandle" ∧ yX7_place.cls ≠ "java/lang/invoke/VarHandle" ∧ (parseMethodDescriptor yX7_place.desc).map (fun d => d.parameters.length) = some 0 := ⟨mhX7.1, mhX7.2, by decide +kernel⟩
theorem kw1025 : Cond.code yX7_place cX7_place 4 (some .int) ∈ lw_ok := ok_t5 (i := 65) ⟨rfl, rfl⟩
theorem kw1022 : Cond.methodLink RX7 346 yX7_place ∈ lw_ok := ok_t5 (i := 62) ⟨rfl, rfl⟩
theorem kw1024 : Cond.instanceMethod yX7_place ∈ lw_ok := ok_t5 (i := 64) ⟨rfl, rfl⟩
theorem kp64 : Cond.selects RX7 yX7_place yX7_place ∈ lw_ok := ok_pq (i := 64) ⟨rfl, rfl⟩
theorem vX7_346 : CV RX7 346 yX7_place cX7_place 4 0 (some .int) := ⟨⟨kw1022, kw1024, kp64, kw10, kw1025⟩, md_X7_place, by decide⟩
theorem md_X7_isPlain : yX7_isPlain.cls ≠ "java/lang/invoke/MethodHandle" ∧ yX7_isPlain.cls ≠ "java/lang/invoke/VarHandle" ∧ (parseMethodDescriptor yX7_isPlain.desc).map (fun d => d.parameters.length) = some 2 := ⟨mhX7.1, mhX7.2, by decide +kernel⟩
theorem kw1208 : Cond.code yX7_isPlain cX7_isPlain 3 (some .boolean) ∈ lw_ok := ok_t6 (i := 8) ⟨rfl, rfl⟩
theorem kw1205 : Cond.methodLink RX7 354 yX7_isPlain ∈ lw_ok := ok_t6 (i := 5) ⟨rfl, rfl⟩
theorem kw1207 : Cond.instanceMethod yX7_isPlain ∈ lw_ok := ok_t6 (i := 7) ⟨rfl, rfl⟩
theorem kp65 : Cond.selects RX7 yX7_isPlain yX7_isPlain ∈ lw_ok := ok_pq (i := 65) ⟨rfl, rfl⟩
theorem vX7_354 : CV RX7 354 yX7_isPlain cX7_isPlain 3 2 (some .boolean) := ⟨⟨kw1205, kw1207, kp65, kw10, kw1208⟩, md_X7_isPlain, by decide⟩
theorem kw1213 : Cond.methodLink RX7 357 yX7_value ∈ lw_ok := ok_t6 (i := 13) ⟨rfl, rfl⟩
theorem vX7_357 : CV RX7 357 yX7_value cX7_value 3 2 (some .int) := ⟨⟨kw1213, kw901, kw902, kw10, kw903⟩, md_X7_value, by decide⟩
theorem md_X7_total : yX7_total.cls ≠ "java/lang/invoke/MethodHandle" ∧ yX7_total.cls ≠ "java/lang/invoke/VarHandle" ∧ (parseMethodDescriptor yX7_total.desc).map (fun d => d.parameters.length) = some 3 := ⟨mhX7.1, mhX7.2, by decide +kernel⟩
theorem kw1222 : Cond.code yX7_total cX7_total 6 (some .int) ∈ lw_ok := ok_t6 (i := 22) ⟨rfl, rfl⟩
theorem kw1219 : Cond.methodLink RX7 362 yX7_total ∈ lw_ok := ok_t6 (i := 19) ⟨rfl, rfl⟩
theorem kw1221 : Cond.instanceMethod yX7_total ∈ lw_ok := ok_t6 (i := 21) ⟨rfl, rfl⟩
theorem kp66 : Cond.selects RX7 yX7_total yX7_total ∈ lw_ok := ok_pq (i := 66) ⟨rfl, rfl⟩
theorem vX7_362 : CV RX7 362 yX7_total cX7_total 6 3 (some .int) := ⟨⟨kw1219, kw1221, kp66, kw10, kw1222⟩, md_X7_total, by decide⟩
theorem md_X7_sign : yX7_sign.cls ≠ "java/lang/invoke/MethodHandle" ∧ yX7_sign.cls ≠ "java/lang/invoke/VarHandle" ∧ (parseMethodDescriptor yX7_sign.desc).map (fun d => d.parameters.length) = some 1 := ⟨mhX7.1, mhX7.2, by decide +kernel⟩
theorem kw803 : Cond.code yX7_sign cX7_sign 2 (some .int) ∈ lw_ok := ok_t4 (i := 83) ⟨rfl, rfl⟩
theorem kw800 : Cond.methodLink RX7 49 yX7_sign ∈ lw_ok := ok_t4 (i := 80) ⟨rfl, rfl⟩
theorem kw802 : Cond.instanceMethod yX7_sign ∈ lw_ok := ok_t4 (i := 82) ⟨rfl, rfl⟩
theorem kp28 : Cond.selects RX7 yX7_sign yX7_sign ∈ lw_ok := ok_pq (i := 28) ⟨rfl, rfl⟩
theorem vX7_49 : CV RX7 49 yX7_sign cX7_sign 2 1 (some .int) := ⟨⟨kw800, kw802, kp28, kw10, kw803⟩, md_X7_sign, by decide⟩
theorem md_X7_isLetter : yX7_isLetter.cls ≠ "java/lang/invoke/MethodHandle" ∧ yX7_isLetter.cls ≠ "java/lang/invoke/VarHandle" ∧ (parseMethodDescriptor yX7_isLetter.desc).map (fun d => d.parameters.length) = some 1 := ⟨mhX7.1, mhX7.2, by decide +kernel⟩
theorem kw806 : Cond.code yX7_isLetter cX7_isLetter 1 (some .boolean) ∈ lw_ok := ok_t4 (i := 86) ⟨rfl, rfl⟩
theorem kw804 : Cond.methodLink RX7 56 yX7_isLetter ∈ lw_ok := ok_t4 (i := 84) ⟨rfl, rfl⟩
theorem kw805 : Cond.static yX7_isLetter ∈ lw_ok := ok_t4 (i := 85) ⟨rfl, rfl⟩
theorem sX7_56 : CS RX7 56 yX7_isLetter cX7_isLetter 1 1 (some .boolean) := ⟨⟨kw804, kw805, kw10, kw806⟩, md_X7_isLetter, by decide⟩
theorem md_X7_isKept : yX7_isKept.cls ≠ "java/lang/invoke/MethodHandle" ∧ yX7_isKept.cls ≠ "java/lang/invoke/VarHandle" ∧ (parseMethodDescriptor yX7_isKept.desc).map (fun d => d.parameters.length) = some 1 := ⟨mhX7.1, mhX7.2, by decide +kernel⟩
theorem kw809 : Cond.code yX7_isKept cX7_isKept 2 (some .boolean) ∈ lw_ok := ok_t4 (i := 89) ⟨rfl, rfl⟩
theorem kw807 : Cond.methodLink RX7 64 yX7_isKept ∈ lw_ok := ok_t4 (i := 87) ⟨rfl, rfl⟩
theorem kw808 : Cond.static yX7_isKept ∈ lw_ok := ok_t4 (i := 88) ⟨rfl, rfl⟩
theorem sX7_64 : CS RX7 64 yX7_isKept cX7_isKept 2 1 (some .boolean) := ⟨⟨kw807, kw808, kw10, kw809⟩, md_X7_isKept, by decide⟩
theorem md_X7_isDigit : yX7_isDigit.cls ≠ "java/lang/invoke/MethodHandle" ∧ yX7_isDigit.cls ≠ "java/lang/invoke/VarHandle" ∧ (parseMethodDescriptor yX7_isDigit.desc).map (fun d => d.parameters.length) = some 1 := ⟨mhX7.1, mhX7.2, by decide +kernel⟩
theorem kw823 : Cond.code yX7_isDigit cX7_isDigit 1 (some .boolean) ∈ lw_ok := ok_t4 (i := 103) ⟨rfl, rfl⟩
theorem kw821 : Cond.methodLink RX7 68 yX7_isDigit ∈ lw_ok := ok_t4 (i := 101) ⟨rfl, rfl⟩
theorem kw822 : Cond.static yX7_isDigit ∈ lw_ok := ok_t4 (i := 102) ⟨rfl, rfl⟩
theorem sX7_68 : CS RX7 68 yX7_isDigit cX7_isDigit 1 1 (some .boolean) := ⟨⟨kw821, kw822, kw10, kw823⟩, md_X7_isDigit, by decide⟩
theorem md_X7_isSign : yX7_isSign.cls ≠ "java/lang/invoke/MethodHandle" ∧ yX7_isSign.cls ≠ "java/lang/invoke/VarHandle" ∧ (parseMethodDescriptor yX7_isSign.desc).map (fun d => d.parameters.length) = some 1 := ⟨mhX7.1, mhX7.2, by decide +kernel⟩
theorem kw827 : Cond.code yX7_isSign cX7_isSign 2 (some .boolean) ∈ lw_ok := ok_t4 (i := 107) ⟨rfl, rfl⟩
theorem kw824 : Cond.methodLink RX7 74 yX7_isSign ∈ lw_ok := ok_t4 (i := 104) ⟨rfl, rfl⟩
theorem kw826 : Cond.instanceMethod yX7_isSign ∈ lw_ok := ok_t4 (i := 106) ⟨rfl, rfl⟩
theorem kp29 : Cond.selects RX7 yX7_isSign yX7_isSign ∈ lw_ok := ok_pq (i := 29) ⟨rfl, rfl⟩
theorem vX7_74 : CV RX7 74 yX7_isSign cX7_isSign 2 1 (some .boolean) := ⟨⟨kw824, kw826, kp29, kw10, kw827⟩, md_X7_isSign, by decide⟩
theorem md_X7_fails : yX7_fails.cls ≠ "java/lang/invoke/MethodHandle" ∧ yX7_fails.cls ≠ "java/lang/invoke/VarHandle" ∧ (parseMethodDescriptor yX7_fails.desc).map (fun d => d.parameters.length) = some 2 := ⟨mhX7.1, mhX7.2, by decide +kernel⟩
theorem kw847 : Cond.code yX7_fails cX7_fails 3 none ∈ lw_ok := ok_t4 (i := 127) ⟨rfl, rfl⟩
theorem kw844 : Cond.methodLink RX7 77 yX7_fails ∈ lw_ok := ok_t4 (i := 124) ⟨rfl, rfl⟩
theorem kw846 : Cond.instanceMethod yX7_fails ∈ lw_ok := ok_t4 (i := 126) ⟨rfl, rfl⟩
theorem kp34 : Cond.selects RX7 yX7_fails yX7_fails ∈ lw_ok := ok_pq (i := 34) ⟨rfl, rfl⟩
theorem vX7_77 : CV RX7 77 yX7_fails cX7_fails 3 2 none := ⟨⟨kw844, kw846, kp34, kw10, kw847⟩, md_X7_fails, by decide⟩
theorem md_X7_isGood : yX7_isGood.cls ≠ "java/lang/invoke/MethodHandle" ∧ yX7_isGood.cls ≠ "java/lang/invoke/VarHandle" ∧ (parseMethodDescriptor yX7_isGood.desc).map (fun d => d.parameters.length) = some 0 := ⟨mhX7.1, mhX7.2, by decide +kernel⟩
theorem kw831 : Cond.code yX7_isGood cX7_isGood 1 (some .boolean) ∈ lw_ok := ok_t4 (i := 111) ⟨rfl, rfl⟩
theorem kw828 : Cond.methodLink RX7 81 yX7_isGood ∈ lw_ok := ok_t4 (i := 108) ⟨rfl, rfl⟩
theorem kw830 : Cond.instanceMethod yX7_isGood ∈ lw_ok := ok_t4 (i := 110) ⟨rfl, rfl⟩
theorem kp30 : Cond.selects RX7 yX7_isGood yX7_isGood ∈ lw_ok := ok_pq (i := 30) ⟨rfl, rfl⟩
theorem vX7_81 : CV RX7 81 yX7_isGood cX7_isGood 1 0 (some .boolean) := ⟨⟨kw828, kw830, kp30, kw10, kw831⟩, md_X7_isGood, by decide⟩
theorem md_X7_next : yX7_next.cls ≠ "java/lang/invoke/MethodHandle" ∧ yX7_next.cls ≠ "java/lang/invoke/VarHandle" ∧ (parseMethodDescriptor yX7_next.desc).map (fun d => d.parameters.length) = some 0 := ⟨mhX7.1, mhX7.2, by decide +kernel⟩
theorem kw799 : Cond.code yX7_next cX7_next 3 none ∈ lw_ok := ok_t4 (i := 79) ⟨rfl, rfl⟩
theorem kw796 : Cond.methodLink RX7 85 yX7_next ∈ lw_ok := ok_t4 (i := 76) ⟨rfl, rfl⟩
theorem kw798 : Cond.instanceMethod yX7_next ∈ lw_ok := ok_t4 (i := 78) ⟨rfl, rfl⟩
theorem kp27 : Cond.selects RX7 yX7_next yX7_next ∈ lw_ok := ok_pq (i := 27) ⟨rfl, rfl⟩
theorem vX7_85 : CV RX7 85 yX7_next cX7_next 3 0 none := ⟨⟨kw796, kw798, kp27, kw10, kw799⟩, md_X7_next, by decide⟩
theorem md_X7_wrong : yX7_wrong.cls ≠ "java/lang/invoke/MethodHandle" ∧ yX7_wrong.cls ≠ "java/lang/invoke/VarHandle" ∧ (parseMethodDescriptor yX7_wrong.desc).map (fun d => d.parameters.length) = some 0 := ⟨mhX7.1, mhX7.2, by decide +kernel⟩
theorem kw843 : Cond.code yX7_wrong cX7_wrong 1 none ∈ lw_ok := ok_t4 (i := 123) ⟨rfl, rfl⟩
theorem kw840 : Cond.methodLink RX7 89 yX7_wrong ∈ lw_ok := ok_t4 (i := 120) ⟨rfl, rfl⟩
theorem kw842 : Cond.instanceMethod yX7_wrong ∈ lw_ok := ok_t4 (i := 122) ⟨rfl, rfl⟩
theorem kp33 : Cond.selects RX7 yX7_wrong yX7_wrong ∈ lw_ok := ok_pq (i := 33) ⟨rfl, rfl⟩
theorem vX7_89 : CV RX7 89 yX7_wrong cX7_wrong 1 0 none := ⟨⟨kw840, kw842, kp33, kw10, kw843⟩, md_X7_wrong, by decide⟩
theorem mhJ3 : RJ3 ≠ "java/lang/invoke/MethodHandle" ∧ RJ3 ≠ "java/lang/invoke/VarHandle" := by decide +kernel
theorem md_J3_checkIndex_8e157 : yJ3_checkIndex_8e157.cls ≠ "java/lang/invoke/MethodHandle" ∧ yJ3_checkIndex_8e157.cls ≠ "java/lang/invoke/VarHandle" ∧ (parseMethodDescriptor yJ3_checkIndex_8e157.desc).map (fun d => d.parameters.length) = some 3 := ⟨mhJ3.1, mhJ3.2, by decide +kernel⟩
theorem kw61 : Cond.code yJ3_checkIndex_8e157 cJ3_checkIndex_8e157 3 (some .int) ∈ lw_ok := ok_t1 (i := 61) ⟨rfl, rfl⟩
theorem kw5 : Cond.initialized RJ3 ∈ lw_ok := ok_t1 (i := 5) ⟨rfl, rfl⟩
theorem kw59 : Cond.methodLink RJ0 1059 yJ3_checkIndex_8e157 ∈ lw_ok := ok_t1 (i := 59) ⟨rfl, rfl⟩
theorem kw60 : Cond.static yJ3_checkIndex_8e157 ∈ lw_ok := ok_t1 (i := 60) ⟨rfl, rfl⟩
theorem sJ0_1059 : CS RJ0 1059 yJ3_checkIndex_8e157 cJ3_checkIndex_8e157 3 3 (some .int) := ⟨⟨kw59, kw60, kw5, kw61⟩, md_J3_checkIndex_8e157, by decide⟩
theorem md_J3_checkFromToIndex_8c36e : yJ3_checkFromToIndex_8c36e.cls ≠ "java/lang/invoke/MethodHandle" ∧ yJ3_checkFromToIndex_8c36e.cls ≠ "java/lang/invoke/VarHandle" ∧ (parseMethodDescriptor yJ3_checkFromToIndex_8c36e.desc).map (fun d => d.parameters.length) = some 4 := ⟨mhJ3.1, mhJ3.2, by decide +kernel⟩
theorem kw378 : Cond.code yJ3_checkFromToIndex_8c36e cJ3_checkFromToIndex_8c36e 4 (some .int) ∈ lw_ok := ok_t2 (i := 138) ⟨rfl, rfl⟩
theorem kw376 : Cond.methodLink RJ0 1062 yJ3_checkFromToIndex_8c36e ∈ lw_ok := ok_t2 (i := 136) ⟨rfl, rfl⟩
theorem kw377 : Cond.static yJ3_checkFromToIndex_8c36e ∈ lw_ok := ok_t2 (i := 137) ⟨rfl, rfl⟩
theorem sJ0_1062 : CS RJ0 1062 yJ3_checkFromToIndex_8c36e cJ3_checkFromToIndex_8c36e 4 4 (some .int) := ⟨⟨kw376, kw377, kw5, kw378⟩, md_J3_checkFromToIndex_8c36e, by decide⟩
theorem md_J0_coder_7d493 : yJ0_coder_7d493.cls ≠ "java/lang/invoke/MethodHandle" ∧ yJ0_coder_7d493.cls ≠ "java/lang/invoke/VarHandle" ∧ (parseMethodDescriptor yJ0_coder_7d493.desc).map (fun d => d.parameters.length) = some 0 := ⟨mhJ0.1, mhJ0.2, by decide +kernel⟩
theorem kw40 : Cond.code yJ0_coder_7d493 cJ0_coder_7d493 1 (some .byte) ∈ lw_ok := ok_t1 (i := 40) ⟨rfl, rfl⟩
theorem kw37 : Cond.methodLink RJ0 335 yJ0_coder_7d493 ∈ lw_ok := ok_t1 (i := 37) ⟨rfl, rfl⟩
theorem kw38 : Cond.instanceMethod yJ0_coder_7d493 ∈ lw_ok := ok_t1 (i := 38) ⟨rfl, rfl⟩
theorem kw39 : Cond.selects RJ0 yJ0_coder_7d493 yJ0_coder_7d493 ∈ lw_ok := ok_t1 (i := 39) ⟨rfl, rfl⟩
theorem vJ0_335 : CV RJ0 335 yJ0_coder_7d493 cJ0_coder_7d493 1 0 (some .byte) := ⟨⟨kw37, kw38, kw39, kw3, kw40⟩, md_J0_coder_7d493, by decide⟩
theorem md_J0_isLatin1_aae02 : yJ0_isLatin1_aae02.cls ≠ "java/lang/invoke/MethodHandle" ∧ yJ0_isLatin1_aae02.cls ≠ "java/lang/invoke/VarHandle" ∧ (parseMethodDescriptor yJ0_isLatin1_aae02.desc).map (fun d => d.parameters.length) = some 0 := ⟨mhJ0.1, mhJ0.2, by decide +kernel⟩
theorem kw50 : Cond.code yJ0_isLatin1_aae02 cJ0_isLatin1_aae02 1 (some .boolean) ∈ lw_ok := ok_t1 (i := 50) ⟨rfl, rfl⟩
theorem kw47 : Cond.methodLink RJ0 492 yJ0_isLatin1_aae02 ∈ lw_ok := ok_t1 (i := 47) ⟨rfl, rfl⟩
theorem kw48 : Cond.instanceMethod yJ0_isLatin1_aae02 ∈ lw_ok := ok_t1 (i := 48) ⟨rfl, rfl⟩
theorem kw49 : Cond.selects RJ0 yJ0_isLatin1_aae02 yJ0_isLatin1_aae02 ∈ lw_ok := ok_t1 (i := 49) ⟨rfl, rfl⟩
theorem vJ0_492 : CV RJ0 492 yJ0_isLatin1_aae02 cJ0_isLatin1_aae02 1 0 (some .boolean) := ⟨⟨kw47, kw48, kw49, kw3, kw50⟩, md_J0_isLatin1_aae02, by decide⟩
theorem mhJ1 : RJ1 ≠ "java/lang/invoke/MethodHandle" ∧ RJ1 ≠ "java/lang/invoke/VarHandle" := by decide +kernel
theorem md_J1_charAt_3b067 : yJ1_charAt_3b067.cls ≠ "java/lang/invoke/MethodHandle" ∧ yJ1_charAt_3b067.cls ≠ "java/lang/invoke/VarHandle" ∧ (parseMethodDescriptor yJ1_charAt_3b067.desc).map (fun d => d.parameters.length) = some 2 := ⟨mhJ1.1, mhJ1.2, by decide +kernel⟩
theorem kw53 : Cond.code yJ1_charAt_3b067 cJ1_charAt_3b067 2 (some .char) ∈ lw_ok := ok_t1 (i := 53) ⟨rfl, rfl⟩
theorem kw4 : Cond.initialized RJ1 ∈ lw_ok := ok_t1 (i := 4) ⟨rfl, rfl⟩
theorem kw51 : Cond.methodLink RJ0 495 yJ1_charAt_3b067 ∈ lw_ok := ok_t1 (i := 51) ⟨rfl, rfl⟩
theorem kw52 : Cond.static yJ1_charAt_3b067 ∈ lw_ok := ok_t1 (i := 52) ⟨rfl, rfl⟩
theorem sJ0_495 : CS RJ0 495 yJ1_charAt_3b067 cJ1_charAt_3b067 2 2 (some .char) := ⟨⟨kw51, kw52, kw4, kw53⟩, md_J1_charAt_3b067, by decide⟩
theorem mhJ2 : RJ2 ≠ "java/lang/invoke/MethodHandle" ∧ RJ2 ≠ "java/lang/invoke/VarHandle" := by decide +kernel
theorem md_J2_charAt_3b067 : yJ2_charAt_3b067.cls ≠ "java/lang/invoke/MethodHandle" ∧ yJ2_charAt_3b067.cls ≠ "java/lang/invoke/VarHandle" ∧ (parseMethodDescriptor yJ2_charAt_3b067.desc).map (fun d => d.parameters.length) = some 2 := ⟨mhJ2.1, mhJ2.2, by decide +kernel⟩
theorem kw64 : Cond.code yJ2_charAt_3b067 cJ2_charAt_3b067 2 (some .char) ∈ lw_ok := ok_t1 (i := 64) ⟨rfl, rfl⟩
theorem kw6 : Cond.initialized RJ2 ∈ lw_ok := ok_t1 (i := 6) ⟨rfl, rfl⟩
theorem kw62 : Cond.methodLink RJ0 498 yJ2_charAt_3b067 ∈ lw_ok := ok_t1 (i := 62) ⟨rfl, rfl⟩
theorem kw63 : Cond.static yJ2_charAt_3b067 ∈ lw_ok := ok_t1 (i := 63) ⟨rfl, rfl⟩
theorem sJ0_498 : CS RJ0 498 yJ2_charAt_3b067 cJ2_charAt_3b067 2 2 (some .char) := ⟨⟨kw62, kw63, kw6, kw64⟩, md_J2_charAt_3b067, by decide⟩
theorem kw345 : Cond.methodLink RJ0 505 yJ0_length_8abf5 ∈ lw_ok := ok_t2 (i := 105) ⟨rfl, rfl⟩
theorem vJ0_505 : CV RJ0 505 yJ0_length_8abf5 cJ0_length_8abf5 1 0 (some .int) := ⟨⟨kw345, kw34, kw35, kw3, kw36⟩, md_J0_length_8abf5, by decide⟩
theorem md_J0_indexOf_7cf53 : yJ0_indexOf_7cf53.cls ≠ "java/lang/invoke/MethodHandle" ∧ yJ0_indexOf_7cf53.cls ≠ "java/lang/invoke/VarHandle" ∧ (parseMethodDescriptor yJ0_indexOf_7cf53.desc).map (fun d => d.parameters.length) = some 2 := ⟨mhJ0.1, mhJ0.2, by decide +kernel⟩
theorem kw344 : Cond.code yJ0_indexOf_7cf53 cJ0_indexOf_7cf53 3 (some .int) ∈ lw_ok := ok_t2 (i := 104) ⟨rfl, rfl⟩
theorem kw341 : Cond.methodLink RJ0 633 yJ0_indexOf_7cf53 ∈ lw_ok := ok_t2 (i := 101) ⟨rfl, rfl⟩
theorem kw342 : Cond.instanceMethod yJ0_indexOf_7cf53 ∈ lw_ok := ok_t2 (i := 102) ⟨rfl, rfl⟩
theorem kw343 : Cond.selects RJ0 yJ0_indexOf_7cf53 yJ0_indexOf_7cf53 ∈ lw_ok := ok_t2 (i := 103) ⟨rfl, rfl⟩
theorem vJ0_633 : CV RJ0 633 yJ0_indexOf_7cf53 cJ0_indexOf_7cf53 3 2 (some .int) := ⟨⟨kw341, kw342, kw343, kw3, kw344⟩, md_J0_indexOf_7cf53, by decide⟩
theorem md_J1_indexOf_4cfef : yJ1_indexOf_4cfef.cls ≠ "java/lang/invoke/MethodHandle" ∧ yJ1_indexOf_4cfef.cls ≠ "java/lang/invoke/VarHandle" ∧ (parseMethodDescriptor yJ1_indexOf_4cfef.desc).map (fun d => d.parameters.length) = some 4 := ⟨mhJ1.1, mhJ1.2, by decide +kernel⟩
theorem kw348 : Cond.code yJ1_indexOf_4cfef cJ1_indexOf_4cfef 4 (some .int) ∈ lw_ok := ok_t2 (i := 108) ⟨rfl, rfl⟩
theorem kw346 : Cond.methodLink RJ0 637 yJ1_indexOf_4cfef ∈ lw_ok := ok_t2 (i := 106) ⟨rfl, rfl⟩
theorem kw347 : Cond.static yJ1_indexOf_4cfef ∈ lw_ok := ok_t2 (i := 107) ⟨rfl, rfl⟩
theorem sJ0_637 : CS RJ0 637 yJ1_indexOf_4cfef cJ1_indexOf_4cfef 4 4 (some .int) := ⟨⟨kw346, kw347, kw4, kw348⟩, md_J1_indexOf_4cfef, by decide⟩
theorem md_J2_indexOf_4cfef : yJ2_indexOf_4cfef.cls ≠ "java/lang/invoke/MethodHandle" ∧ yJ2_indexOf_4cfef.cls ≠ "java/lang/invoke/VarHandle" ∧ (parseMethodDescriptor yJ2_indexOf_4cfef.desc).map (fun d => d.parameters.length) = some 4 := ⟨mhJ2.1, mhJ2.2, by decide +kernel⟩
theorem kw363 : Cond.code yJ2_indexOf_4cfef cJ2_indexOf_4cfef 4 (some .int) ∈ lw_ok := ok_t2 (i := 123) ⟨rfl, rfl⟩
theorem kw361 : Cond.methodLink RJ0 640 yJ2_indexOf_4cfef ∈ lw_ok := ok_t2 (i := 121) ⟨rfl, rfl⟩
theorem kw362 : Cond.static yJ2_indexOf_4cfef ∈ lw_ok := ok_t2 (i := 122) ⟨rfl, rfl⟩
theorem sJ0_640 : CS RJ0 640 yJ2_indexOf_4cfef cJ2_indexOf_4cfef 4 4 (some .int) := ⟨⟨kw361, kw362, kw6, kw363⟩, md_J2_indexOf_4cfef, by decide⟩
theorem kw355 : Cond.methodLink RJ1 38 yJ9_min_7cf53 ∈ lw_ok := ok_t2 (i := 115) ⟨rfl, rfl⟩
theorem sJ1_38 : CS RJ1 38 yJ9_min_7cf53 cJ9_min_7cf53 2 2 (some .int) := ⟨⟨kw355, kw356, kw12, kw357⟩, md_J9_min_7cf53, by decide⟩
theorem md_J1_canEncode_9a6ad : yJ1_canEncode_9a6ad.cls ≠ "java/lang/invoke/MethodHandle" ∧ yJ1_canEncode_9a6ad.cls ≠ "java/lang/invoke/VarHandle" ∧ (parseMethodDescriptor yJ1_canEncode_9a6ad.desc).map (fun d => d.parameters.length) = some 1 := ⟨mhJ1.1, mhJ1.2, by decide +kernel⟩
theorem kw351 : Cond.code yJ1_canEncode_9a6ad cJ1_canEncode_9a6ad 1 (some .boolean) ∈ lw_ok := ok_t2 (i := 111) ⟨rfl, rfl⟩
theorem kw349 : Cond.methodLink RJ1 88 yJ1_canEncode_9a6ad ∈ lw_ok := ok_t2 (i := 109) ⟨rfl, rfl⟩
theorem kw350 : Cond.static yJ1_canEncode_9a6ad ∈ lw_ok := ok_t2 (i := 110) ⟨rfl, rfl⟩
theorem sJ1_88 : CS RJ1 88 yJ1_canEncode_9a6ad cJ1_canEncode_9a6ad 1 1 (some .boolean) := ⟨⟨kw349, kw350, kw4, kw351⟩, md_J1_canEncode_9a6ad, by decide⟩
theorem md_J0_checkIndex_df160 : yJ0_checkIndex_df160.cls ≠ "java/lang/invoke/MethodHandle" ∧ yJ0_checkIndex_df160.cls ≠ "java/lang/invoke/VarHandle" ∧ (parseMethodDescriptor yJ0_checkIndex_df160.desc).map (fun d => d.parameters.length) = some 2 := ⟨mhJ0.1, mhJ0.2, by decide +kernel⟩
theorem kw56 : Cond.code yJ0_checkIndex_df160 cJ0_checkIndex_df160 2 none ∈ lw_ok := ok_t1 (i := 56) ⟨rfl, rfl⟩
theorem kw54 : Cond.methodLink RJ1 9 yJ0_checkIndex_df160 ∈ lw_ok := ok_t1 (i := 54) ⟨rfl, rfl⟩
theorem kw55 : Cond.static yJ0_checkIndex_df160 ∈ lw_ok := ok_t1 (i := 55) ⟨rfl, rfl⟩
theorem sJ1_9 : CS RJ1 9 yJ0_checkIndex_df160 cJ0_checkIndex_df160 2 2 none := ⟨⟨kw54, kw55, kw3, kw56⟩, md_J0_checkIndex_df160, by decide⟩
theorem kw352 : Cond.methodLink RJ1 92 yJ9_max_7cf53 ∈ lw_ok := ok_t2 (i := 112) ⟨rfl, rfl⟩
theorem sJ1_92 : CS RJ1 92 yJ9_max_7cf53 cJ9_max_7cf53 2 2 (some .int) := ⟨⟨kw352, kw353, kw12, kw354⟩, md_J9_max_7cf53, by decide⟩
theorem md_J1_indexOfChar_4cfef : yJ1_indexOfChar_4cfef.cls ≠ "java/lang/invoke/MethodHandle" ∧ yJ1_indexOfChar_4cfef.cls ≠ "java/lang/invoke/VarHandle" ∧ (parseMethodDescriptor yJ1_indexOfChar_4cfef.desc).map (fun d => d.parameters.length) = some 4 := ⟨mhJ1.1, mhJ1.2, by decide +kernel⟩
theorem kw360 : Cond.code yJ1_indexOfChar_4cfef cJ1_indexOfChar_4cfef 6 (some .int) ∈ lw_ok := ok_t2 (i := 120) ⟨rfl, rfl⟩
theorem kw358 : Cond.methodLink RJ1 95 yJ1_indexOfChar_4cfef ∈ lw_ok := ok_t2 (i := 118) ⟨rfl, rfl⟩
theorem kw359 : Cond.static yJ1_indexOfChar_4cfef ∈ lw_ok := ok_t2 (i := 119) ⟨rfl, rfl⟩
theorem sJ1_95 : CS RJ1 95 yJ1_indexOfChar_4cfef cJ1_indexOfChar_4cfef 6 4 (some .int) := ⟨⟨kw358, kw359, kw4, kw360⟩, md_J1_indexOfChar_4cfef, by decide⟩
theorem mhJ11 : RJ11 ≠ "java/lang/invoke/MethodHandle" ∧ RJ11 ≠ "java/lang/invoke/VarHandle" := by decide +kernel
theorem md_J11_highSurrogate_5068e : yJ11_highSurrogate_5068e.cls ≠ "java/lang/invoke/MethodHandle" ∧ yJ11_highSurrogate_5068e.cls ≠ "java/lang/invoke/VarHandle" ∧ (parseMethodDescriptor yJ11_highSurrogate_5068e.desc).map (fun d => d.parameters.length) = some 1 := ⟨mhJ11.1, mhJ11.2, by decide +kernel⟩
theorem kw390 : Cond.code yJ11_highSurrogate_5068e cJ11_highSurrogate_5068e 1 (some .char) ∈ lw_ok := ok_t2 (i := 150) ⟨rfl, rfl⟩
theorem kw13 : Cond.initialized RJ11 ∈ lw_ok := ok_t1 (i := 13) ⟨rfl, rfl⟩
theorem kw388 : Cond.methodLink RJ2 157 yJ11_highSurrogate_5068e ∈ lw_ok := ok_t2 (i := 148) ⟨rfl, rfl⟩
theorem kw389 : Cond.static yJ11_highSurrogate_5068e ∈ lw_ok := ok_t2 (i := 149) ⟨rfl, rfl⟩
theorem sJ2_157 : CS RJ2 157 yJ11_highSurrogate_5068e cJ11_highSurrogate_5068e 1 1 (some .char) := ⟨⟨kw388, kw389, kw13, kw390⟩, md_J11_highSurrogate_5068e, by decide⟩
theorem md_J11_lowSurrogate_5068e : yJ11_lowSurrogate_5068e.cls ≠ "java/lang/invoke/MethodHandle" ∧ yJ11_lowSurrogate_5068e.cls ≠ "java/lang/invoke/VarHandle" ∧ (parseMethodDescriptor yJ11_lowSurrogate_5068e.desc).map (fun d => d.parameters.length) = some 1 := ⟨mhJ11.1, mhJ11.2, by decide +kernel⟩
theorem kw394 : Cond.code yJ11_lowSurrogate_5068e cJ11_lowSurrogate_5068e 1 (some .char) ∈ lw_ok := ok_t2 (i := 154) ⟨rfl, rfl⟩
theorem kw392 : Cond.methodLink RJ2 161 yJ11_lowSurrogate_5068e ∈ lw_ok := ok_t2 (i := 152) ⟨rfl, rfl⟩
theorem kw393 : Cond.static yJ11_lowSurrogate_5068e ∈ lw_ok := ok_t2 (i := 153) ⟨rfl, rfl⟩
theorem sJ2_161 : CS RJ2 161 yJ11_lowSurrogate_5068e cJ11_lowSurrogate_5068e 1 1 (some .char) := ⟨⟨kw392, kw393, kw13, kw394⟩, md_J11_lowSurrogate_5068e, by decide⟩
theorem md_J11_isValidCodePoint_9a6ad : yJ11_isValidCodePoint_9a6ad.cls ≠ "java/lang/invoke/MethodHandle" ∧ yJ11_isValidCodePoint_9a6ad.cls ≠ "java/lang/invoke/VarHandle" ∧ (parseMethodDescriptor yJ11_isValidCodePoint_9a6ad.desc).map (fun d => d.parameters.length) = some 1 := ⟨mhJ11.1, mhJ11.2, by decide +kernel⟩
theorem kw387 : Cond.code yJ11_isValidCodePoint_9a6ad cJ11_isValidCodePoint_9a6ad 2 (some .boolean) ∈ lw_ok := ok_t2 (i := 147) ⟨rfl, rfl⟩
theorem kw385 : Cond.methodLink RJ2 164 yJ11_isValidCodePoint_9a6ad ∈ lw_ok := ok_t2 (i := 145) ⟨rfl, rfl⟩
theorem kw386 : Cond.static yJ11_isValidCodePoint_9a6ad ∈ lw_ok := ok_t2 (i := 146) ⟨rfl, rfl⟩
theorem sJ2_164 : CS RJ2 164 yJ11_isValidCodePoint_9a6ad cJ11_isValidCodePoint_9a6ad 2 1 (some .boolean) := ⟨⟨kw385, kw386, kw13, kw387⟩, md_J11_isValidCodePoint_9a6ad, by decide⟩
theorem kw365 : Cond.methodLink RJ2 183 yJ9_min_7cf53 ∈ lw_ok := ok_t2 (i := 125) ⟨rfl, rfl⟩
theorem sJ2_183 : CS RJ2 183 yJ9_min_7cf53 cJ9_min_7cf53 2 2 (some .int) := ⟨⟨kw365, kw356, kw12, kw357⟩, md_J9_min_7cf53, by decide⟩
theorem kw364 : Cond.methodLink RJ2 224 yJ9_max_7cf53 ∈ lw_ok := ok_t2 (i := 124) ⟨rfl, rfl⟩
theorem sJ2_224 : CS RJ2 224 yJ9_max_7cf53 cJ9_max_7cf53 2 2 (some .int) := ⟨⟨kw364, kw353, kw12, kw354⟩, md_J9_max_7cf53, by decide⟩
theorem md_J2_indexOfChar_4cfef : yJ2_indexOfChar_4cfef.cls ≠ "java/lang/invoke/MethodHandle" ∧ yJ2_indexOfChar_4cfef.cls ≠ "java/lang/invoke/VarHandle" ∧ (parseMethodDescriptor yJ2_indexOfChar_4cfef.desc).map (fun d => d.parameters.length) = some 4 := ⟨mhJ2.1, mhJ2.2, by decide +kernel⟩
theorem kw369 : Cond.code yJ2_indexOfChar_4cfef cJ2_indexOfChar_4cfef 4 (some .int) ∈ lw_ok := ok_t2 (i := 129) ⟨rfl, rfl⟩
theorem kw367 : Cond.methodLink RJ2 228 yJ2_indexOfChar_4cfef ∈ lw_ok := ok_t2 (i := 127) ⟨rfl, rfl⟩
theorem kw368 : Cond.static yJ2_indexOfChar_4cfef ∈ lw_ok := ok_t2 (i := 128) ⟨rfl, rfl⟩
theorem sJ2_228 : CS RJ2 228 yJ2_indexOfChar_4cfef cJ2_indexOfChar_4cfef 4 4 (some .int) := ⟨⟨kw367, kw368, kw6, kw369⟩, md_J2_indexOfChar_4cfef, by decide⟩
theorem md_J2_indexOfSupplementary_4cfef : yJ2_indexOfSupplementary_4cfef.cls ≠ "java/lang/invoke/MethodHandle" ∧ yJ2_indexOfSupplementary_4cfef.cls ≠ "java/lang/invoke/VarHandle" ∧ (parseMethodDescriptor yJ2_indexOfSupplementary_4cfef.desc).map (fun d => d.parameters.length) = some 4 := ⟨mhJ2.1, mhJ2.2, by decide +kernel⟩
theorem kw384 : Cond.code yJ2_indexOfSupplementary_4cfef cJ2_indexOfSupplementary_4cfef 7 (some .int) ∈ lw_ok := ok_t2 (i := 144) ⟨rfl, rfl⟩
theorem kw382 : Cond.methodLink RJ2 232 yJ2_indexOfSupplementary_4cfef ∈ lw_ok := ok_t2 (i := 142) ⟨rfl, rfl⟩
theorem kw383 : Cond.static yJ2_indexOfSupplementary_4cfef ∈ lw_ok := ok_t2 (i := 143) ⟨rfl, rfl⟩
theorem sJ2_232 : CS RJ2 232 yJ2_indexOfSupplementary_4cfef cJ2_indexOfSupplementary_4cfef 7 4 (some .int) := ⟨⟨kw382, kw383, kw6, kw384⟩, md_J2_indexOfSupplementary_4cfef, by decide⟩
theorem md_J0_checkBoundsBeginEnd_23922 : yJ0_checkBoundsBeginEnd_23922.cls ≠ "java/lang/invoke/MethodHandle" ∧ yJ0_checkBoundsBeginEnd_23922.cls ≠ "java/lang/invoke/VarHandle" ∧ (parseMethodDescriptor yJ0_checkBoundsBeginEnd_23922.desc).map (fun d => d.parameters.length) = some 3 := ⟨mhJ0.1, mhJ0.2, by decide +kernel⟩
theorem kw375 : Cond.code yJ0_checkBoundsBeginEnd_23922 cJ0_checkBoundsBeginEnd_23922 3 none ∈ lw_ok := ok_t2 (i := 135) ⟨rfl, rfl⟩
theorem kw373 : Cond.methodLink RJ2 241 yJ0_checkBoundsBeginEnd_23922 ∈ lw_ok := ok_t2 (i := 133) ⟨rfl, rfl⟩
theorem kw374 : Cond.static yJ0_checkBoundsBeginEnd_23922 ∈ lw_ok := ok_t2 (i := 134) ⟨rfl, rfl⟩
theorem sJ2_241 : CS RJ2 241 yJ0_checkBoundsBeginEnd_23922 cJ0_checkBoundsBeginEnd_23922 3 3 none := ⟨⟨kw373, kw374, kw3, kw375⟩, md_J0_checkBoundsBeginEnd_23922, by decide⟩
theorem md_J2_indexOfCharUnsafe_4cfef : yJ2_indexOfCharUnsafe_4cfef.cls ≠ "java/lang/invoke/MethodHandle" ∧ yJ2_indexOfCharUnsafe_4cfef.cls ≠ "java/lang/invoke/VarHandle" ∧ (parseMethodDescriptor yJ2_indexOfCharUnsafe_4cfef.desc).map (fun d => d.parameters.length) = some 4 := ⟨mhJ2.1, mhJ2.2, by decide +kernel⟩
theorem kw381 : Cond.code yJ2_indexOfCharUnsafe_4cfef cJ2_indexOfCharUnsafe_4cfef 5 (some .int) ∈ lw_ok := ok_t2 (i := 141) ⟨rfl, rfl⟩
theorem kw379 : Cond.methodLink RJ2 244 yJ2_indexOfCharUnsafe_4cfef ∈ lw_ok := ok_t2 (i := 139) ⟨rfl, rfl⟩
theorem kw380 : Cond.static yJ2_indexOfCharUnsafe_4cfef ∈ lw_ok := ok_t2 (i := 140) ⟨rfl, rfl⟩
theorem sJ2_244 : CS RJ2 244 yJ2_indexOfCharUnsafe_4cfef cJ2_indexOfCharUnsafe_4cfef 5 4 (some .int) := ⟨⟨kw379, kw380, kw6, kw381⟩, md_J2_indexOfCharUnsafe_4cfef, by decide⟩
theorem kw71 : Cond.methodLink RJ2 414 yJ0_checkIndex_df160 ∈ lw_ok := ok_t1 (i := 71) ⟨rfl, rfl⟩
theorem sJ2_414 : CS RJ2 414 yJ0_checkIndex_df160 cJ0_checkIndex_df160 2 2 none := ⟨⟨kw71, kw55, kw3, kw56⟩, md_J0_checkIndex_df160, by decide⟩
theorem md_J2_length_9d52b : yJ2_length_9d52b.cls ≠ "java/lang/invoke/MethodHandle" ∧ yJ2_length_9d52b.cls ≠ "java/lang/invoke/VarHandle" ∧ (parseMethodDescriptor yJ2_length_9d52b.desc).map (fun d => d.parameters.length) = some 1 := ⟨mhJ2.1, mhJ2.2, by decide +kernel⟩
theorem kw70 : Cond.code yJ2_length_9d52b cJ2_length_9d52b 1 (some .int) ∈ lw_ok := ok_t1 (i := 70) ⟨rfl, rfl⟩
theorem kw68 : Cond.methodLink RJ2 48 yJ2_length_9d52b ∈ lw_ok := ok_t1 (i := 68) ⟨rfl, rfl⟩
theorem kw69 : Cond.static yJ2_length_9d52b ∈ lw_ok := ok_t1 (i := 69) ⟨rfl, rfl⟩
theorem sJ2_48 : CS RJ2 48 yJ2_length_9d52b cJ2_length_9d52b 1 1 (some .int) := ⟨⟨kw68, kw69, kw6, kw70⟩, md_J2_length_9d52b, by decide⟩
theorem md_J2_checkIndex_2214a : yJ2_checkIndex_2214a.cls ≠ "java/lang/invoke/MethodHandle" ∧ yJ2_checkIndex_2214a.cls ≠ "java/lang/invoke/VarHandle" ∧ (parseMethodDescriptor yJ2_checkIndex_2214a.desc).map (fun d => d.parameters.length) = some 2 := ⟨mhJ2.1, mhJ2.2, by decide +kernel⟩
theorem kw67 : Cond.code yJ2_checkIndex_2214a cJ2_checkIndex_2214a 2 none ∈ lw_ok := ok_t1 (i := 67) ⟨rfl, rfl⟩
theorem kw65 : Cond.methodLink RJ2 67 yJ2_checkIndex_2214a ∈ lw_ok := ok_t1 (i := 65) ⟨rfl, rfl⟩
theorem kw66 : Cond.static yJ2_checkIndex_2214a ∈ lw_ok := ok_t1 (i := 66) ⟨rfl, rfl⟩
theorem sJ2_67 : CS RJ2 67 yJ2_checkIndex_2214a cJ2_checkIndex_2214a 2 2 none := ⟨⟨kw65, kw66, kw6, kw67⟩, md_J2_checkIndex_2214a, by decide⟩
theorem md_J2_getChar_3b067 : yJ2_getChar_3b067.cls ≠ "java/lang/invoke/MethodHandle" ∧ yJ2_getChar_3b067.cls ≠ "java/lang/invoke/VarHandle" ∧ (parseMethodDescriptor yJ2_getChar_3b067.desc).map (fun d => d.parameters.length) = some 2 := ⟨mhJ2.1, mhJ2.2, by decide +kernel⟩
theorem kw74 : Cond.code yJ2_getChar_3b067 cJ2_getChar_3b067 2 (some .char) ∈ lw_ok := ok_t1 (i := 74) ⟨rfl, rfl⟩
theorem kw72 : Cond.methodLink RJ2 71 yJ2_getChar_3b067 ∈ lw_ok := ok_t1 (i := 72) ⟨rfl, rfl⟩
theorem kw73 : Cond.static yJ2_getChar_3b067 ∈ lw_ok := ok_t1 (i := 73) ⟨rfl, rfl⟩
theorem sJ2_71 : CS RJ2 71 yJ2_getChar_3b067 cJ2_getChar_3b067 2 2 (some .char) := ⟨⟨kw72, kw73, kw6, kw74⟩, md_J2_getChar_3b067, by decide⟩
theorem md_J2_checkBoundsBeginEnd_d044e : yJ2_checkBoundsBeginEnd_d044e.cls ≠ "java/lang/invoke/MethodHandle" ∧ yJ2_checkBoundsBeginEnd_d044e.cls ≠ "java/lang/invoke/VarHandle" ∧ (parseMethodDescriptor yJ2_checkBoundsBeginEnd_d044e.desc).map (fun d => d.parameters.length) = some 3 := ⟨mhJ2.1, mhJ2.2, by decide +kernel⟩
theorem kw372 : Cond.code yJ2_checkBoundsBeginEnd_d044e cJ2_checkBoundsBeginEnd_d044e 3 none ∈ lw_ok := ok_t2 (i := 132) ⟨rfl, rfl⟩
theorem kw370 : Cond.methodLink RJ2 96 yJ2_checkBoundsBeginEnd_d044e ∈ lw_ok := ok_t2 (i := 130) ⟨rfl, rfl⟩
theorem kw371 : Cond.static yJ2_checkBoundsBeginEnd_d044e ∈ lw_ok := ok_t2 (i := 131) ⟨rfl, rfl⟩
theorem sJ2_96 : CS RJ2 96 yJ2_checkBoundsBeginEnd_d044e cJ2_checkBoundsBeginEnd_d044e 3 3 none := ⟨⟨kw370, kw371, kw6, kw372⟩, md_J2_checkBoundsBeginEnd_d044e, by decide⟩
theorem nX0_31 : CN RX0 31 yX6_has RX6 cX6_has 2 2 (some .boolean) := ⟨⟨List.mem_of_getElem? (i := 3) rfl, kw617, kw1, kw618⟩, md_X6_has, by decide⟩
theorem nX2_60 : CN RX2 60 yX6_slot RX6 cX6_slot 2 2 (some .int) := ⟨⟨List.mem_of_getElem? (i := 0) rfl, kw432, kw1, kw433⟩, md_X6_slot, by decide⟩
theorem nX2_67 : CN RX2 67 yX6_has RX6 cX6_has 2 2 (some .boolean) := ⟨⟨List.mem_of_getElem? (i := 2) rfl, kw617, kw1, kw618⟩, md_X6_has, by decide⟩
theorem nX3_102 : CN RX3 102 yX6_slot RX6 cX6_slot 2 2 (some .int) := ⟨⟨List.mem_of_getElem? (i := 1) rfl, kw432, kw1, kw433⟩, md_X6_slot, by decide⟩
