theorem tb1 {w : Cond} (h : w ∈ tables_1_1) : w ∈ lw_tbl := List.mem_append_right _ (show w ∈ tables_1 from List.mem_append_left _ h)
theorem tb2 {w : Cond} (h : w ∈ tables_1_2) : w ∈ lw_tbl := List.mem_append_right _ (show w ∈ tables_1 from List.mem_append_right _ (List.mem_append_left _ h))
theorem tb3 {w : Cond} (h : w ∈ tables_1_3) : w ∈ lw_tbl := List.mem_append_right _ (show w ∈ tables_1 from List.mem_append_right _ (List.mem_append_right _ (List.mem_append_left _ h)))
theorem tb4 {w : Cond} (h : w ∈ tables_1_4) : w ∈ lw_tbl := List.mem_append_right _ (show w ∈ tables_1 from List.mem_append_right _ (List.mem_append_right _ (List.mem_append_right _ (List.mem_append_left _ h))))
theorem tb5 {w : Cond} (h : w ∈ tables_1_5) : w ∈ lw_tbl := List.mem_append_right _ (show w ∈ tables_1 from List.mem_append_right _ (List.mem_append_right _ (List.mem_append_right _ (List.mem_append_right _ (List.mem_append_left _ h)))))
theorem tb6 {w : Cond} (h : w ∈ tables_1_6) : w ∈ lw_tbl := List.mem_append_right _ (show w ∈ tables_1 from List.mem_append_right _ (List.mem_append_right _ (List.mem_append_right _ (List.mem_append_right _ (List.mem_append_right _ (List.mem_append_left _ h))))))
theorem tb7 {w : Cond} (h : w ∈ tables_1_7) : w ∈ lw_tbl := List.mem_append_right _ (show w ∈ tables_1 from List.mem_append_right _ (List.mem_append_right _ (List.mem_append_right _ (List.mem_append_right _ (List.mem_append_right _ (List.mem_append_right _ (List.mem_append_left _ h)))))))
theorem tb8 {w : Cond} (h : w ∈ tables_1_8) : w ∈ lw_tbl := List.mem_append_right _ (show w ∈ tables_1 from List.mem_append_right _ (List.mem_append_right _ (List.mem_append_right _ (List.mem_append_right _ (List.mem_append_right _ (List.mem_append_right _ (List.mem_append_right _ (h))))))))
theorem tbp {q : MethodName × Nat} (h : q ∈ lw_privs) : Cond.selects q.1.cls q.1 q.1 ∈ lw_tbl := List.mem_append_left _ (List.mem_map.mpr ⟨q, h, rfl⟩)
theorem w114 : (Cond.initialized "java/lang/System") ∈ WA := wa_mem (tb1 (List.mem_of_getElem? (i := 19) rfl)) rfl
theorem w129 : (Cond.fieldLink RX1 9 "AddressNamer$Cursor" "bytes" "[B") ∈ WA := wa_mem (tb1 (List.mem_of_getElem? (i := 34) rfl)) rfl
theorem w130 : (Cond.fieldLink RX1 19 "AddressNamer$Cursor" "size" "I") ∈ WA := wa_mem (tb1 (List.mem_of_getElem? (i := 35) rfl)) rfl
theorem w131 : (Cond.fieldLink RX1 29 "AddressNamer$Cursor" "place" "I") ∈ WA := wa_mem (tb1 (List.mem_of_getElem? (i := 36) rfl)) rfl
theorem w132 : (Cond.fieldLink RX1 32 "AddressNamer$Cursor" "stop" "I") ∈ WA := wa_mem (tb1 (List.mem_of_getElem? (i := 37) rfl)) rfl
theorem w133 : (Cond.fieldLink RX1 22 "AddressNamer$Cursor" "faultNumber" "I") ∈ WA := wa_mem (tb1 (List.mem_of_getElem? (i := 38) rfl)) rfl
theorem w134 : (Cond.fieldLink RX1 15 "AddressNamer$Cursor" "faultPlace" "I") ∈ WA := wa_mem (tb1 (List.mem_of_getElem? (i := 39) rfl)) rfl
theorem w155 : (Cond.fieldLink RX7 9 "AddressNamer$Sections" "begins" "[I") ∈ WA := wa_mem (tb1 (List.mem_of_getElem? (i := 60) rfl)) rfl
theorem w156 : (Cond.fieldLink RX7 15 "AddressNamer$Sections" "stops" "[I") ∈ WA := wa_mem (tb1 (List.mem_of_getElem? (i := 61) rfl)) rfl
theorem w157 : (Cond.fieldLink RX7 18 "AddressNamer$Sections" "meant" "[I") ∈ WA := wa_mem (tb1 (List.mem_of_getElem? (i := 62) rfl)) rfl
theorem w158 : (Cond.fieldLink RX7 21 "AddressNamer$Sections" "total" "I") ∈ WA := wa_mem (tb1 (List.mem_of_getElem? (i := 63) rfl)) rfl
theorem w159 : (Cond.fieldLink RX7 78 "AddressNamer$Sections" "table" "I") ∈ WA := wa_mem (tb1 (List.mem_of_getElem? (i := 64) rfl)) rfl
theorem w160 : (Cond.fieldLink RX7 75 "AddressNamer$Sections" "names" "I") ∈ WA := wa_mem (tb1 (List.mem_of_getElem? (i := 65) rfl)) rfl
theorem w187 : (Cond.fieldLink RX0 9 "AddressNamer$Abbreviations" "codes" "[J") ∈ WA := wa_mem (tb1 (List.mem_of_getElem? (i := 92) rfl)) rfl
theorem w188 : (Cond.fieldLink RX0 15 "AddressNamer$Abbreviations" "tags" "[J") ∈ WA := wa_mem (tb1 (List.mem_of_getElem? (i := 93) rfl)) rfl
theorem w189 : (Cond.fieldLink RX0 18 "AddressNamer$Abbreviations" "children" "[I") ∈ WA := wa_mem (tb1 (List.mem_of_getElem? (i := 94) rfl)) rfl
theorem w190 : (Cond.fieldLink RX0 22 "AddressNamer$Abbreviations" "pairTotals" "[I") ∈ WA := wa_mem (tb1 (List.mem_of_getElem? (i := 95) rfl)) rfl
theorem w191 : (Cond.fieldLink RX0 25 "AddressNamer$Abbreviations" "attributes" "[J") ∈ WA := wa_mem (tb1 (List.mem_of_getElem? (i := 96) rfl)) rfl
theorem w192 : (Cond.fieldLink RX0 28 "AddressNamer$Abbreviations" "forms" "[I") ∈ WA := wa_mem (tb1 (List.mem_of_getElem? (i := 97) rfl)) rfl
theorem w193 : (Cond.fieldLink RX0 31 "AddressNamer$Abbreviations" "values" "[J") ∈ WA := wa_mem (tb1 (List.mem_of_getElem? (i := 98) rfl)) rfl
theorem w194 : (Cond.fieldLink RX0 34 "AddressNamer$Abbreviations" "total" "I") ∈ WA := wa_mem (tb1 (List.mem_of_getElem? (i := 99) rfl)) rfl
theorem w213 : (Cond.fieldLink RX9 25 "AddressNamer$UnitReader" "in" "LAddressNamer$Cursor;") ∈ WA := wa_mem (tb1 (List.mem_of_getElem? (i := 118) rfl)) rfl
theorem w214 : (Cond.fieldLink RX9 29 "AddressNamer$UnitReader" "sections" "LAddressNamer$Sections;") ∈ WA := wa_mem (tb1 (List.mem_of_getElem? (i := 119) rfl)) rfl
theorem w215 : (Cond.fieldLink RX9 12 "AddressNamer$UnitReader" "abbreviations" "LAddressNamer$Abbreviations;") ∈ WA := wa_mem (tb1 (List.mem_of_getElem? (i := 120) rfl)) rfl
theorem w216 : (Cond.fieldLink RX9 18 "AddressNamer$UnitReader" "open" "[I") ∈ WA := wa_mem (tb1 (List.mem_of_getElem? (i := 121) rfl)) rfl
theorem w217 : (Cond.fieldLink RX9 122 "AddressNamer$UnitReader" "depth" "I") ∈ WA := wa_mem (tb1 (List.mem_of_getElem? (i := 122) rfl)) rfl
theorem w218 : (Cond.fieldLink RX9 22 "AddressNamer$UnitReader" "references" "[I") ∈ WA := wa_mem (tb1 (List.mem_of_getElem? (i := 123) rfl)) rfl
theorem w219 : (Cond.fieldLink RX9 125 "AddressNamer$UnitReader" "referenceTotal" "I") ∈ WA := wa_mem (tb1 (List.mem_of_getElem? (i := 124) rfl)) rfl
theorem w220 : (Cond.fieldLink RX9 60 "AddressNamer$UnitReader" "unitBegin" "I") ∈ WA := wa_mem (tb1 (List.mem_of_getElem? (i := 125) rfl)) rfl
theorem w221 : (Cond.fieldLink RX9 185 "AddressNamer$UnitReader" "textPlace" "I") ∈ WA := wa_mem (tb1 (List.mem_of_getElem? (i := 126) rfl)) rfl
theorem w222 : (Cond.fieldLink RX9 191 "AddressNamer$UnitReader" "textLength" "I") ∈ WA := wa_mem (tb1 (List.mem_of_getElem? (i := 127) rfl)) rfl
theorem w250 : (Cond.fieldLink RX5 9 "AddressNamer$Lookup" "chain" "[I") ∈ WA := wa_mem (tb1 (List.mem_of_getElem? (i := 155) rfl)) rfl
theorem w251 : (Cond.fieldLink RX5 22 "AddressNamer$Lookup" "total" "I") ∈ WA := wa_mem (tb1 (List.mem_of_getElem? (i := 156) rfl)) rfl
theorem w252 : (Cond.fieldLink RX5 15 "AddressNamer$Lookup" "governing" "I") ∈ WA := wa_mem (tb1 (List.mem_of_getElem? (i := 157) rfl)) rfl
theorem w253 : (Cond.fieldLink RX5 19 "AddressNamer$Lookup" "symbol" "I") ∈ WA := wa_mem (tb1 (List.mem_of_getElem? (i := 158) rfl)) rfl
theorem w254 : (Cond.fieldLink RX5 85 "AddressNamer$Lookup" "above" "I") ∈ WA := wa_mem (tb1 (List.mem_of_getElem? (i := 159) rfl)) rfl
theorem w278 : (Cond.fieldLink RX8 9 "AddressNamer$Symbols" "values" "[J") ∈ WA := wa_mem (tb1 (List.mem_of_getElem? (i := 183) rfl)) rfl
theorem w279 : (Cond.fieldLink RX8 15 "AddressNamer$Symbols" "extents" "[J") ∈ WA := wa_mem (tb1 (List.mem_of_getElem? (i := 184) rfl)) rfl
theorem w280 : (Cond.fieldLink RX8 18 "AddressNamer$Symbols" "namePlaces" "[I") ∈ WA := wa_mem (tb1 (List.mem_of_getElem? (i := 185) rfl)) rfl
theorem w281 : (Cond.fieldLink RX8 22 "AddressNamer$Symbols" "nameLengths" "[I") ∈ WA := wa_mem (tb1 (List.mem_of_getElem? (i := 186) rfl)) rfl
theorem w282 : (Cond.fieldLink RX8 25 "AddressNamer$Symbols" "total" "I") ∈ WA := wa_mem (tb1 (List.mem_of_getElem? (i := 187) rfl)) rfl
theorem w300 : (Cond.fieldLink RX10 9 "AddressNamer$Units" "begins" "[I") ∈ WA := wa_mem (tb1 (List.mem_of_getElem? (i := 205) rfl)) rfl
theorem w301 : (Cond.fieldLink RX10 15 "AddressNamer$Units" "firstEntries" "[I") ∈ WA := wa_mem (tb1 (List.mem_of_getElem? (i := 206) rfl)) rfl
theorem w302 : (Cond.fieldLink RX10 18 "AddressNamer$Units" "firstFiles" "[I") ∈ WA := wa_mem (tb1 (List.mem_of_getElem? (i := 207) rfl)) rfl
theorem w303 : (Cond.fieldLink RX10 21 "AddressNamer$Units" "fileTotals" "[I") ∈ WA := wa_mem (tb1 (List.mem_of_getElem? (i := 208) rfl)) rfl
theorem w304 : (Cond.fieldLink RX10 24 "AddressNamer$Units" "filePlaces" "[I") ∈ WA := wa_mem (tb1 (List.mem_of_getElem? (i := 209) rfl)) rfl
theorem w305 : (Cond.fieldLink RX10 27 "AddressNamer$Units" "fileLengths" "[I") ∈ WA := wa_mem (tb1 (List.mem_of_getElem? (i := 210) rfl)) rfl
theorem w306 : (Cond.fieldLink RX10 30 "AddressNamer$Units" "total" "I") ∈ WA := wa_mem (tb1 (List.mem_of_getElem? (i := 211) rfl)) rfl
theorem w307 : (Cond.fieldLink RX10 34 "AddressNamer$Units" "fileTotal" "I") ∈ WA := wa_mem (tb1 (List.mem_of_getElem? (i := 212) rfl)) rfl
theorem w331 : (Cond.fieldLink RX2 9 "AddressNamer$Entries" "tags" "[J") ∈ WA := wa_mem (tb1 (List.mem_of_getElem? (i := 236) rfl)) rfl
theorem w332 : (Cond.fieldLink RX2 15 "AddressNamer$Entries" "parents" "[I") ∈ WA := wa_mem (tb1 (List.mem_of_getElem? (i := 237) rfl)) rfl
theorem w333 : (Cond.fieldLink RX2 19 "AddressNamer$Entries" "units" "[I") ∈ WA := wa_mem (tb1 (List.mem_of_getElem? (i := 238) rfl)) rfl
theorem w334 : (Cond.fieldLink RX2 22 "AddressNamer$Entries" "places" "[I") ∈ WA := wa_mem (tb1 (List.mem_of_getElem? (i := 239) rfl)) rfl
theorem w335 : (Cond.fieldLink RX2 25 "AddressNamer$Entries" "origins" "[I") ∈ WA := wa_mem (tb2 (List.mem_of_getElem? (i := 0) rfl)) rfl
theorem w336 : (Cond.fieldLink RX2 28 "AddressNamer$Entries" "nameLengths" "[I") ∈ WA := wa_mem (tb2 (List.mem_of_getElem? (i := 1) rfl)) rfl
theorem w337 : (Cond.fieldLink RX2 31 "AddressNamer$Entries" "firstRanges" "[I") ∈ WA := wa_mem (tb2 (List.mem_of_getElem? (i := 2) rfl)) rfl
theorem w338 : (Cond.fieldLink RX2 34 "AddressNamer$Entries" "rangeTotals" "[I") ∈ WA := wa_mem (tb2 (List.mem_of_getElem? (i := 3) rfl)) rfl
theorem w339 : (Cond.fieldLink RX2 37 "AddressNamer$Entries" "told" "[I") ∈ WA := wa_mem (tb2 (List.mem_of_getElem? (i := 4) rfl)) rfl
theorem w340 : (Cond.fieldLink RX2 40 "AddressNamer$Entries" "values" "[J") ∈ WA := wa_mem (tb2 (List.mem_of_getElem? (i := 5) rfl)) rfl
theorem w341 : (Cond.fieldLink RX2 43 "AddressNamer$Entries" "total" "I") ∈ WA := wa_mem (tb2 (List.mem_of_getElem? (i := 6) rfl)) rfl
theorem w371 : (Cond.fieldLink RX6 9 "AddressNamer$Ranges" "lows" "[J") ∈ WA := wa_mem (tb2 (List.mem_of_getElem? (i := 36) rfl)) rfl
theorem w372 : (Cond.fieldLink RX6 15 "AddressNamer$Ranges" "highs" "[J") ∈ WA := wa_mem (tb2 (List.mem_of_getElem? (i := 37) rfl)) rfl
theorem w373 : (Cond.fieldLink RX6 18 "AddressNamer$Ranges" "total" "I") ∈ WA := wa_mem (tb2 (List.mem_of_getElem? (i := 38) rfl)) rfl
theorem w374 : (Cond.fieldLink RX6 71 "AddressNamer$Ranges" "base" "J") ∈ WA := wa_mem (tb2 (List.mem_of_getElem? (i := 39) rfl)) rfl
theorem w390 : (Cond.fieldLink RX4 9 "AddressNamer$Lines" "units" "[I") ∈ WA := wa_mem (tb2 (List.mem_of_getElem? (i := 55) rfl)) rfl
theorem w391 : (Cond.fieldLink RX4 15 "AddressNamer$Lines" "files" "[I") ∈ WA := wa_mem (tb2 (List.mem_of_getElem? (i := 56) rfl)) rfl
theorem w392 : (Cond.fieldLink RX4 18 "AddressNamer$Lines" "lines" "[I") ∈ WA := wa_mem (tb2 (List.mem_of_getElem? (i := 57) rfl)) rfl
theorem w393 : (Cond.fieldLink RX4 21 "AddressNamer$Lines" "ends" "[I") ∈ WA := wa_mem (tb2 (List.mem_of_getElem? (i := 58) rfl)) rfl
theorem w394 : (Cond.fieldLink RX4 24 "AddressNamer$Lines" "addresses" "[J") ∈ WA := wa_mem (tb2 (List.mem_of_getElem? (i := 59) rfl)) rfl
theorem w395 : (Cond.fieldLink RX4 31 "AddressNamer$Lines" "total" "I") ∈ WA := wa_mem (tb2 (List.mem_of_getElem? (i := 60) rfl)) rfl
theorem w396 : (Cond.fieldLink RX4 135 "AddressNamer$Lines" "least" "I") ∈ WA := wa_mem (tb2 (List.mem_of_getElem? (i := 61) rfl)) rfl
theorem w397 : (Cond.fieldLink RX4 138 "AddressNamer$Lines" "lineBase" "I") ∈ WA := wa_mem (tb2 (List.mem_of_getElem? (i := 62) rfl)) rfl
theorem w398 : (Cond.fieldLink RX4 141 "AddressNamer$Lines" "lineRange" "I") ∈ WA := wa_mem (tb2 (List.mem_of_getElem? (i := 63) rfl)) rfl
theorem w399 : (Cond.fieldLink RX4 144 "AddressNamer$Lines" "opcodeBase" "I") ∈ WA := wa_mem (tb2 (List.mem_of_getElem? (i := 64) rfl)) rfl
theorem w400 : (Cond.fieldLink RX4 28 "AddressNamer$Lines" "operands" "[I") ∈ WA := wa_mem (tb2 (List.mem_of_getElem? (i := 65) rfl)) rfl
theorem w401 : (Cond.fieldLink RX4 117 "AddressNamer$Lines" "program" "I") ∈ WA := wa_mem (tb2 (List.mem_of_getElem? (i := 66) rfl)) rfl
theorem w402 : (Cond.fieldLink RX4 65 "AddressNamer$Lines" "unit" "I") ∈ WA := wa_mem (tb2 (List.mem_of_getElem? (i := 67) rfl)) rfl
theorem w403 : (Cond.fieldLink RX4 241 "AddressNamer$Lines" "address" "J") ∈ WA := wa_mem (tb2 (List.mem_of_getElem? (i := 68) rfl)) rfl
theorem w404 : (Cond.fieldLink RX4 202 "AddressNamer$Lines" "file" "J") ∈ WA := wa_mem (tb2 (List.mem_of_getElem? (i := 69) rfl)) rfl
theorem w405 : (Cond.fieldLink RX4 206 "AddressNamer$Lines" "line" "J") ∈ WA := wa_mem (tb2 (List.mem_of_getElem? (i := 70) rfl)) rfl
theorem w406 : (Cond.fieldLink RX4 244 "AddressNamer$Lines" "addressTurns" "I") ∈ WA := wa_mem (tb2 (List.mem_of_getElem? (i := 71) rfl)) rfl
theorem w407 : (Cond.fieldLink RX4 209 "AddressNamer$Lines" "lineTurns" "I") ∈ WA := wa_mem (tb2 (List.mem_of_getElem? (i := 72) rfl)) rfl
theorem w408 : (Cond.fieldLink RX4 195 "AddressNamer$Lines" "begun" "Z") ∈ WA := wa_mem (tb2 (List.mem_of_getElem? (i := 73) rfl)) rfl
theorem w457 : (Cond.fieldLink RX3 28 "AddressNamer$Image" "entries" "LAddressNamer$Entries;") ∈ WA := wa_mem (tb2 (List.mem_of_getElem? (i := 122) rfl)) rfl
theorem w463 : (Cond.fieldLink RX3 35 "AddressNamer$Image" "ranges" "LAddressNamer$Ranges;") ∈ WA := wa_mem (tb2 (List.mem_of_getElem? (i := 128) rfl)) rfl
theorem w482 : (Cond.fieldLink RX11 9 "AddressNamer" "tape" "[B") ∈ WA := wa_mem (tb2 (List.mem_of_getElem? (i := 147) rfl)) rfl
theorem w483 : (Cond.fieldLink RX11 13 "AddressNamer" "kept" "[B") ∈ WA := wa_mem (tb2 (List.mem_of_getElem? (i := 148) rfl)) rfl
theorem w484 : (Cond.fieldLink RX11 21 "AddressNamer" "in" "LAddressNamer$Cursor;") ∈ WA := wa_mem (tb2 (List.mem_of_getElem? (i := 149) rfl)) rfl
theorem w485 : (Cond.fieldLink RX11 28 "AddressNamer" "sections" "LAddressNamer$Sections;") ∈ WA := wa_mem (tb2 (List.mem_of_getElem? (i := 150) rfl)) rfl
theorem w486 : (Cond.fieldLink RX11 37 "AddressNamer" "unitReader" "LAddressNamer$UnitReader;") ∈ WA := wa_mem (tb2 (List.mem_of_getElem? (i := 151) rfl)) rfl
theorem w487 : (Cond.fieldLink RX11 44 "AddressNamer" "lookup" "LAddressNamer$Lookup;") ∈ WA := wa_mem (tb2 (List.mem_of_getElem? (i := 152) rfl)) rfl
theorem w488 : (Cond.fieldLink RX11 51 "AddressNamer" "taken" "LAddressNamer$Image;") ∈ WA := wa_mem (tb2 (List.mem_of_getElem? (i := 153) rfl)) rfl
theorem w489 : (Cond.fieldLink RX11 55 "AddressNamer" "spare" "LAddressNamer$Image;") ∈ WA := wa_mem (tb2 (List.mem_of_getElem? (i := 154) rfl)) rfl
theorem w490 : (Cond.fieldLink RX11 58 "AddressNamer" "size" "I") ∈ WA := wa_mem (tb2 (List.mem_of_getElem? (i := 155) rfl)) rfl
theorem w514 : (Cond.methodLink RX11 62 yX11_append) ∈ WA := wa_mem (tb2 (List.mem_of_getElem? (i := 179) rfl)) rfl
theorem w530 : (Cond.methodLink RX11 66 yX1_open) ∈ WA := wa_mem (tb2 (List.mem_of_getElem? (i := 195) rfl)) rfl
theorem w534 : (Cond.methodLink RX1 25 yX1_within) ∈ WA := wa_mem (tb2 (List.mem_of_getElem? (i := 199) rfl)) rfl
theorem w538 : (Cond.methodLink RX11 69 yX7_read) ∈ WA := wa_mem (tb2 (List.mem_of_getElem? (i := 203) rfl)) rfl
theorem w542 : (Cond.methodLink RX7 25 yJ7_fill_53178) ∈ WA := wa_mem (tb2 (List.mem_of_getElem? (i := 207) rfl)) rfl
theorem w545 : (Cond.methodLink RX7 31 yX7_readHead) ∈ WA := wa_mem (tb2 (List.mem_of_getElem? (i := 210) rfl)) rfl
theorem w551 : (Cond.methodLink RX7 51 yX1_size) ∈ WA := wa_mem (tb2 (List.mem_of_getElem? (i := 216) rfl)) rfl
theorem w555 : (Cond.methodLink RX7 55 yX1_byteAt) ∈ WA := wa_mem (tb2 (List.mem_of_getElem? (i := 220) rfl)) rfl
theorem w559 : (Cond.methodLink RX7 59 yX1_refuse) ∈ WA := wa_mem (tb2 (List.mem_of_getElem? (i := 224) rfl)) rfl
theorem w563 : (Cond.methodLink RX7 63 yX1_numberAt) ∈ WA := wa_mem (tb2 (List.mem_of_getElem? (i := 228) rfl)) rfl
theorem w567 : (Cond.constantLong RX7 67 (64)) ∈ WA := wa_mem (tb2 (List.mem_of_getElem? (i := 232) rfl)) rfl
theorem w568 : (Cond.constantLong RX7 69 (30)) ∈ WA := wa_mem (tb2 (List.mem_of_getElem? (i := 233) rfl)) rfl
theorem w569 : (Cond.methodLink RX7 71 yX1_lies) ∈ WA := wa_mem (tb2 (List.mem_of_getElem? (i := 234) rfl)) rfl
theorem w573 : (Cond.methodLink RX7 35 yX1_sound) ∈ WA := wa_mem (tb2 (List.mem_of_getElem? (i := 238) rfl)) rfl
theorem w577 : (Cond.methodLink RX7 41 yX7_readRow) ∈ WA := wa_mem (tb3 (List.mem_of_getElem? (i := 2) rfl)) rfl
theorem w581 : (Cond.constantLong RX7 81 (8)) ∈ WA := wa_mem (tb3 (List.mem_of_getElem? (i := 6) rfl)) rfl
theorem w585 : (Cond.methodLink RX7 45 yX7_readName) ∈ WA := wa_mem (tb3 (List.mem_of_getElem? (i := 10) rfl)) rfl
theorem w592 : (Cond.methodLink RX7 91 yX1_toldText) ∈ WA := wa_mem (tb3 (List.mem_of_getElem? (i := 17) rfl)) rfl
theorem w596 : (Cond.methodLink RX1 43 yX1_refuse) ∈ WA := wa_mem (tb3 (List.mem_of_getElem? (i := 21) rfl)) rfl
theorem w597 : (Cond.methodLink RX1 64 yX1_textLength) ∈ WA := wa_mem (tb3 (List.mem_of_getElem? (i := 22) rfl)) rfl
theorem w601 : (Cond.methodLink RX7 95 yX7_nameMeant) ∈ WA := wa_mem (tb3 (List.mem_of_getElem? (i := 26) rfl)) rfl
theorem w611 : (Cond.methodLink RX7 99 yX1_isText) ∈ WA := wa_mem (tb3 (List.mem_of_getElem? (i := 36) rfl)) rfl
theorem w615 : (Cond.methodLink RX1 68 yJ0_length_8abf5) ∈ WA := wa_mem (tb3 (List.mem_of_getElem? (i := 40) rfl)) rfl
theorem w619 : (Cond.methodLink RJ0 335 yJ0_coder_7d493) ∈ WA := wa_mem (tb3 (List.mem_of_getElem? (i := 44) rfl)) rfl
theorem w623 : (Cond.fieldLink RJ0 38 "java/lang/String" "COMPACT_STRINGS" "Z") ∈ WA := wa_mem (tb3 (List.mem_of_getElem? (i := 48) rfl)) rfl
theorem w625 : (Cond.methodLink RX1 58 yX1_byteAt) ∈ WA := wa_mem (tb3 (List.mem_of_getElem? (i := 50) rfl)) rfl
theorem w626 : (Cond.methodLink RX1 74 yJ0_charAt_5068e) ∈ WA := wa_mem (tb3 (List.mem_of_getElem? (i := 51) rfl)) rfl
theorem w630 : (Cond.methodLink RJ0 492 yJ0_isLatin1_aae02) ∈ WA := wa_mem (tb3 (List.mem_of_getElem? (i := 55) rfl)) rfl
theorem w634 : (Cond.methodLink RJ0 495 yJ1_charAt_3b067) ∈ WA := wa_mem (tb3 (List.mem_of_getElem? (i := 59) rfl)) rfl
theorem w637 : (Cond.methodLink RJ1 9 yJ0_checkIndex_df160) ∈ WA := wa_mem (tb3 (List.mem_of_getElem? (i := 62) rfl)) rfl
theorem w640 : (Cond.fieldLink RJ0 1053 "jdk/internal/util/Preconditions" "SIOOBE_FORMATTER" "Ljava/util/function/BiFunction;") ∈ WA := wa_mem (tb3 (List.mem_of_getElem? (i := 65) rfl)) rfl
theorem w642 : (Cond.methodLink RJ0 1059 yJ3_checkIndex_8e157) ∈ WA := wa_mem (tb3 (List.mem_of_getElem? (i := 67) rfl)) rfl
theorem w664 : (Cond.methodLink RX11 73 yX7_total) ∈ WA := wa_mem (tb3 (List.mem_of_getElem? (i := 89) rfl)) rfl
theorem w668 : (Cond.methodLink RX11 84 yX8_read) ∈ WA := wa_mem (tb3 (List.mem_of_getElem? (i := 93) rfl)) rfl
theorem w672 : (Cond.methodLink RX8 29 yX7_beginOf) ∈ WA := wa_mem (tb3 (List.mem_of_getElem? (i := 97) rfl)) rfl
theorem w676 : (Cond.methodLink RX8 35 yX7_stopOf) ∈ WA := wa_mem (tb3 (List.mem_of_getElem? (i := 101) rfl)) rfl
theorem w680 : (Cond.methodLink RX8 38 yX1_sound) ∈ WA := wa_mem (tb3 (List.mem_of_getElem? (i := 105) rfl)) rfl
theorem w681 : (Cond.methodLink RX8 44 yX8_readRow) ∈ WA := wa_mem (tb3 (List.mem_of_getElem? (i := 106) rfl)) rfl
theorem w685 : (Cond.methodLink RX8 52 yX1_numberAt) ∈ WA := wa_mem (tb3 (List.mem_of_getElem? (i := 110) rfl)) rfl
theorem w686 : (Cond.methodLink RX8 56 yX1_byteAt) ∈ WA := wa_mem (tb3 (List.mem_of_getElem? (i := 111) rfl)) rfl
theorem w687 : (Cond.methodLink RX8 48 yX1_refuse) ∈ WA := wa_mem (tb3 (List.mem_of_getElem? (i := 112) rfl)) rfl
theorem w688 : (Cond.methodLink RX8 59 yX1_toldText) ∈ WA := wa_mem (tb3 (List.mem_of_getElem? (i := 113) rfl)) rfl
theorem w693 : (Cond.methodLink RX11 88 yX9_readAll) ∈ WA := wa_mem (tb3 (List.mem_of_getElem? (i := 118) rfl)) rfl
theorem w697 : (Cond.methodLink RX9 39 yX10_clear) ∈ WA := wa_mem (tb3 (List.mem_of_getElem? (i := 122) rfl)) rfl
theorem w701 : (Cond.methodLink RX9 48 yX2_clear) ∈ WA := wa_mem (tb3 (List.mem_of_getElem? (i := 126) rfl)) rfl
theorem w705 : (Cond.methodLink RX9 51 yX7_stopOf) ∈ WA := wa_mem (tb3 (List.mem_of_getElem? (i := 130) rfl)) rfl
theorem w706 : (Cond.methodLink RX9 57 yX7_beginOf) ∈ WA := wa_mem (tb3 (List.mem_of_getElem? (i := 131) rfl)) rfl
theorem w707 : (Cond.methodLink RX9 64 yX1_sound) ∈ WA := wa_mem (tb3 (List.mem_of_getElem? (i := 132) rfl)) rfl
theorem w708 : (Cond.methodLink RX9 70 yX1_within) ∈ WA := wa_mem (tb3 (List.mem_of_getElem? (i := 133) rfl)) rfl
theorem w709 : (Cond.methodLink RX9 74 yX9_readHead) ∈ WA := wa_mem (tb3 (List.mem_of_getElem? (i := 134) rfl)) rfl
theorem w713 : (Cond.methodLink RX9 103 yX1_enterCounted) ∈ WA := wa_mem (tb3 (List.mem_of_getElem? (i := 138) rfl)) rfl
theorem w717 : (Cond.methodLink RX1 50 yX1_number) ∈ WA := wa_mem (tb3 (List.mem_of_getElem? (i := 142) rfl)) rfl
theorem w721 : (Cond.methodLink RX1 35 yX1_sound) ∈ WA := wa_mem (tb3 (List.mem_of_getElem? (i := 146) rfl)) rfl
theorem w722 : (Cond.methodLink RX1 39 yX1_hasLeft) ∈ WA := wa_mem (tb3 (List.mem_of_getElem? (i := 147) rfl)) rfl
theorem w726 : (Cond.methodLink RX1 46 yX1_numberAt) ∈ WA := wa_mem (tb3 (List.mem_of_getElem? (i := 151) rfl)) rfl
theorem w727 : (Cond.constantLong RX1 78 (4294967280)) ∈ WA := wa_mem (tb3 (List.mem_of_getElem? (i := 152) rfl)) rfl
theorem w728 : (Cond.methodLink RX9 106 yX10_total) ∈ WA := wa_mem (tb3 (List.mem_of_getElem? (i := 153) rfl)) rfl
theorem w732 : (Cond.methodLink RX9 107 yX1_refuse) ∈ WA := wa_mem (tb3 (List.mem_of_getElem? (i := 157) rfl)) rfl
theorem w733 : (Cond.methodLink RX9 110 yX1_numberBetween) ∈ WA := wa_mem (tb3 (List.mem_of_getElem? (i := 158) rfl)) rfl
theorem w737 : (Cond.methodLink RX9 78 yX1_place) ∈ WA := wa_mem (tb3 (List.mem_of_getElem? (i := 162) rfl)) rfl
theorem w741 : (Cond.methodLink RX9 114 yX1_number) ∈ WA := wa_mem (tb3 (List.mem_of_getElem? (i := 166) rfl)) rfl
theorem w742 : (Cond.methodLink RX9 118 yX7_isIn) ∈ WA := wa_mem (tb3 (List.mem_of_getElem? (i := 167) rfl)) rfl
theorem w746 : (Cond.methodLink RX7 117 yX7_stopOf) ∈ WA := wa_mem (tb3 (List.mem_of_getElem? (i := 171) rfl)) rfl
theorem w747 : (Cond.methodLink RX7 120 yX7_beginOf) ∈ WA := wa_mem (tb3 (List.mem_of_getElem? (i := 172) rfl)) rfl
theorem w748 : (Cond.methodLink RX9 82 yX1_stop) ∈ WA := wa_mem (tb3 (List.mem_of_getElem? (i := 173) rfl)) rfl
theorem w752 : (Cond.methodLink RX9 85 yX2_total) ∈ WA := wa_mem (tb3 (List.mem_of_getElem? (i := 177) rfl)) rfl
theorem w756 : (Cond.methodLink RX9 88 yX10_add) ∈ WA := wa_mem (tb3 (List.mem_of_getElem? (i := 181) rfl)) rfl
theorem w761 : (Cond.methodLink RX9 92 yX0_read) ∈ WA := wa_mem (tb3 (List.mem_of_getElem? (i := 186) rfl)) rfl
theorem w765 : (Cond.methodLink RX0 38 yX1_sound) ∈ WA := wa_mem (tb3 (List.mem_of_getElem? (i := 190) rfl)) rfl
theorem w766 : (Cond.methodLink RX0 44 yX0_readCode) ∈ WA := wa_mem (tb3 (List.mem_of_getElem? (i := 191) rfl)) rfl
theorem w770 : (Cond.methodLink RX0 48 yX1_place) ∈ WA := wa_mem (tb3 (List.mem_of_getElem? (i := 195) rfl)) rfl
theorem w771 : (Cond.methodLink RX0 52 yX1_uleb) ∈ WA := wa_mem (tb3 (List.mem_of_getElem? (i := 196) rfl)) rfl
theorem w775 : (Cond.methodLink RX0 56 yX0_indexOf) ∈ WA := wa_mem (tb3 (List.mem_of_getElem? (i := 200) rfl)) rfl
theorem w782 : (Cond.constantLong RX11 167 (-1)) ∈ WA := wa_mem (tb3 (List.mem_of_getElem? (i := 207) rfl)) rfl
theorem w783 : (Cond.methodLink RX0 60 yX1_refuse) ∈ WA := wa_mem (tb3 (List.mem_of_getElem? (i := 208) rfl)) rfl
theorem w785 : (Cond.methodLink RX0 68 yX1_numberBetween) ∈ WA := wa_mem (tb3 (List.mem_of_getElem? (i := 210) rfl)) rfl
theorem w787 : (Cond.methodLink RX0 75 yX0_readPair) ∈ WA := wa_mem (tb3 (List.mem_of_getElem? (i := 212) rfl)) rfl
theorem w791 : (Cond.methodLink RX0 78 yX0_isForm) ∈ WA := wa_mem (tb3 (List.mem_of_getElem? (i := 216) rfl)) rfl
theorem w794 : (Cond.constantLong RX0 86 (33)) ∈ WA := wa_mem (tb3 (List.mem_of_getElem? (i := 219) rfl)) rfl
theorem w796 : (Cond.methodLink RX0 88 yX1_sleb) ∈ WA := wa_mem (tb3 (List.mem_of_getElem? (i := 221) rfl)) rfl
theorem w800 : (Cond.methodLink RX1 54 yX1_uleb) ∈ WA := wa_mem (tb3 (List.mem_of_getElem? (i := 225) rfl)) rfl
theorem w801 : (Cond.constantLong RX1 62 (-1)) ∈ WA := wa_mem (tb3 (List.mem_of_getElem? (i := 226) rfl)) rfl
theorem w802 : (Cond.methodLink RX9 96 yX9_readEntries) ∈ WA := wa_mem (tb3 (List.mem_of_getElem? (i := 227) rfl)) rfl
theorem w806 : (Cond.methodLink RX9 128 yX1_uleb) ∈ WA := wa_mem (tb3 (List.mem_of_getElem? (i := 231) rfl)) rfl
theorem w807 : (Cond.methodLink RX9 132 yX9_readEntry) ∈ WA := wa_mem (tb3 (List.mem_of_getElem? (i := 232) rfl)) rfl
theorem w811 : (Cond.methodLink RX9 136 yX0_indexOf) ∈ WA := wa_mem (tb3 (List.mem_of_getElem? (i := 236) rfl)) rfl
theorem w813 : (Cond.methodLink RX9 144 yX0_tagOf) ∈ WA := wa_mem (tb3 (List.mem_of_getElem? (i := 238) rfl)) rfl
theorem w817 : (Cond.methodLink RX9 147 yX2_add) ∈ WA := wa_mem (tb4 (List.mem_of_getElem? (i := 2) rfl)) rfl
theorem w823 : (Cond.methodLink RX9 150 yX0_pairTotalOf) ∈ WA := wa_mem (tb4 (List.mem_of_getElem? (i := 8) rfl)) rfl
theorem w827 : (Cond.methodLink RX9 153 yX0_formOf) ∈ WA := wa_mem (tb4 (List.mem_of_getElem? (i := 12) rfl)) rfl
theorem w831 : (Cond.methodLink RX9 156 yX0_valueOf) ∈ WA := wa_mem (tb4 (List.mem_of_getElem? (i := 16) rfl)) rfl
theorem w835 : (Cond.methodLink RX9 160 yX9_readValue) ∈ WA := wa_mem (tb4 (List.mem_of_getElem? (i := 20) rfl)) rfl
theorem w839 : (Cond.methodLink RX9 179 yX9_readAddress) ∈ WA := wa_mem (tb4 (List.mem_of_getElem? (i := 24) rfl)) rfl
theorem w843 : (Cond.methodLink RX9 182 yX1_sleb) ∈ WA := wa_mem (tb4 (List.mem_of_getElem? (i := 28) rfl)) rfl
theorem w844 : (Cond.methodLink RX9 188 yX1_text) ∈ WA := wa_mem (tb4 (List.mem_of_getElem? (i := 29) rfl)) rfl
theorem w848 : (Cond.methodLink RX9 194 yX9_readToldText) ∈ WA := wa_mem (tb4 (List.mem_of_getElem? (i := 33) rfl)) rfl
theorem w852 : (Cond.methodLink RX9 203 yX1_toldText) ∈ WA := wa_mem (tb4 (List.mem_of_getElem? (i := 37) rfl)) rfl
theorem w853 : (Cond.methodLink RX9 197 yX9_readReference) ∈ WA := wa_mem (tb4 (List.mem_of_getElem? (i := 38) rfl)) rfl
theorem w858 : (Cond.methodLink RX9 200 yX9_skipBytes) ∈ WA := wa_mem (tb4 (List.mem_of_getElem? (i := 43) rfl)) rfl
theorem w862 : (Cond.methodLink RX9 207 yX1_hasLeft) ∈ WA := wa_mem (tb4 (List.mem_of_getElem? (i := 47) rfl)) rfl
theorem w863 : (Cond.methodLink RX9 164 yX0_attributeOf) ∈ WA := wa_mem (tb4 (List.mem_of_getElem? (i := 48) rfl)) rfl
theorem w867 : (Cond.methodLink RX9 167 yX9_keepValue) ∈ WA := wa_mem (tb4 (List.mem_of_getElem? (i := 52) rfl)) rfl
theorem w871 : (Cond.constantLong RX9 211 (3)) ∈ WA := wa_mem (tb4 (List.mem_of_getElem? (i := 56) rfl)) rfl
theorem w872 : (Cond.methodLink RX9 213 yX2_keepName) ∈ WA := wa_mem (tb4 (List.mem_of_getElem? (i := 57) rfl)) rfl
theorem w876 : (Cond.methodLink RX2 62 yX2_keepFirst) ∈ WA := wa_mem (tb4 (List.mem_of_getElem? (i := 61) rfl)) rfl
theorem w881 : (Cond.methodLink RX2 58 yX2_has) ∈ WA := wa_mem (tb4 (List.mem_of_getElem? (i := 66) rfl)) rfl
theorem w885 : (Cond.constantLong RX9 217 (18)) ∈ WA := wa_mem (tb4 (List.mem_of_getElem? (i := 70) rfl)) rfl
theorem w886 : (Cond.methodLink RX9 219 yX9_keepHigh) ∈ WA := wa_mem (tb4 (List.mem_of_getElem? (i := 71) rfl)) rfl
theorem w890 : (Cond.methodLink RX9 230 yX2_isTold) ∈ WA := wa_mem (tb4 (List.mem_of_getElem? (i := 75) rfl)) rfl
theorem w894 : (Cond.methodLink RX9 226 yX2_keepFirst) ∈ WA := wa_mem (tb4 (List.mem_of_getElem? (i := 79) rfl)) rfl
theorem w895 : (Cond.methodLink RX9 234 yX9_isCountForm) ∈ WA := wa_mem (tb4 (List.mem_of_getElem? (i := 80) rfl)) rfl
theorem w898 : (Cond.methodLink RX9 222 yX9_columnOf) ∈ WA := wa_mem (tb4 (List.mem_of_getElem? (i := 83) rfl)) rfl
theorem w901 : (Cond.constantLong RX9 237 (17)) ∈ WA := wa_mem (tb4 (List.mem_of_getElem? (i := 86) rfl)) rfl
theorem w902 : (Cond.constantLong RX9 239 (49)) ∈ WA := wa_mem (tb4 (List.mem_of_getElem? (i := 87) rfl)) rfl
theorem w903 : (Cond.constantLong RX9 241 (71)) ∈ WA := wa_mem (tb4 (List.mem_of_getElem? (i := 88) rfl)) rfl
theorem w904 : (Cond.constantLong RX9 243 (85)) ∈ WA := wa_mem (tb4 (List.mem_of_getElem? (i := 89) rfl)) rfl
theorem w905 : (Cond.constantLong RX9 245 (16)) ∈ WA := wa_mem (tb4 (List.mem_of_getElem? (i := 90) rfl)) rfl
theorem w906 : (Cond.constantLong RX9 247 (88)) ∈ WA := wa_mem (tb4 (List.mem_of_getElem? (i := 91) rfl)) rfl
theorem w907 : (Cond.constantLong RX9 249 (89)) ∈ WA := wa_mem (tb4 (List.mem_of_getElem? (i := 92) rfl)) rfl
theorem w908 : (Cond.methodLink RX9 171 yX0_hasChildren) ∈ WA := wa_mem (tb4 (List.mem_of_getElem? (i := 93) rfl)) rfl
theorem w912 : (Cond.methodLink RX9 100 yX9_settleReferences) ∈ WA := wa_mem (tb4 (List.mem_of_getElem? (i := 97) rfl)) rfl
theorem w916 : (Cond.methodLink RX9 251 yX1_numberAt) ∈ WA := wa_mem (tb4 (List.mem_of_getElem? (i := 101) rfl)) rfl
theorem w917 : (Cond.methodLink RX9 254 yX2_placedAt) ∈ WA := wa_mem (tb4 (List.mem_of_getElem? (i := 102) rfl)) rfl
theorem w921 : (Cond.methodLink RX2 76 yX2_placeOf) ∈ WA := wa_mem (tb4 (List.mem_of_getElem? (i := 106) rfl)) rfl
theorem w925 : (Cond.methodLink RX9 257 yX2_settleOrigin) ∈ WA := wa_mem (tb4 (List.mem_of_getElem? (i := 110) rfl)) rfl
theorem w929 : (Cond.constantLong RX2 66 (-1)) ∈ WA := wa_mem (tb4 (List.mem_of_getElem? (i := 114) rfl)) rfl
theorem w930 : (Cond.methodLink RX2 68 yX2_valueOr) ∈ WA := wa_mem (tb4 (List.mem_of_getElem? (i := 115) rfl)) rfl
theorem w934 : (Cond.methodLink RX2 80 yX2_isTold) ∈ WA := wa_mem (tb4 (List.mem_of_getElem? (i := 119) rfl)) rfl
theorem w936 : (Cond.methodLink RX2 72 yX2_placedAt) ∈ WA := wa_mem (tb4 (List.mem_of_getElem? (i := 121) rfl)) rfl
theorem w937 : (Cond.methodLink RX11 96 yX6_readAll) ∈ WA := wa_mem (tb4 (List.mem_of_getElem? (i := 122) rfl)) rfl
theorem w941 : (Cond.methodLink RX6 28 yX2_total) ∈ WA := wa_mem (tb4 (List.mem_of_getElem? (i := 126) rfl)) rfl
theorem w942 : (Cond.methodLink RX6 33 yX1_sound) ∈ WA := wa_mem (tb4 (List.mem_of_getElem? (i := 127) rfl)) rfl
theorem w943 : (Cond.methodLink RX6 39 yX2_valueOr) ∈ WA := wa_mem (tb4 (List.mem_of_getElem? (i := 128) rfl)) rfl
theorem w944 : (Cond.methodLink RX6 43 yX2_isTold) ∈ WA := wa_mem (tb4 (List.mem_of_getElem? (i := 129) rfl)) rfl
theorem w945 : (Cond.methodLink RX6 47 yX2_placeOf) ∈ WA := wa_mem (tb4 (List.mem_of_getElem? (i := 130) rfl)) rfl
theorem w946 : (Cond.methodLink RX6 51 yX6_add) ∈ WA := wa_mem (tb4 (List.mem_of_getElem? (i := 131) rfl)) rfl
theorem w950 : (Cond.methodLink RX6 89 yX1_refuse) ∈ WA := wa_mem (tb4 (List.mem_of_getElem? (i := 135) rfl)) rfl
theorem w955 : (Cond.methodLink RX6 63 yX2_unitOf) ∈ WA := wa_mem (tb4 (List.mem_of_getElem? (i := 140) rfl)) rfl
theorem w959 : (Cond.methodLink RX6 66 yX10_firstEntryOf) ∈ WA := wa_mem (tb4 (List.mem_of_getElem? (i := 144) rfl)) rfl
theorem w964 : (Cond.methodLink RX6 75 yX6_readList) ∈ WA := wa_mem (tb4 (List.mem_of_getElem? (i := 149) rfl)) rfl
theorem w968 : (Cond.methodLink RX6 83 yX7_isIn) ∈ WA := wa_mem (tb4 (List.mem_of_getElem? (i := 153) rfl)) rfl
theorem w969 : (Cond.methodLink RX6 93 yX7_beginOf) ∈ WA := wa_mem (tb4 (List.mem_of_getElem? (i := 154) rfl)) rfl
theorem w970 : (Cond.methodLink RX6 96 yX7_stopOf) ∈ WA := wa_mem (tb4 (List.mem_of_getElem? (i := 155) rfl)) rfl
theorem w971 : (Cond.methodLink RX6 99 yX1_within) ∈ WA := wa_mem (tb4 (List.mem_of_getElem? (i := 156) rfl)) rfl
theorem w972 : (Cond.methodLink RX6 102 yX6_readRow) ∈ WA := wa_mem (tb4 (List.mem_of_getElem? (i := 157) rfl)) rfl
theorem w976 : (Cond.methodLink RX6 106 yX1_place) ∈ WA := wa_mem (tb4 (List.mem_of_getElem? (i := 161) rfl)) rfl
theorem w977 : (Cond.methodLink RX6 109 yX1_number) ∈ WA := wa_mem (tb4 (List.mem_of_getElem? (i := 162) rfl)) rfl
theorem w978 : (Cond.methodLink RX6 113 yX1_uleb) ∈ WA := wa_mem (tb4 (List.mem_of_getElem? (i := 163) rfl)) rfl
theorem w979 : (Cond.methodLink RX6 79 yX2_setRanges) ∈ WA := wa_mem (tb4 (List.mem_of_getElem? (i := 164) rfl)) rfl
theorem w983 : (Cond.methodLink RX11 105 yX4_readAll) ∈ WA := wa_mem (tb4 (List.mem_of_getElem? (i := 168) rfl)) rfl
theorem w987 : (Cond.methodLink RX4 40 yX10_total) ∈ WA := wa_mem (tb4 (List.mem_of_getElem? (i := 172) rfl)) rfl
theorem w988 : (Cond.methodLink RX4 45 yX1_sound) ∈ WA := wa_mem (tb4 (List.mem_of_getElem? (i := 173) rfl)) rfl
theorem w989 : (Cond.methodLink RX4 51 yX10_firstEntryOf) ∈ WA := wa_mem (tb4 (List.mem_of_getElem? (i := 174) rfl)) rfl
theorem w990 : (Cond.methodLink RX4 59 yX2_isTold) ∈ WA := wa_mem (tb4 (List.mem_of_getElem? (i := 175) rfl)) rfl
theorem w991 : (Cond.methodLink RX4 68 yX2_valueOr) ∈ WA := wa_mem (tb4 (List.mem_of_getElem? (i := 176) rfl)) rfl
theorem w992 : (Cond.methodLink RX4 72 yX4_readTable) ∈ WA := wa_mem (tb4 (List.mem_of_getElem? (i := 177) rfl)) rfl
theorem w996 : (Cond.methodLink RX4 76 yX7_isIn) ∈ WA := wa_mem (tb4 (List.mem_of_getElem? (i := 181) rfl)) rfl
theorem w997 : (Cond.methodLink RX4 82 yX10_beginOf) ∈ WA := wa_mem (tb4 (List.mem_of_getElem? (i := 182) rfl)) rfl
theorem w1001 : (Cond.methodLink RX4 85 yX1_refuse) ∈ WA := wa_mem (tb4 (List.mem_of_getElem? (i := 186) rfl)) rfl
theorem w1002 : (Cond.methodLink RX4 89 yX7_beginOf) ∈ WA := wa_mem (tb4 (List.mem_of_getElem? (i := 187) rfl)) rfl
theorem w1003 : (Cond.methodLink RX4 90 yX7_stopOf) ∈ WA := wa_mem (tb4 (List.mem_of_getElem? (i := 188) rfl)) rfl
theorem w1004 : (Cond.methodLink RX4 93 yX1_within) ∈ WA := wa_mem (tb4 (List.mem_of_getElem? (i := 189) rfl)) rfl
theorem w1005 : (Cond.methodLink RX4 96 yX1_enterCounted) ∈ WA := wa_mem (tb4 (List.mem_of_getElem? (i := 190) rfl)) rfl
theorem w1006 : (Cond.methodLink RX4 99 yX4_readHead) ∈ WA := wa_mem (tb4 (List.mem_of_getElem? (i := 191) rfl)) rfl
theorem w1010 : (Cond.methodLink RX4 123 yX1_numberBetween) ∈ WA := wa_mem (tb4 (List.mem_of_getElem? (i := 195) rfl)) rfl
theorem w1011 : (Cond.methodLink RX4 114 yX1_place) ∈ WA := wa_mem (tb4 (List.mem_of_getElem? (i := 196) rfl)) rfl
theorem w1012 : (Cond.methodLink RX4 127 yX1_number) ∈ WA := wa_mem (tb4 (List.mem_of_getElem? (i := 197) rfl)) rfl
theorem w1013 : (Cond.methodLink RX4 131 yX1_hasLeft) ∈ WA := wa_mem (tb4 (List.mem_of_getElem? (i := 198) rfl)) rfl
theorem w1014 : (Cond.methodLink RX4 103 yX4_readOperands) ∈ WA := wa_mem (tb4 (List.mem_of_getElem? (i := 199) rfl)) rfl
theorem w1022 : (Cond.methodLink RX4 106 yX4_readDirectories) ∈ WA := wa_mem (tb4 (List.mem_of_getElem? (i := 207) rfl)) rfl
theorem w1026 : (Cond.methodLink RX4 158 yX1_expectUleb) ∈ WA := wa_mem (tb4 (List.mem_of_getElem? (i := 211) rfl)) rfl
theorem w1030 : (Cond.constantLong RX4 162 (8)) ∈ WA := wa_mem (tb4 (List.mem_of_getElem? (i := 215) rfl)) rfl
theorem w1031 : (Cond.methodLink RX4 164 yX1_uleb) ∈ WA := wa_mem (tb4 (List.mem_of_getElem? (i := 216) rfl)) rfl
theorem w1032 : (Cond.methodLink RX4 168 yX1_text) ∈ WA := wa_mem (tb4 (List.mem_of_getElem? (i := 217) rfl)) rfl
theorem w1033 : (Cond.methodLink RX4 110 yX4_readFiles) ∈ WA := wa_mem (tb4 (List.mem_of_getElem? (i := 218) rfl)) rfl
theorem w1037 : (Cond.constantLong RX4 171 (2)) ∈ WA := wa_mem (tb4 (List.mem_of_getElem? (i := 222) rfl)) rfl
theorem w1038 : (Cond.constantLong RX4 173 (15)) ∈ WA := wa_mem (tb4 (List.mem_of_getElem? (i := 223) rfl)) rfl
theorem w1039 : (Cond.methodLink RX4 175 yX10_fileTotal) ∈ WA := wa_mem (tb4 (List.mem_of_getElem? (i := 224) rfl)) rfl
theorem w1043 : (Cond.methodLink RX4 178 yX10_beginFiles) ∈ WA := wa_mem (tb4 (List.mem_of_getElem? (i := 228) rfl)) rfl
theorem w1047 : (Cond.methodLink RX4 182 yX10_addFile) ∈ WA := wa_mem (tb4 (List.mem_of_getElem? (i := 232) rfl)) rfl
theorem w1051 : (Cond.methodLink RX4 120 yX4_runProgram) ∈ WA := wa_mem (tb4 (List.mem_of_getElem? (i := 236) rfl)) rfl
theorem w1055 : (Cond.methodLink RX4 186 yX4_beginSequence) ∈ WA := wa_mem (tb5 (List.mem_of_getElem? (i := 0) rfl)) rfl
theorem w1059 : (Cond.methodLink RX4 199 yX4_setAddress) ∈ WA := wa_mem (tb5 (List.mem_of_getElem? (i := 4) rfl)) rfl
theorem w1063 : (Cond.methodLink RX4 189 yX1_stop) ∈ WA := wa_mem (tb5 (List.mem_of_getElem? (i := 8) rfl)) rfl
theorem w1064 : (Cond.methodLink RX4 192 yX4_runOpcode) ∈ WA := wa_mem (tb5 (List.mem_of_getElem? (i := 9) rfl)) rfl
theorem w1068 : (Cond.methodLink RX4 212 yX4_runSpecial) ∈ WA := wa_mem (tb5 (List.mem_of_getElem? (i := 13) rfl)) rfl
theorem w1072 : (Cond.methodLink RX4 232 yX4_rangesIn) ∈ WA := wa_mem (tb5 (List.mem_of_getElem? (i := 17) rfl)) rfl
theorem w1076 : (Cond.methodLink RX4 223 yX4_advanceSteps) ∈ WA := wa_mem (tb5 (List.mem_of_getElem? (i := 21) rfl)) rfl
theorem w1080 : (Cond.constantLong RX4 247 (4294967295)) ∈ WA := wa_mem (tb5 (List.mem_of_getElem? (i := 25) rfl)) rfl
theorem w1081 : (Cond.methodLink RX4 235 yX4_advance) ∈ WA := wa_mem (tb5 (List.mem_of_getElem? (i := 26) rfl)) rfl
theorem w1085 : (Cond.methodLink RX4 229 yX4_advanceLine) ∈ WA := wa_mem (tb5 (List.mem_of_getElem? (i := 30) rfl)) rfl
theorem w1089 : (Cond.methodLink RX4 220 yX4_addRow) ∈ WA := wa_mem (tb5 (List.mem_of_getElem? (i := 34) rfl)) rfl
theorem w1094 : (Cond.methodLink RX4 261 yX4_isRegister) ∈ WA := wa_mem (tb5 (List.mem_of_getElem? (i := 39) rfl)) rfl
theorem w1097 : (Cond.constantLong RX4 267 (1000000)) ∈ WA := wa_mem (tb5 (List.mem_of_getElem? (i := 42) rfl)) rfl
theorem w1099 : (Cond.methodLink RX4 216 yX4_runExtended) ∈ WA := wa_mem (tb5 (List.mem_of_getElem? (i := 44) rfl)) rfl
theorem w1103 : (Cond.methodLink RX4 249 yX1_byteAt) ∈ WA := wa_mem (tb5 (List.mem_of_getElem? (i := 48) rfl)) rfl
theorem w1104 : (Cond.constantLong RX4 252 (9)) ∈ WA := wa_mem (tb5 (List.mem_of_getElem? (i := 49) rfl)) rfl
theorem w1105 : (Cond.methodLink RX4 254 yX1_numberAt) ∈ WA := wa_mem (tb5 (List.mem_of_getElem? (i := 50) rfl)) rfl
theorem w1106 : (Cond.methodLink RX4 226 yX1_sleb) ∈ WA := wa_mem (tb5 (List.mem_of_getElem? (i := 51) rfl)) rfl
theorem w1107 : (Cond.methodLink RX4 238 yX4_skipOperands) ∈ WA := wa_mem (tb5 (List.mem_of_getElem? (i := 52) rfl)) rfl
theorem w1111 : (Cond.methodLink RX11 108 yX1_sound) ∈ WA := wa_mem (tb5 (List.mem_of_getElem? (i := 56) rfl)) rfl
theorem w1112 : (Cond.methodLink RX11 112 yX11_takeSpare) ∈ WA := wa_mem (tb5 (List.mem_of_getElem? (i := 57) rfl)) rfl
theorem w1116 : (Cond.methodLink RX11 122 arraycopyName) ∈ WA := wa_mem (tb5 (List.mem_of_getElem? (i := 61) rfl)) rfl
theorem w1117 : (Cond.static arraycopyName) ∈ WA := wa_mem (tb5 (List.mem_of_getElem? (i := 62) rfl)) rfl
theorem w1118 : (Cond.native arraycopyName) ∈ WA := wa_mem (tb5 (List.mem_of_getElem? (i := 63) rfl)) rfl
theorem w1119 : (Cond.methodLink RX11 128 yX5_forget) ∈ WA := wa_mem (tb5 (List.mem_of_getElem? (i := 64) rfl)) rfl
theorem w1123 : (Cond.methodLink RX11 119 yX2_total) ∈ WA := wa_mem (tb5 (List.mem_of_getElem? (i := 68) rfl)) rfl
theorem w1128 : (Cond.methodLink RX11 131 yX1_faultNumber) ∈ WA := wa_mem (tb5 (List.mem_of_getElem? (i := 73) rfl)) rfl
theorem w1132 : (Cond.methodLink RX11 134 yX1_faultPlace) ∈ WA := wa_mem (tb5 (List.mem_of_getElem? (i := 77) rfl)) rfl
theorem w1140 : (Cond.methodLink RX11 137 yX2_has) ∈ WA := wa_mem (tb5 (List.mem_of_getElem? (i := 85) rfl)) rfl
theorem w1141 : (Cond.methodLink RX11 141 yX2_tagOf) ∈ WA := wa_mem (tb5 (List.mem_of_getElem? (i := 86) rfl)) rfl
theorem w1145 : (Cond.methodLink RX11 145 yX2_parentOf) ∈ WA := wa_mem (tb5 (List.mem_of_getElem? (i := 90) rfl)) rfl
theorem w1149 : (Cond.methodLink RX11 149 yX2_unitOf) ∈ WA := wa_mem (tb5 (List.mem_of_getElem? (i := 94) rfl)) rfl
theorem w1150 : (Cond.methodLink RX11 152 yX2_originOf) ∈ WA := wa_mem (tb5 (List.mem_of_getElem? (i := 95) rfl)) rfl
theorem w1154 : (Cond.methodLink RX11 155 yX2_rangeTotalOf) ∈ WA := wa_mem (tb5 (List.mem_of_getElem? (i := 99) rfl)) rfl
theorem w1158 : (Cond.methodLink RX11 158 yX2_placeOf) ∈ WA := wa_mem (tb5 (List.mem_of_getElem? (i := 103) rfl)) rfl
theorem w1159 : (Cond.methodLink RX11 161 yX2_namedFor) ∈ WA := wa_mem (tb5 (List.mem_of_getElem? (i := 104) rfl)) rfl
theorem w1163 : (Cond.methodLink RX2 87 yX2_originOf) ∈ WA := wa_mem (tb5 (List.mem_of_getElem? (i := 108) rfl)) rfl
theorem w1164 : (Cond.methodLink RX11 164 yX2_nameLengthOf) ∈ WA := wa_mem (tb5 (List.mem_of_getElem? (i := 109) rfl)) rfl
theorem w1168 : (Cond.methodLink RX11 169 yX2_valueOr) ∈ WA := wa_mem (tb5 (List.mem_of_getElem? (i := 113) rfl)) rfl
theorem w1173 : (Cond.methodLink RX11 173 yX3_entryHolds) ∈ WA := wa_mem (tb5 (List.mem_of_getElem? (i := 118) rfl)) rfl
theorem w1177 : (Cond.methodLink RX3 46 yX2_has) ∈ WA := wa_mem (tb5 (List.mem_of_getElem? (i := 122) rfl)) rfl
theorem w1178 : (Cond.methodLink RX3 50 yX2_firstRangeOf) ∈ WA := wa_mem (tb5 (List.mem_of_getElem? (i := 123) rfl)) rfl
theorem w1182 : (Cond.methodLink RX3 54 yX2_rangeTotalOf) ∈ WA := wa_mem (tb5 (List.mem_of_getElem? (i := 127) rfl)) rfl
theorem w1183 : (Cond.methodLink RX3 57 yX6_oneHolds) ∈ WA := wa_mem (tb5 (List.mem_of_getElem? (i := 128) rfl)) rfl
theorem w1192 : (Cond.methodLink RX11 177 yX4_has) ∈ WA := wa_mem (tb5 (List.mem_of_getElem? (i := 137) rfl)) rfl
theorem w1196 : (Cond.methodLink RX11 178 yX4_unitOf) ∈ WA := wa_mem (tb5 (List.mem_of_getElem? (i := 141) rfl)) rfl
theorem w1200 : (Cond.methodLink RX11 179 yX4_fileOf) ∈ WA := wa_mem (tb5 (List.mem_of_getElem? (i := 145) rfl)) rfl
theorem w1204 : (Cond.methodLink RX11 182 yX4_lineOf) ∈ WA := wa_mem (tb5 (List.mem_of_getElem? (i := 149) rfl)) rfl
theorem w1208 : (Cond.methodLink RX11 185 yX4_endsAt) ∈ WA := wa_mem (tb5 (List.mem_of_getElem? (i := 153) rfl)) rfl
theorem w1216 : (Cond.methodLink RX11 188 yX4_addressOf) ∈ WA := wa_mem (tb5 (List.mem_of_getElem? (i := 161) rfl)) rfl
theorem w1224 : (Cond.methodLink RX11 191 yX5_seek) ∈ WA := wa_mem (tb5 (List.mem_of_getElem? (i := 169) rfl)) rfl
theorem w1228 : (Cond.methodLink RX5 25 yX5_forget) ∈ WA := wa_mem (tb5 (List.mem_of_getElem? (i := 173) rfl)) rfl
theorem w1229 : (Cond.methodLink RX5 28 yX3_functionHolding) ∈ WA := wa_mem (tb5 (List.mem_of_getElem? (i := 174) rfl)) rfl
theorem w1233 : (Cond.methodLink RX3 61 yX2_total) ∈ WA := wa_mem (tb5 (List.mem_of_getElem? (i := 178) rfl)) rfl
theorem w1234 : (Cond.methodLink RX3 65 yX2_tagOf) ∈ WA := wa_mem (tb5 (List.mem_of_getElem? (i := 179) rfl)) rfl
theorem w1235 : (Cond.constantLong RX3 69 (46)) ∈ WA := wa_mem (tb5 (List.mem_of_getElem? (i := 180) rfl)) rfl
theorem w1236 : (Cond.methodLink RX3 71 yX3_entryHolds) ∈ WA := wa_mem (tb5 (List.mem_of_getElem? (i := 181) rfl)) rfl
theorem w1237 : (Cond.methodLink RX5 38 yX2_tagOf) ∈ WA := wa_mem (tb5 (List.mem_of_getElem? (i := 182) rfl)) rfl
theorem w1238 : (Cond.constantLong RX5 44 (11)) ∈ WA := wa_mem (tb5 (List.mem_of_getElem? (i := 183) rfl)) rfl
theorem w1240 : (Cond.methodLink RX5 50 yX3_childHolding) ∈ WA := wa_mem (tb5 (List.mem_of_getElem? (i := 185) rfl)) rfl
theorem w1244 : (Cond.constantLong RX3 75 (11)) ∈ WA := wa_mem (tb5 (List.mem_of_getElem? (i := 189) rfl)) rfl
theorem w1245 : (Cond.constantLong RX3 77 (29)) ∈ WA := wa_mem (tb5 (List.mem_of_getElem? (i := 190) rfl)) rfl
theorem w1246 : (Cond.methodLink RX3 79 yX2_parentOf) ∈ WA := wa_mem (tb5 (List.mem_of_getElem? (i := 191) rfl)) rfl
theorem w1247 : (Cond.methodLink RX5 58 yX5_entryOf) ∈ WA := wa_mem (tb5 (List.mem_of_getElem? (i := 192) rfl)) rfl
theorem w1252 : (Cond.methodLink RX5 62 yX2_unitOf) ∈ WA := wa_mem (tb5 (List.mem_of_getElem? (i := 197) rfl)) rfl
theorem w1253 : (Cond.methodLink RX5 65 yX4_governing) ∈ WA := wa_mem (tb5 (List.mem_of_getElem? (i := 198) rfl)) rfl
theorem w1257 : (Cond.methodLink RX4 269 yX4_unitOf) ∈ WA := wa_mem (tb5 (List.mem_of_getElem? (i := 202) rfl)) rfl
theorem w1258 : (Cond.methodLink RX4 272 yX4_endsAt) ∈ WA := wa_mem (tb5 (List.mem_of_getElem? (i := 203) rfl)) rfl
theorem w1259 : (Cond.methodLink RX4 276 yX4_addressOf) ∈ WA := wa_mem (tb5 (List.mem_of_getElem? (i := 204) rfl)) rfl
theorem w1260 : (Cond.methodLink RX5 73 yX5_seekSymbol) ∈ WA := wa_mem (tb5 (List.mem_of_getElem? (i := 205) rfl)) rfl
theorem w1264 : (Cond.methodLink RX5 77 yX8_holding) ∈ WA := wa_mem (tb5 (List.mem_of_getElem? (i := 209) rfl)) rfl
theorem w1269 : (Cond.methodLink RX5 82 yX8_valueOf) ∈ WA := wa_mem (tb5 (List.mem_of_getElem? (i := 214) rfl)) rfl
theorem w1277 : (Cond.methodLink RX11 195 yX5_entryOf) ∈ WA := wa_mem (tb5 (List.mem_of_getElem? (i := 222) rfl)) rfl
theorem w1278 : (Cond.methodLink RX11 198 yX5_fileNumberOf) ∈ WA := wa_mem (tb5 (List.mem_of_getElem? (i := 223) rfl)) rfl
theorem w1282 : (Cond.methodLink RX5 92 yX2_valueOr) ∈ WA := wa_mem (tb5 (List.mem_of_getElem? (i := 227) rfl)) rfl
theorem w1283 : (Cond.methodLink RX5 96 yX4_fileOf) ∈ WA := wa_mem (tb5 (List.mem_of_getElem? (i := 228) rfl)) rfl
theorem w1284 : (Cond.methodLink RX11 202 yX5_lineNumberOf) ∈ WA := wa_mem (tb5 (List.mem_of_getElem? (i := 229) rfl)) rfl
theorem w1288 : (Cond.methodLink RX5 99 yX4_lineOf) ∈ WA := wa_mem (tb5 (List.mem_of_getElem? (i := 233) rfl)) rfl
theorem w1289 : (Cond.methodLink RX11 209 yX5_fileOf) ∈ WA := wa_mem (tb5 (List.mem_of_getElem? (i := 234) rfl)) rfl
theorem w1293 : (Cond.methodLink RX5 106 yX5_fileNumberOf) ∈ WA := wa_mem (tb5 (List.mem_of_getElem? (i := 238) rfl)) rfl
theorem w1294 : (Cond.methodLink RX5 110 yX10_fileOf) ∈ WA := wa_mem (tb5 (List.mem_of_getElem? (i := 239) rfl)) rfl
theorem w1298 : (Cond.methodLink RX11 211 yX10_fileLengthOf) ∈ WA := wa_mem (tb6 (List.mem_of_getElem? (i := 3) rfl)) rfl
theorem w1306 : (Cond.methodLink RX11 216 yX5_symbolFound) ∈ WA := wa_mem (tb6 (List.mem_of_getElem? (i := 11) rfl)) rfl
theorem w1310 : (Cond.methodLink RX11 219 yX8_namePlaceOf) ∈ WA := wa_mem (tb6 (List.mem_of_getElem? (i := 15) rfl)) rfl
theorem w1315 : (Cond.methodLink RX11 222 yX8_nameLengthOf) ∈ WA := wa_mem (tb6 (List.mem_of_getElem? (i := 20) rfl)) rfl
theorem w1319 : (Cond.methodLink RX11 223 yX11_sign) ∈ WA := wa_mem (tb6 (List.mem_of_getElem? (i := 24) rfl)) rfl
theorem w1323 : (Cond.methodLink RX11 227 yX2_namePlaceOf) ∈ WA := wa_mem (tb6 (List.mem_of_getElem? (i := 28) rfl)) rfl
theorem w1331 : (Cond.methodLink RX11 228 yX10_filePlaceOf) ∈ WA := wa_mem (tb6 (List.mem_of_getElem? (i := 36) rfl)) rfl
theorem w1339 : (Cond.methodLink RX11 231 yX5_aboveSymbol) ∈ WA := wa_mem (tb6 (List.mem_of_getElem? (i := 44) rfl)) rfl
theorem w1347 : (Cond.methodLink RX11 234 yX8_total) ∈ WA := wa_mem (tb6 (List.mem_of_getElem? (i := 52) rfl)) rfl
theorem w1351 : (Cond.methodLink RX11 235 yX10_total) ∈ WA := wa_mem (tb6 (List.mem_of_getElem? (i := 56) rfl)) rfl
theorem w1352 : (Cond.methodLink RX11 236 yX6_total) ∈ WA := wa_mem (tb6 (List.mem_of_getElem? (i := 57) rfl)) rfl
theorem w1356 : (Cond.methodLink RX11 237 yX4_total) ∈ WA := wa_mem (tb6 (List.mem_of_getElem? (i := 61) rfl)) rfl
theorem w1360 : (Cond.methodLink RX11 238 yX10_fileTotal) ∈ WA := wa_mem (tb6 (List.mem_of_getElem? (i := 65) rfl)) rfl
theorem w1367 : (Cond.fieldLink RX12 9 "AddressNamerModel" "tape" "[I") ∈ WA := wa_mem (tb6 (List.mem_of_getElem? (i := 72) rfl)) rfl
theorem w1368 : (Cond.fieldLink RX12 232 "AddressNamerModel" "taped" "I") ∈ WA := wa_mem (tb6 (List.mem_of_getElem? (i := 73) rfl)) rfl
theorem w1369 : (Cond.fieldLink RX12 235 "AddressNamerModel" "fault" "I") ∈ WA := wa_mem (tb6 (List.mem_of_getElem? (i := 74) rfl)) rfl
theorem w1370 : (Cond.fieldLink RX12 238 "AddressNamerModel" "place" "I") ∈ WA := wa_mem (tb6 (List.mem_of_getElem? (i := 75) rfl)) rfl
theorem w1371 : (Cond.fieldLink RX12 498 "AddressNamerModel" "toldFault" "I") ∈ WA := wa_mem (tb6 (List.mem_of_getElem? (i := 76) rfl)) rfl
theorem w1372 : (Cond.fieldLink RX12 13 "AddressNamerModel" "toldPlace" "I") ∈ WA := wa_mem (tb6 (List.mem_of_getElem? (i := 77) rfl)) rfl
theorem w1373 : (Cond.fieldLink RX12 17 "AddressNamerModel" "work" "I") ∈ WA := wa_mem (tb6 (List.mem_of_getElem? (i := 78) rfl)) rfl
theorem w1374 : (Cond.fieldLink RX12 501 "AddressNamerModel" "told" "I") ∈ WA := wa_mem (tb6 (List.mem_of_getElem? (i := 79) rfl)) rfl
theorem w1375 : (Cond.fieldLink RX12 20 "AddressNamerModel" "bytes" "[I") ∈ WA := wa_mem (tb6 (List.mem_of_getElem? (i := 80) rfl)) rfl
theorem w1376 : (Cond.fieldLink RX12 281 "AddressNamerModel" "size" "I") ∈ WA := wa_mem (tb6 (List.mem_of_getElem? (i := 81) rfl)) rfl
theorem w1377 : (Cond.fieldLink RX12 23 "AddressNamerModel" "sectionMany" "[I") ∈ WA := wa_mem (tb6 (List.mem_of_getElem? (i := 82) rfl)) rfl
theorem w1378 : (Cond.fieldLink RX12 26 "AddressNamerModel" "symbolMany" "[I") ∈ WA := wa_mem (tb6 (List.mem_of_getElem? (i := 83) rfl)) rfl
theorem w1379 : (Cond.fieldLink RX12 29 "AddressNamerModel" "unitMany" "[I") ∈ WA := wa_mem (tb6 (List.mem_of_getElem? (i := 84) rfl)) rfl
theorem w1380 : (Cond.fieldLink RX12 32 "AddressNamerModel" "entryMany" "[I") ∈ WA := wa_mem (tb6 (List.mem_of_getElem? (i := 85) rfl)) rfl
theorem w1381 : (Cond.fieldLink RX12 35 "AddressNamerModel" "rangeMany" "[I") ∈ WA := wa_mem (tb6 (List.mem_of_getElem? (i := 86) rfl)) rfl
theorem w1382 : (Cond.fieldLink RX12 38 "AddressNamerModel" "rowMany" "[I") ∈ WA := wa_mem (tb6 (List.mem_of_getElem? (i := 87) rfl)) rfl
theorem w1383 : (Cond.fieldLink RX12 41 "AddressNamerModel" "fileMany" "[I") ∈ WA := wa_mem (tb6 (List.mem_of_getElem? (i := 88) rfl)) rfl
theorem w1384 : (Cond.fieldLink RX12 44 "AddressNamerModel" "secAt" "[I") ∈ WA := wa_mem (tb6 (List.mem_of_getElem? (i := 89) rfl)) rfl
theorem w1385 : (Cond.fieldLink RX12 47 "AddressNamerModel" "secSize" "[I") ∈ WA := wa_mem (tb6 (List.mem_of_getElem? (i := 90) rfl)) rfl
theorem w1386 : (Cond.fieldLink RX12 50 "AddressNamerModel" "secName" "[I") ∈ WA := wa_mem (tb6 (List.mem_of_getElem? (i := 91) rfl)) rfl
theorem w1387 : (Cond.fieldLink RX12 53 "AddressNamerModel" "ownAt" "[I") ∈ WA := wa_mem (tb6 (List.mem_of_getElem? (i := 92) rfl)) rfl
theorem w1388 : (Cond.fieldLink RX12 56 "AddressNamerModel" "ownSize" "[I") ∈ WA := wa_mem (tb6 (List.mem_of_getElem? (i := 93) rfl)) rfl
theorem w1389 : (Cond.fieldLink RX12 59 "AddressNamerModel" "wanted" "[I") ∈ WA := wa_mem (tb6 (List.mem_of_getElem? (i := 94) rfl)) rfl
theorem w1390 : (Cond.fieldLink RX12 62 "AddressNamerModel" "magic" "[I") ∈ WA := wa_mem (tb6 (List.mem_of_getElem? (i := 95) rfl)) rfl
theorem w1391 : (Cond.fieldLink RX12 65 "AddressNamerModel" "symValue" "[J") ∈ WA := wa_mem (tb6 (List.mem_of_getElem? (i := 96) rfl)) rfl
theorem w1392 : (Cond.fieldLink RX12 69 "AddressNamerModel" "symSize" "[J") ∈ WA := wa_mem (tb6 (List.mem_of_getElem? (i := 97) rfl)) rfl
theorem w1393 : (Cond.fieldLink RX12 72 "AddressNamerModel" "symName" "[I") ∈ WA := wa_mem (tb6 (List.mem_of_getElem? (i := 98) rfl)) rfl
theorem w1394 : (Cond.fieldLink RX12 75 "AddressNamerModel" "symLong" "[I") ∈ WA := wa_mem (tb6 (List.mem_of_getElem? (i := 99) rfl)) rfl
theorem w1395 : (Cond.fieldLink RX12 78 "AddressNamerModel" "unitAt" "[I") ∈ WA := wa_mem (tb6 (List.mem_of_getElem? (i := 100) rfl)) rfl
theorem w1396 : (Cond.fieldLink RX12 81 "AddressNamerModel" "unitFirst" "[I") ∈ WA := wa_mem (tb6 (List.mem_of_getElem? (i := 101) rfl)) rfl
theorem w1397 : (Cond.fieldLink RX12 84 "AddressNamerModel" "unitFiles" "[I") ∈ WA := wa_mem (tb6 (List.mem_of_getElem? (i := 102) rfl)) rfl
theorem w1398 : (Cond.fieldLink RX12 87 "AddressNamerModel" "unitFileMany" "[I") ∈ WA := wa_mem (tb6 (List.mem_of_getElem? (i := 103) rfl)) rfl
theorem w1399 : (Cond.fieldLink RX12 90 "AddressNamerModel" "hasLines" "[Z") ∈ WA := wa_mem (tb6 (List.mem_of_getElem? (i := 104) rfl)) rfl
theorem w1400 : (Cond.fieldLink RX12 94 "AddressNamerModel" "linesAt" "[J") ∈ WA := wa_mem (tb6 (List.mem_of_getElem? (i := 105) rfl)) rfl
theorem w1401 : (Cond.fieldLink RX12 325 "AddressNamerModel" "codes" "I") ∈ WA := wa_mem (tb6 (List.mem_of_getElem? (i := 106) rfl)) rfl
theorem w1402 : (Cond.fieldLink RX12 97 "AddressNamerModel" "abCode" "[J") ∈ WA := wa_mem (tb6 (List.mem_of_getElem? (i := 107) rfl)) rfl
theorem w1403 : (Cond.fieldLink RX12 100 "AddressNamerModel" "abTag" "[J") ∈ WA := wa_mem (tb6 (List.mem_of_getElem? (i := 108) rfl)) rfl
theorem w1404 : (Cond.fieldLink RX12 103 "AddressNamerModel" "abChildren" "[Z") ∈ WA := wa_mem (tb6 (List.mem_of_getElem? (i := 109) rfl)) rfl
theorem w1405 : (Cond.fieldLink RX12 106 "AddressNamerModel" "abPairs" "[I") ∈ WA := wa_mem (tb6 (List.mem_of_getElem? (i := 110) rfl)) rfl
theorem w1406 : (Cond.fieldLink RX12 109 "AddressNamerModel" "abAttribute" "[J") ∈ WA := wa_mem (tb6 (List.mem_of_getElem? (i := 111) rfl)) rfl
theorem w1407 : (Cond.fieldLink RX12 112 "AddressNamerModel" "abForm" "[I") ∈ WA := wa_mem (tb6 (List.mem_of_getElem? (i := 112) rfl)) rfl
theorem w1408 : (Cond.fieldLink RX12 115 "AddressNamerModel" "abValue" "[J") ∈ WA := wa_mem (tb6 (List.mem_of_getElem? (i := 113) rfl)) rfl
theorem w1409 : (Cond.fieldLink RX12 118 "AddressNamerModel" "enTag" "[J") ∈ WA := wa_mem (tb6 (List.mem_of_getElem? (i := 114) rfl)) rfl
theorem w1410 : (Cond.fieldLink RX12 121 "AddressNamerModel" "enParent" "[I") ∈ WA := wa_mem (tb6 (List.mem_of_getElem? (i := 115) rfl)) rfl
theorem w1411 : (Cond.fieldLink RX12 124 "AddressNamerModel" "enUnit" "[I") ∈ WA := wa_mem (tb6 (List.mem_of_getElem? (i := 116) rfl)) rfl
theorem w1412 : (Cond.fieldLink RX12 127 "AddressNamerModel" "enOrigin" "[I") ∈ WA := wa_mem (tb6 (List.mem_of_getElem? (i := 117) rfl)) rfl
theorem w1413 : (Cond.fieldLink RX12 130 "AddressNamerModel" "enPlace" "[I") ∈ WA := wa_mem (tb6 (List.mem_of_getElem? (i := 118) rfl)) rfl
theorem w1414 : (Cond.fieldLink RX12 133 "AddressNamerModel" "enName" "[I") ∈ WA := wa_mem (tb6 (List.mem_of_getElem? (i := 119) rfl)) rfl
theorem w1415 : (Cond.fieldLink RX12 136 "AddressNamerModel" "enLong" "[I") ∈ WA := wa_mem (tb6 (List.mem_of_getElem? (i := 120) rfl)) rfl
theorem w1416 : (Cond.fieldLink RX12 139 "AddressNamerModel" "enFile" "[I") ∈ WA := wa_mem (tb6 (List.mem_of_getElem? (i := 121) rfl)) rfl
theorem w1417 : (Cond.fieldLink RX12 142 "AddressNamerModel" "enLine" "[I") ∈ WA := wa_mem (tb6 (List.mem_of_getElem? (i := 122) rfl)) rfl
theorem w1418 : (Cond.fieldLink RX12 145 "AddressNamerModel" "hasFile" "[Z") ∈ WA := wa_mem (tb6 (List.mem_of_getElem? (i := 123) rfl)) rfl
theorem w1419 : (Cond.fieldLink RX12 148 "AddressNamerModel" "hasLine" "[Z") ∈ WA := wa_mem (tb6 (List.mem_of_getElem? (i := 124) rfl)) rfl
theorem w1420 : (Cond.fieldLink RX12 151 "AddressNamerModel" "hasLow" "[Z") ∈ WA := wa_mem (tb6 (List.mem_of_getElem? (i := 125) rfl)) rfl
theorem w1421 : (Cond.fieldLink RX12 154 "AddressNamerModel" "hasHigh" "[Z") ∈ WA := wa_mem (tb6 (List.mem_of_getElem? (i := 126) rfl)) rfl
theorem w1422 : (Cond.fieldLink RX12 157 "AddressNamerModel" "isMore" "[Z") ∈ WA := wa_mem (tb6 (List.mem_of_getElem? (i := 127) rfl)) rfl
theorem w1423 : (Cond.fieldLink RX12 160 "AddressNamerModel" "hasRanges" "[Z") ∈ WA := wa_mem (tb6 (List.mem_of_getElem? (i := 128) rfl)) rfl
theorem w1424 : (Cond.fieldLink RX12 163 "AddressNamerModel" "enLow" "[J") ∈ WA := wa_mem (tb6 (List.mem_of_getElem? (i := 129) rfl)) rfl
theorem w1425 : (Cond.fieldLink RX12 166 "AddressNamerModel" "enHigh" "[J") ∈ WA := wa_mem (tb6 (List.mem_of_getElem? (i := 130) rfl)) rfl
theorem w1426 : (Cond.fieldLink RX12 169 "AddressNamerModel" "enRanges" "[J") ∈ WA := wa_mem (tb6 (List.mem_of_getElem? (i := 131) rfl)) rfl
theorem w1427 : (Cond.fieldLink RX12 316 "AddressNamerModel" "references" "I") ∈ WA := wa_mem (tb6 (List.mem_of_getElem? (i := 132) rfl)) rfl
theorem w1428 : (Cond.fieldLink RX12 172 "AddressNamerModel" "refAt" "[I") ∈ WA := wa_mem (tb6 (List.mem_of_getElem? (i := 133) rfl)) rfl
theorem w1429 : (Cond.fieldLink RX12 175 "AddressNamerModel" "refTo" "[J") ∈ WA := wa_mem (tb6 (List.mem_of_getElem? (i := 134) rfl)) rfl
theorem w1430 : (Cond.fieldLink RX12 178 "AddressNamerModel" "refOf" "[I") ∈ WA := wa_mem (tb6 (List.mem_of_getElem? (i := 135) rfl)) rfl
theorem w1431 : (Cond.fieldLink RX12 181 "AddressNamerModel" "refKind" "[I") ∈ WA := wa_mem (tb6 (List.mem_of_getElem? (i := 136) rfl)) rfl
theorem w1432 : (Cond.fieldLink RX12 184 "AddressNamerModel" "path" "[I") ∈ WA := wa_mem (tb6 (List.mem_of_getElem? (i := 137) rfl)) rfl
theorem w1433 : (Cond.fieldLink RX12 359 "AddressNamerModel" "deep" "I") ∈ WA := wa_mem (tb6 (List.mem_of_getElem? (i := 138) rfl)) rfl
theorem w1434 : (Cond.fieldLink RX12 187 "AddressNamerModel" "raEntry" "[I") ∈ WA := wa_mem (tb6 (List.mem_of_getElem? (i := 139) rfl)) rfl
theorem w1435 : (Cond.fieldLink RX12 190 "AddressNamerModel" "raLow" "[J") ∈ WA := wa_mem (tb6 (List.mem_of_getElem? (i := 140) rfl)) rfl
theorem w1436 : (Cond.fieldLink RX12 193 "AddressNamerModel" "raHigh" "[J") ∈ WA := wa_mem (tb6 (List.mem_of_getElem? (i := 141) rfl)) rfl
theorem w1437 : (Cond.fieldLink RX12 196 "AddressNamerModel" "roUnit" "[I") ∈ WA := wa_mem (tb6 (List.mem_of_getElem? (i := 142) rfl)) rfl
theorem w1438 : (Cond.fieldLink RX12 199 "AddressNamerModel" "roAt" "[J") ∈ WA := wa_mem (tb6 (List.mem_of_getElem? (i := 143) rfl)) rfl
theorem w1439 : (Cond.fieldLink RX12 202 "AddressNamerModel" "roFile" "[I") ∈ WA := wa_mem (tb6 (List.mem_of_getElem? (i := 144) rfl)) rfl
theorem w1440 : (Cond.fieldLink RX12 205 "AddressNamerModel" "roLine" "[I") ∈ WA := wa_mem (tb6 (List.mem_of_getElem? (i := 145) rfl)) rfl
theorem w1441 : (Cond.fieldLink RX12 208 "AddressNamerModel" "roEnds" "[Z") ∈ WA := wa_mem (tb6 (List.mem_of_getElem? (i := 146) rfl)) rfl
theorem w1442 : (Cond.fieldLink RX12 211 "AddressNamerModel" "fiName" "[I") ∈ WA := wa_mem (tb6 (List.mem_of_getElem? (i := 147) rfl)) rfl
theorem w1443 : (Cond.fieldLink RX12 214 "AddressNamerModel" "fiLong" "[I") ∈ WA := wa_mem (tb6 (List.mem_of_getElem? (i := 148) rfl)) rfl
theorem w1444 : (Cond.fieldLink RX12 249 "AddressNamerModel" "at" "I") ∈ WA := wa_mem (tb6 (List.mem_of_getElem? (i := 149) rfl)) rfl
theorem w1445 : (Cond.fieldLink RX12 252 "AddressNamerModel" "limit" "I") ∈ WA := wa_mem (tb6 (List.mem_of_getElem? (i := 150) rfl)) rfl
theorem w1446 : (Cond.fieldLink RX12 434 "AddressNamerModel" "least" "I") ∈ WA := wa_mem (tb6 (List.mem_of_getElem? (i := 151) rfl)) rfl
theorem w1447 : (Cond.fieldLink RX12 437 "AddressNamerModel" "base" "I") ∈ WA := wa_mem (tb6 (List.mem_of_getElem? (i := 152) rfl)) rfl
theorem w1448 : (Cond.fieldLink RX12 440 "AddressNamerModel" "spread" "I") ∈ WA := wa_mem (tb6 (List.mem_of_getElem? (i := 153) rfl)) rfl
theorem w1449 : (Cond.fieldLink RX12 443 "AddressNamerModel" "opcodes" "I") ∈ WA := wa_mem (tb6 (List.mem_of_getElem? (i := 154) rfl)) rfl
theorem w1450 : (Cond.fieldLink RX12 217 "AddressNamerModel" "counts" "[I") ∈ WA := wa_mem (tb6 (List.mem_of_getElem? (i := 155) rfl)) rfl
theorem w1451 : (Cond.fieldLink RX12 449 "AddressNamerModel" "address" "J") ∈ WA := wa_mem (tb6 (List.mem_of_getElem? (i := 156) rfl)) rfl
theorem w1452 : (Cond.fieldLink RX12 453 "AddressNamerModel" "file" "J") ∈ WA := wa_mem (tb6 (List.mem_of_getElem? (i := 157) rfl)) rfl
theorem w1453 : (Cond.fieldLink RX12 456 "AddressNamerModel" "line" "J") ∈ WA := wa_mem (tb6 (List.mem_of_getElem? (i := 158) rfl)) rfl
theorem w1454 : (Cond.fieldLink RX12 463 "AddressNamerModel" "ahead" "J") ∈ WA := wa_mem (tb6 (List.mem_of_getElem? (i := 159) rfl)) rfl
theorem w1455 : (Cond.fieldLink RX12 459 "AddressNamerModel" "isGoing" "Z") ∈ WA := wa_mem (tb6 (List.mem_of_getElem? (i := 160) rfl)) rfl
theorem w1456 : (Cond.fieldLink RX12 504 "AddressNamerModel" "chain" "I") ∈ WA := wa_mem (tb6 (List.mem_of_getElem? (i := 161) rfl)) rfl
theorem w1457 : (Cond.fieldLink RX12 220 "AddressNamerModel" "chainOf" "[I") ∈ WA := wa_mem (tb6 (List.mem_of_getElem? (i := 162) rfl)) rfl
theorem w1458 : (Cond.fieldLink RX12 223 "AddressNamerModel" "chainFile" "[I") ∈ WA := wa_mem (tb6 (List.mem_of_getElem? (i := 163) rfl)) rfl
theorem w1459 : (Cond.fieldLink RX12 226 "AddressNamerModel" "chainLine" "[I") ∈ WA := wa_mem (tb6 (List.mem_of_getElem? (i := 164) rfl)) rfl
theorem w1460 : (Cond.fieldLink RX12 229 "AddressNamerModel" "symbol" "I") ∈ WA := wa_mem (tb6 (List.mem_of_getElem? (i := 165) rfl)) rfl
theorem w1461 : (Cond.fieldLink RX12 539 "AddressNamerModel" "symbolBy" "I") ∈ WA := wa_mem (tb6 (List.mem_of_getElem? (i := 166) rfl)) rfl
theorem w1670 : (Cond.methodLink RX12 483 yX12_header) ∈ WA := wa_mem (tb7 (List.mem_of_getElem? (i := 135) rfl)) rfl
theorem w1674 : (Cond.methodLink RX12 241 yX12_byteOf) ∈ WA := wa_mem (tb7 (List.mem_of_getElem? (i := 139) rfl)) rfl
theorem w1678 : (Cond.methodLink RX12 255 yX12_fail) ∈ WA := wa_mem (tb7 (List.mem_of_getElem? (i := 143) rfl)) rfl
theorem w1682 : (Cond.methodLink RX12 245 yX12_isRight) ∈ WA := wa_mem (tb7 (List.mem_of_getElem? (i := 147) rfl)) rfl
theorem w1686 : (Cond.methodLink RX12 259 yX12_numberAt) ∈ WA := wa_mem (tb7 (List.mem_of_getElem? (i := 151) rfl)) rfl
theorem w1690 : (Cond.constantLong RX12 284 (64)) ∈ WA := wa_mem (tb7 (List.mem_of_getElem? (i := 155) rfl)) rfl
theorem w1691 : (Cond.methodLink RX12 286 yX12_section) ∈ WA := wa_mem (tb7 (List.mem_of_getElem? (i := 156) rfl)) rfl
theorem w1695 : (Cond.constantLong RX12 293 (8)) ∈ WA := wa_mem (tb7 (List.mem_of_getElem? (i := 160) rfl)) rfl
theorem w1696 : (Cond.methodLink RX12 269 yX12_stringAt) ∈ WA := wa_mem (tb7 (List.mem_of_getElem? (i := 161) rfl)) rfl
theorem w1700 : (Cond.methodLink RX12 289 yX12_isNamed) ∈ WA := wa_mem (tb7 (List.mem_of_getElem? (i := 165) rfl)) rfl
theorem w1704 : (Cond.methodLink RX12 486 yX12_symbols) ∈ WA := wa_mem (tb7 (List.mem_of_getElem? (i := 169) rfl)) rfl
theorem w1708 : (Cond.methodLink RX12 295 yX12_matter) ∈ WA := wa_mem (tb7 (List.mem_of_getElem? (i := 173) rfl)) rfl
theorem w1712 : (Cond.methodLink RX12 299 yX12_endOf) ∈ WA := wa_mem (tb7 (List.mem_of_getElem? (i := 177) rfl)) rfl
theorem w1716 : (Cond.methodLink RX12 489 yX12_units) ∈ WA := wa_mem (tb7 (List.mem_of_getElem? (i := 181) rfl)) rfl
theorem w1720 : (Cond.methodLink RX12 304 yX12_lengthIn) ∈ WA := wa_mem (tb7 (List.mem_of_getElem? (i := 185) rfl)) rfl
theorem w1724 : (Cond.methodLink RX12 273 yX12_number) ∈ WA := wa_mem (tb7 (List.mem_of_getElem? (i := 189) rfl)) rfl
theorem w1728 : (Cond.constantLong RX12 302 (4294967280)) ∈ WA := wa_mem (tb7 (List.mem_of_getElem? (i := 193) rfl)) rfl
theorem w1729 : (Cond.methodLink RX12 307 yX12_unit) ∈ WA := wa_mem (tb7 (List.mem_of_getElem? (i := 194) rfl)) rfl
theorem w1733 : (Cond.methodLink RX12 310 yX12_must) ∈ WA := wa_mem (tb7 (List.mem_of_getElem? (i := 198) rfl)) rfl
theorem w1737 : (Cond.methodLink RX12 313 yX12_abbreviations) ∈ WA := wa_mem (tb7 (List.mem_of_getElem? (i := 202) rfl)) rfl
theorem w1741 : (Cond.methodLink RX12 277 yX12_uleb) ∈ WA := wa_mem (tb7 (List.mem_of_getElem? (i := 206) rfl)) rfl
theorem w1745 : (Cond.methodLink RX12 265 yX12_leb) ∈ WA := wa_mem (tb7 (List.mem_of_getElem? (i := 210) rfl)) rfl
theorem w1749 : (Cond.constantLong RX12 263 (-1)) ∈ WA := wa_mem (tb7 (List.mem_of_getElem? (i := 214) rfl)) rfl
theorem w1750 : (Cond.methodLink RX12 328 yX12_pairs) ∈ WA := wa_mem (tb7 (List.mem_of_getElem? (i := 215) rfl)) rfl
theorem w1754 : (Cond.methodLink RX12 355 yX12_isForm) ∈ WA := wa_mem (tb7 (List.mem_of_getElem? (i := 219) rfl)) rfl
theorem w1757 : (Cond.constantLong RX12 331 (11)) ∈ WA := wa_mem (tb7 (List.mem_of_getElem? (i := 222) rfl)) rfl
theorem w1758 : (Cond.constantLong RX12 333 (5)) ∈ WA := wa_mem (tb7 (List.mem_of_getElem? (i := 223) rfl)) rfl
theorem w1759 : (Cond.constantLong RX12 335 (6)) ∈ WA := wa_mem (tb7 (List.mem_of_getElem? (i := 224) rfl)) rfl
theorem w1760 : (Cond.constantLong RX12 337 (7)) ∈ WA := wa_mem (tb7 (List.mem_of_getElem? (i := 225) rfl)) rfl
theorem w1761 : (Cond.constantLong RX12 339 (15)) ∈ WA := wa_mem (tb7 (List.mem_of_getElem? (i := 226) rfl)) rfl
theorem w1762 : (Cond.constantLong RX12 341 (13)) ∈ WA := wa_mem (tb7 (List.mem_of_getElem? (i := 227) rfl)) rfl
theorem w1763 : (Cond.constantLong RX12 343 (14)) ∈ WA := wa_mem (tb7 (List.mem_of_getElem? (i := 228) rfl)) rfl
theorem w1764 : (Cond.constantLong RX12 345 (19)) ∈ WA := wa_mem (tb7 (List.mem_of_getElem? (i := 229) rfl)) rfl
theorem w1765 : (Cond.constantLong RX12 347 (23)) ∈ WA := wa_mem (tb7 (List.mem_of_getElem? (i := 230) rfl)) rfl
theorem w1766 : (Cond.constantLong RX12 349 (24)) ∈ WA := wa_mem (tb7 (List.mem_of_getElem? (i := 231) rfl)) rfl
theorem w1767 : (Cond.constantLong RX12 351 (25)) ∈ WA := wa_mem (tb7 (List.mem_of_getElem? (i := 232) rfl)) rfl
theorem w1768 : (Cond.constantLong RX12 353 (33)) ∈ WA := wa_mem (tb7 (List.mem_of_getElem? (i := 233) rfl)) rfl
theorem w1769 : (Cond.methodLink RX12 319 yX12_entries) ∈ WA := wa_mem (tb7 (List.mem_of_getElem? (i := 234) rfl)) rfl
theorem w1773 : (Cond.methodLink RX12 362 yX12_enters) ∈ WA := wa_mem (tb7 (List.mem_of_getElem? (i := 238) rfl)) rfl
theorem w1777 : (Cond.methodLink RX12 366 yX12_value) ∈ WA := wa_mem (tb8 (List.mem_of_getElem? (i := 2) rfl)) rfl
theorem w1781 : (Cond.methodLink RX12 370 yX12_string) ∈ WA := wa_mem (tb8 (List.mem_of_getElem? (i := 6) rfl)) rfl
theorem w1785 : (Cond.constantLong RX12 374 (3)) ∈ WA := wa_mem (tb8 (List.mem_of_getElem? (i := 10) rfl)) rfl
theorem w1786 : (Cond.methodLink RX12 376 yX12_names) ∈ WA := wa_mem (tb8 (List.mem_of_getElem? (i := 11) rfl)) rfl
theorem w1790 : (Cond.methodLink RX12 380 yX12_widthOf) ∈ WA := wa_mem (tb8 (List.mem_of_getElem? (i := 15) rfl)) rfl
theorem w1793 : (Cond.methodLink RX12 383 yX12_text) ∈ WA := wa_mem (tb8 (List.mem_of_getElem? (i := 18) rfl)) rfl
theorem w1797 : (Cond.methodLink RX12 387 yX12_refers) ∈ WA := wa_mem (tb8 (List.mem_of_getElem? (i := 22) rfl)) rfl
theorem w1801 : (Cond.constantLong RX12 393 (49)) ∈ WA := wa_mem (tb8 (List.mem_of_getElem? (i := 26) rfl)) rfl
theorem w1802 : (Cond.constantLong RX12 395 (71)) ∈ WA := wa_mem (tb8 (List.mem_of_getElem? (i := 27) rfl)) rfl
theorem w1803 : (Cond.methodLink RX12 390 yX12_matters) ∈ WA := wa_mem (tb8 (List.mem_of_getElem? (i := 28) rfl)) rfl
theorem w1807 : (Cond.constantLong RX12 397 (17)) ∈ WA := wa_mem (tb8 (List.mem_of_getElem? (i := 32) rfl)) rfl
theorem w1808 : (Cond.constantLong RX12 399 (18)) ∈ WA := wa_mem (tb8 (List.mem_of_getElem? (i := 33) rfl)) rfl
theorem w1809 : (Cond.constantLong RX12 401 (85)) ∈ WA := wa_mem (tb8 (List.mem_of_getElem? (i := 34) rfl)) rfl
theorem w1810 : (Cond.constantLong RX12 403 (88)) ∈ WA := wa_mem (tb8 (List.mem_of_getElem? (i := 35) rfl)) rfl
theorem w1811 : (Cond.constantLong RX12 405 (89)) ∈ WA := wa_mem (tb8 (List.mem_of_getElem? (i := 36) rfl)) rfl
theorem w1812 : (Cond.constantLong RX12 407 (16)) ∈ WA := wa_mem (tb8 (List.mem_of_getElem? (i := 37) rfl)) rfl
theorem w1813 : (Cond.methodLink RX12 322 yX12_resolves) ∈ WA := wa_mem (tb8 (List.mem_of_getElem? (i := 38) rfl)) rfl
theorem w1817 : (Cond.methodLink RX12 492 yX12_ranges) ∈ WA := wa_mem (tb8 (List.mem_of_getElem? (i := 42) rfl)) rfl
theorem w1821 : (Cond.methodLink RX12 409 yX12_range) ∈ WA := wa_mem (tb8 (List.mem_of_getElem? (i := 46) rfl)) rfl
theorem w1825 : (Cond.methodLink RX12 412 yX12_list) ∈ WA := wa_mem (tb8 (List.mem_of_getElem? (i := 50) rfl)) rfl
theorem w1829 : (Cond.methodLink RX12 415 yX12_spans) ∈ WA := wa_mem (tb8 (List.mem_of_getElem? (i := 54) rfl)) rfl
theorem w1833 : (Cond.methodLink RX12 495 yX12_lines) ∈ WA := wa_mem (tb8 (List.mem_of_getElem? (i := 58) rfl)) rfl
theorem w1837 : (Cond.methodLink RX12 419 yX12_table) ∈ WA := wa_mem (tb8 (List.mem_of_getElem? (i := 62) rfl)) rfl
theorem w1841 : (Cond.methodLink RX12 422 yX12_constants) ∈ WA := wa_mem (tb8 (List.mem_of_getElem? (i := 66) rfl)) rfl
theorem w1845 : (Cond.methodLink RX12 425 yX12_directories) ∈ WA := wa_mem (tb8 (List.mem_of_getElem? (i := 70) rfl)) rfl
theorem w1849 : (Cond.methodLink RX12 446 yX12_mustLeb) ∈ WA := wa_mem (tb8 (List.mem_of_getElem? (i := 74) rfl)) rfl
theorem w1853 : (Cond.methodLink RX12 428 yX12_files) ∈ WA := wa_mem (tb8 (List.mem_of_getElem? (i := 78) rfl)) rfl
theorem w1857 : (Cond.methodLink RX12 431 yX12_runs) ∈ WA := wa_mem (tb8 (List.mem_of_getElem? (i := 82) rfl)) rfl
theorem w1861 : (Cond.methodLink RX12 468 yX12_resets) ∈ WA := wa_mem (tb8 (List.mem_of_getElem? (i := 86) rfl)) rfl
theorem w1865 : (Cond.methodLink RX12 471 yX12_comes) ∈ WA := wa_mem (tb8 (List.mem_of_getElem? (i := 90) rfl)) rfl
theorem w1869 : (Cond.constantLong RX12 466 (1000000)) ∈ WA := wa_mem (tb8 (List.mem_of_getElem? (i := 94) rfl)) rfl
theorem w1870 : (Cond.methodLink RX12 475 yX12_extended) ∈ WA := wa_mem (tb8 (List.mem_of_getElem? (i := 95) rfl)) rfl
theorem w1874 : (Cond.constantLong RX12 481 (9)) ∈ WA := wa_mem (tb8 (List.mem_of_getElem? (i := 99) rfl)) rfl
theorem w1875 : (Cond.methodLink RX12 478 yX12_standard) ∈ WA := wa_mem (tb8 (List.mem_of_getElem? (i := 100) rfl)) rfl
theorem w1887 : (Cond.methodLink RX12 510 yX12_isEntry) ∈ WA := wa_mem (tb8 (List.mem_of_getElem? (i := 112) rfl)) rfl
theorem w1891 : (Cond.methodLink RX12 514 yX12_rangesOf) ∈ WA := wa_mem (tb8 (List.mem_of_getElem? (i := 116) rfl)) rfl
theorem w1895 : (Cond.methodLink RX12 517 yX12_signsOf) ∈ WA := wa_mem (tb8 (List.mem_of_getElem? (i := 120) rfl)) rfl
theorem w1899 : (Cond.methodLink RX12 507 yX12_named) ∈ WA := wa_mem (tb8 (List.mem_of_getElem? (i := 124) rfl)) rfl
theorem w1919 : (Cond.methodLink RX12 528 yX12_holder) ∈ WA := wa_mem (tb8 (List.mem_of_getElem? (i := 144) rfl)) rfl
theorem w1923 : (Cond.constantLong RX12 520 (46)) ∈ WA := wa_mem (tb8 (List.mem_of_getElem? (i := 148) rfl)) rfl
theorem w1924 : (Cond.constantLong RX12 522 (29)) ∈ WA := wa_mem (tb8 (List.mem_of_getElem? (i := 149) rfl)) rfl
theorem w1925 : (Cond.methodLink RX12 524 yX12_holds) ∈ WA := wa_mem (tb8 (List.mem_of_getElem? (i := 150) rfl)) rfl
theorem w1926 : (Cond.methodLink RX12 532 yX12_governs) ∈ WA := wa_mem (tb8 (List.mem_of_getElem? (i := 151) rfl)) rfl
theorem w1930 : (Cond.methodLink RX12 535 yX12_symbolOf) ∈ WA := wa_mem (tb8 (List.mem_of_getElem? (i := 155) rfl)) rfl
theorem w1938 : (Cond.methodLink RX12 542 yX12_fileOf) ∈ WA := wa_mem (tb8 (List.mem_of_getElem? (i := 163) rfl)) rfl
theorem w1946 : (Cond.methodLink RX12 545 yX12_sign) ∈ WA := wa_mem (tb8 (List.mem_of_getElem? (i := 171) rfl)) rfl
theorem w1963 : (Cond.fieldLink RJ0 9 "java/lang/String" "value" "[B") ∈ WA := wa_mem (tb8 (List.mem_of_getElem? (i := 188) rfl)) rfl
theorem w1964 : (Cond.fieldLink RJ0 15 "java/lang/String" "coder" "B") ∈ WA := wa_mem (tb8 (List.mem_of_getElem? (i := 189) rfl)) rfl
theorem w449 : (Cond.fieldLinkNest RX5 69 "AddressNamer$Image" "symbols" "LAddressNamer$Symbols;" "AddressNamer") ∈ lw_tbl := (tb2 (List.mem_of_getElem? (i := 114) rfl))
theorem w450 : (Cond.fieldLinkNest RX11 80 "AddressNamer$Image" "symbols" "LAddressNamer$Symbols;" "AddressNamer") ∈ lw_tbl := (tb2 (List.mem_of_getElem? (i := 115) rfl))
theorem w452 : (Cond.fieldLinkNest RX9 33 "AddressNamer$Image" "units" "LAddressNamer$Units;" "AddressNamer") ∈ lw_tbl := (tb2 (List.mem_of_getElem? (i := 117) rfl))
theorem w453 : (Cond.fieldLinkNest RX4 35 "AddressNamer$Image" "units" "LAddressNamer$Units;" "AddressNamer") ∈ lw_tbl := (tb2 (List.mem_of_getElem? (i := 118) rfl))
theorem w454 : (Cond.fieldLinkNest RX6 59 "AddressNamer$Image" "units" "LAddressNamer$Units;" "AddressNamer") ∈ lw_tbl := (tb2 (List.mem_of_getElem? (i := 119) rfl))
theorem w455 : (Cond.fieldLinkNest RX5 102 "AddressNamer$Image" "units" "LAddressNamer$Units;" "AddressNamer") ∈ lw_tbl := (tb2 (List.mem_of_getElem? (i := 120) rfl))
theorem w456 : (Cond.fieldLinkNest RX11 205 "AddressNamer$Image" "units" "LAddressNamer$Units;" "AddressNamer") ∈ lw_tbl := (tb2 (List.mem_of_getElem? (i := 121) rfl))
theorem w458 : (Cond.fieldLinkNest RX6 22 "AddressNamer$Image" "entries" "LAddressNamer$Entries;" "AddressNamer") ∈ lw_tbl := (tb2 (List.mem_of_getElem? (i := 123) rfl))
theorem w459 : (Cond.fieldLinkNest RX9 44 "AddressNamer$Image" "entries" "LAddressNamer$Entries;" "AddressNamer") ∈ lw_tbl := (tb2 (List.mem_of_getElem? (i := 124) rfl))
theorem w460 : (Cond.fieldLinkNest RX4 55 "AddressNamer$Image" "entries" "LAddressNamer$Entries;" "AddressNamer") ∈ lw_tbl := (tb2 (List.mem_of_getElem? (i := 125) rfl))
theorem w461 : (Cond.fieldLinkNest RX5 34 "AddressNamer$Image" "entries" "LAddressNamer$Entries;" "AddressNamer") ∈ lw_tbl := (tb2 (List.mem_of_getElem? (i := 126) rfl))
theorem w462 : (Cond.fieldLinkNest RX11 115 "AddressNamer$Image" "entries" "LAddressNamer$Entries;" "AddressNamer") ∈ lw_tbl := (tb2 (List.mem_of_getElem? (i := 127) rfl))
theorem w464 : (Cond.fieldLinkNest RX11 92 "AddressNamer$Image" "ranges" "LAddressNamer$Ranges;" "AddressNamer") ∈ lw_tbl := (tb2 (List.mem_of_getElem? (i := 129) rfl))
theorem w466 : (Cond.fieldLinkNest RX5 54 "AddressNamer$Image" "lines" "LAddressNamer$Lines;" "AddressNamer") ∈ lw_tbl := (tb2 (List.mem_of_getElem? (i := 131) rfl))
theorem w467 : (Cond.fieldLinkNest RX11 101 "AddressNamer$Image" "lines" "LAddressNamer$Lines;" "AddressNamer") ∈ lw_tbl := (tb2 (List.mem_of_getElem? (i := 132) rfl))
theorem w468 : (Cond.fieldLinkNest RX11 77 "AddressNamer$Image" "sectionTotal" "I" "AddressNamer") ∈ lw_tbl := (tb2 (List.mem_of_getElem? (i := 133) rfl))
theorem w549 : (Cond.fieldLinkNest RX7 48 "AddressNamer" "MAGIC" "[I" "AddressNamer") ∈ lw_tbl := (tb2 (List.mem_of_getElem? (i := 214) rfl))
theorem w582 : (Cond.methodLinkNest RX7 83 yX11_put "AddressNamer") ∈ lw_tbl := (tb3 (List.mem_of_getElem? (i := 7) rfl))
theorem w589 : (Cond.methodLinkNest RX7 87 yX11_at "AddressNamer") ∈ lw_tbl := (tb3 (List.mem_of_getElem? (i := 14) rfl))
theorem w689 : (Cond.methodLinkNest RX8 63 yX11_put_ "AddressNamer") ∈ lw_tbl := (tb3 (List.mem_of_getElem? (i := 114) rfl))
theorem w692 : (Cond.methodLinkNest RX8 67 yX11_put "AddressNamer") ∈ lw_tbl := (tb3 (List.mem_of_getElem? (i := 117) rfl))
theorem w760 : (Cond.methodLinkNest RX10 37 yX11_put "AddressNamer") ∈ lw_tbl := (tb3 (List.mem_of_getElem? (i := 185) rfl))
theorem w779 : (Cond.methodLinkNest RX0 91 yX11_at_ "AddressNamer") ∈ lw_tbl := (tb3 (List.mem_of_getElem? (i := 204) rfl))
theorem w784 : (Cond.methodLinkNest RX0 64 yX11_put_ "AddressNamer") ∈ lw_tbl := (tb3 (List.mem_of_getElem? (i := 209) rfl))
theorem w786 : (Cond.methodLinkNest RX0 72 yX11_put "AddressNamer") ∈ lw_tbl := (tb3 (List.mem_of_getElem? (i := 211) rfl))
theorem w795 : (Cond.methodLinkNest RX0 82 yX11_at "AddressNamer") ∈ lw_tbl := (tb3 (List.mem_of_getElem? (i := 220) rfl))
theorem w812 : (Cond.methodLinkNest RX9 140 yX11_at "AddressNamer") ∈ lw_tbl := (tb3 (List.mem_of_getElem? (i := 237) rfl))
theorem w821 : (Cond.methodLinkNest RX2 47 yX11_put_ "AddressNamer") ∈ lw_tbl := (tb4 (List.mem_of_getElem? (i := 6) rfl))
theorem w822 : (Cond.methodLinkNest RX2 51 yX11_put "AddressNamer") ∈ lw_tbl := (tb4 (List.mem_of_getElem? (i := 7) rfl))
theorem w857 : (Cond.methodLinkNest RX9 175 yX11_put "AddressNamer") ∈ lw_tbl := (tb4 (List.mem_of_getElem? (i := 42) rfl))
theorem w880 : (Cond.methodLinkNest RX2 54 yX11_at "AddressNamer") ∈ lw_tbl := (tb4 (List.mem_of_getElem? (i := 65) rfl))
theorem w935 : (Cond.methodLinkNest RX2 84 yX11_at_ "AddressNamer") ∈ lw_tbl := (tb4 (List.mem_of_getElem? (i := 120) rfl))
theorem w951 : (Cond.methodLinkNest RX6 117 yX11_put_ "AddressNamer") ∈ lw_tbl := (tb4 (List.mem_of_getElem? (i := 136) rfl))
theorem w952 : (Cond.methodLinkNest RX6 55 yX11_above "AddressNamer") ∈ lw_tbl := (tb4 (List.mem_of_getElem? (i := 137) rfl))
theorem w963 : (Cond.methodLinkNest RX10 41 yX11_at "AddressNamer") ∈ lw_tbl := (tb4 (List.mem_of_getElem? (i := 148) rfl))
theorem w1018 : (Cond.fieldLinkNest RX4 147 "AddressNamer" "STANDARD_OPERANDS" "[I" "AddressNamer") ∈ lw_tbl := (tb4 (List.mem_of_getElem? (i := 203) rfl))
theorem w1020 : (Cond.methodLinkNest RX4 150 yX11_at "AddressNamer") ∈ lw_tbl := (tb4 (List.mem_of_getElem? (i := 205) rfl))
theorem w1021 : (Cond.methodLinkNest RX4 154 yX11_put "AddressNamer") ∈ lw_tbl := (tb4 (List.mem_of_getElem? (i := 206) rfl))
theorem w1093 : (Cond.methodLinkNest RX4 258 yX11_at_ "AddressNamer") ∈ lw_tbl := (tb5 (List.mem_of_getElem? (i := 38) rfl))
theorem w1098 : (Cond.methodLinkNest RX4 264 yX11_put_ "AddressNamer") ∈ lw_tbl := (tb5 (List.mem_of_getElem? (i := 43) rfl))
theorem w1187 : (Cond.methodLinkNest RX6 121 yX11_at_ "AddressNamer") ∈ lw_tbl := (tb5 (List.mem_of_getElem? (i := 132) rfl))
theorem w1239 : (Cond.methodLinkNest RX5 46 yX11_put "AddressNamer") ∈ lw_tbl := (tb5 (List.mem_of_getElem? (i := 184) rfl))
theorem w1251 : (Cond.methodLinkNest RX5 88 yX11_at "AddressNamer") ∈ lw_tbl := (tb5 (List.mem_of_getElem? (i := 196) rfl))
theorem w1268 : (Cond.methodLinkNest RX8 74 yX11_at_ "AddressNamer") ∈ lw_tbl := (tb5 (List.mem_of_getElem? (i := 213) rfl))
theorem w1314 : (Cond.methodLinkNest RX8 70 yX11_at "AddressNamer") ∈ lw_tbl := (tb6 (List.mem_of_getElem? (i := 19) rfl))
theorem caJ0_charAt_5068e : CaV yJ0_charAt_5068e (.code yJ0_charAt_5068e cJ0_charAt_5068e 2 (some .char)) 1 := ⟨⟨(wa_mem (tb3 (List.mem_of_getElem? (i := 54) rfl)) rfl), (wa_mem (tb1 (List.mem_of_getElem? (i := 15) rfl)) rfl), by decide +kernel, by decide +kernel, by decide +kernel⟩, (wa_mem (tb3 (List.mem_of_getElem? (i := 52) rfl)) rfl), (wa_mem (tb3 (List.mem_of_getElem? (i := 53) rfl)) rfl)⟩
theorem caJ0_checkIndex_df160 : CaS yJ0_checkIndex_df160 (.code yJ0_checkIndex_df160 cJ0_checkIndex_df160 2 none) 2 := ⟨⟨(wa_mem (tb3 (List.mem_of_getElem? (i := 64) rfl)) rfl), (wa_mem (tb1 (List.mem_of_getElem? (i := 15) rfl)) rfl), by decide +kernel, by decide +kernel, by decide +kernel⟩, (wa_mem (tb3 (List.mem_of_getElem? (i := 63) rfl)) rfl)⟩
theorem caJ0_coder_7d493 : CaV yJ0_coder_7d493 (.code yJ0_coder_7d493 cJ0_coder_7d493 1 (some .byte)) 0 := ⟨⟨(wa_mem (tb3 (List.mem_of_getElem? (i := 47) rfl)) rfl), (wa_mem (tb1 (List.mem_of_getElem? (i := 15) rfl)) rfl), by decide +kernel, by decide +kernel, by decide +kernel⟩, (wa_mem (tb3 (List.mem_of_getElem? (i := 45) rfl)) rfl), (wa_mem (tb3 (List.mem_of_getElem? (i := 46) rfl)) rfl)⟩
theorem caJ0_isLatin1_aae02 : CaV yJ0_isLatin1_aae02 (.code yJ0_isLatin1_aae02 cJ0_isLatin1_aae02 1 (some .boolean)) 0 := ⟨⟨(wa_mem (tb3 (List.mem_of_getElem? (i := 58) rfl)) rfl), (wa_mem (tb1 (List.mem_of_getElem? (i := 15) rfl)) rfl), by decide +kernel, by decide +kernel, by decide +kernel⟩, (wa_mem (tb3 (List.mem_of_getElem? (i := 56) rfl)) rfl), (wa_mem (tb3 (List.mem_of_getElem? (i := 57) rfl)) rfl)⟩
theorem caJ0_length_8abf5 : CaV yJ0_length_8abf5 (.code yJ0_length_8abf5 cJ0_length_8abf5 1 (some .int)) 0 := ⟨⟨(wa_mem (tb3 (List.mem_of_getElem? (i := 43) rfl)) rfl), (wa_mem (tb1 (List.mem_of_getElem? (i := 15) rfl)) rfl), by decide +kernel, by decide +kernel, by decide +kernel⟩, (wa_mem (tb3 (List.mem_of_getElem? (i := 41) rfl)) rfl), (wa_mem (tb3 (List.mem_of_getElem? (i := 42) rfl)) rfl)⟩
theorem caJ1_charAt_3b067 : CaS yJ1_charAt_3b067 (.code yJ1_charAt_3b067 cJ1_charAt_3b067 2 (some .char)) 2 := ⟨⟨(wa_mem (tb3 (List.mem_of_getElem? (i := 61) rfl)) rfl), (wa_mem (tb1 (List.mem_of_getElem? (i := 16) rfl)) rfl), by decide +kernel, by decide +kernel, by decide +kernel⟩, (wa_mem (tb3 (List.mem_of_getElem? (i := 60) rfl)) rfl)⟩
theorem caJ3_checkIndex_8e157 : CaS yJ3_checkIndex_8e157 (.code yJ3_checkIndex_8e157 cJ3_checkIndex_8e157 3 (some .int)) 3 := ⟨⟨(wa_mem (tb3 (List.mem_of_getElem? (i := 69) rfl)) rfl), (wa_mem (tb1 (List.mem_of_getElem? (i := 17) rfl)) rfl), by decide +kernel, by decide +kernel, by decide +kernel⟩, (wa_mem (tb3 (List.mem_of_getElem? (i := 68) rfl)) rfl)⟩
theorem caJ7_fill_53178 : CaS yJ7_fill_53178 (.code yJ7_fill_53178 cJ7_fill_53178 4 none) 2 := ⟨⟨(wa_mem (tb2 (List.mem_of_getElem? (i := 209) rfl)) rfl), (wa_mem (tb1 (List.mem_of_getElem? (i := 14) rfl)) rfl), by decide +kernel, by decide +kernel, by decide +kernel⟩, (wa_mem (tb2 (List.mem_of_getElem? (i := 208) rfl)) rfl)⟩
theorem caX0_attributeOf : CaV yX0_attributeOf (.code yX0_attributeOf cX0_attributeOf 3 (some .long)) 2 := ⟨⟨(wa_mem (tb4 (List.mem_of_getElem? (i := 51) rfl)) rfl), (wa_mem (tb1 (List.mem_of_getElem? (i := 5) rfl)) rfl), by decide +kernel, by decide +kernel, by decide +kernel⟩, (wa_mem (tb4 (List.mem_of_getElem? (i := 49) rfl)) rfl), (wa_mem (tb4 (List.mem_of_getElem? (i := 50) rfl)) rfl)⟩
theorem caX0_formOf : CaV yX0_formOf (.code yX0_formOf cX0_formOf 3 (some .int)) 2 := ⟨⟨(wa_mem (tb4 (List.mem_of_getElem? (i := 15) rfl)) rfl), (wa_mem (tb1 (List.mem_of_getElem? (i := 5) rfl)) rfl), by decide +kernel, by decide +kernel, by decide +kernel⟩, (wa_mem (tb4 (List.mem_of_getElem? (i := 13) rfl)) rfl), (wa_mem (tb4 (List.mem_of_getElem? (i := 14) rfl)) rfl)⟩
theorem caX0_hasChildren : CaV yX0_hasChildren (.code yX0_hasChildren cX0_hasChildren 2 (some .boolean)) 1 := ⟨⟨(wa_mem (tb4 (List.mem_of_getElem? (i := 96) rfl)) rfl), (wa_mem (tb1 (List.mem_of_getElem? (i := 5) rfl)) rfl), by decide +kernel, by decide +kernel, by decide +kernel⟩, (wa_mem (tb4 (List.mem_of_getElem? (i := 94) rfl)) rfl), (wa_mem (tb4 (List.mem_of_getElem? (i := 95) rfl)) rfl)⟩
theorem caX0_indexOf : CaV yX0_indexOf (.code yX0_indexOf cX0_indexOf 4 (some .int)) 1 := ⟨⟨(wa_mem (tb3 (List.mem_of_getElem? (i := 203) rfl)) rfl), (wa_mem (tb1 (List.mem_of_getElem? (i := 5) rfl)) rfl), by decide +kernel, by decide +kernel, by decide +kernel⟩, (wa_mem (tb3 (List.mem_of_getElem? (i := 201) rfl)) rfl), (wa_mem (tb3 (List.mem_of_getElem? (i := 202) rfl)) rfl)⟩
theorem caX0_isForm : CaS yX0_isForm (.code yX0_isForm cX0_isForm 2 (some .boolean)) 1 := ⟨⟨(wa_mem (tb3 (List.mem_of_getElem? (i := 218) rfl)) rfl), (wa_mem (tb1 (List.mem_of_getElem? (i := 5) rfl)) rfl), by decide +kernel, by decide +kernel, by decide +kernel⟩, (wa_mem (tb3 (List.mem_of_getElem? (i := 217) rfl)) rfl)⟩
theorem caX0_pairTotalOf : CaV yX0_pairTotalOf (.code yX0_pairTotalOf cX0_pairTotalOf 2 (some .int)) 1 := ⟨⟨(wa_mem (tb4 (List.mem_of_getElem? (i := 11) rfl)) rfl), (wa_mem (tb1 (List.mem_of_getElem? (i := 5) rfl)) rfl), by decide +kernel, by decide +kernel, by decide +kernel⟩, (wa_mem (tb4 (List.mem_of_getElem? (i := 9) rfl)) rfl), (wa_mem (tb4 (List.mem_of_getElem? (i := 10) rfl)) rfl)⟩
theorem caX0_read : CaV yX0_read (.code yX0_read cX0_read 4 none) 1 := ⟨⟨(wa_mem (tb3 (List.mem_of_getElem? (i := 189) rfl)) rfl), (wa_mem (tb1 (List.mem_of_getElem? (i := 5) rfl)) rfl), by decide +kernel, by decide +kernel, by decide +kernel⟩, (wa_mem (tb3 (List.mem_of_getElem? (i := 187) rfl)) rfl), (wa_mem (tb3 (List.mem_of_getElem? (i := 188) rfl)) rfl)⟩
theorem caX0_readCode : CaV yX0_readCode (.code yX0_readCode cX0_readCode 7 (some .boolean)) 1 := ⟨⟨(wa_mem (tb3 (List.mem_of_getElem? (i := 194) rfl)) rfl), (wa_mem (tb1 (List.mem_of_getElem? (i := 5) rfl)) rfl), by decide +kernel, by decide +kernel, by decide +kernel⟩, (wa_mem (tb3 (List.mem_of_getElem? (i := 193) rfl)) rfl), (wa_mem (tbp (q := (yX0_readCode, 8)) (List.mem_of_getElem? (i := 7) rfl)) rfl)⟩
theorem caX0_readPair : CaV yX0_readPair (.code yX0_readPair cX0_readPair 9 (some .boolean)) 1 := ⟨⟨(wa_mem (tb3 (List.mem_of_getElem? (i := 215) rfl)) rfl), (wa_mem (tb1 (List.mem_of_getElem? (i := 5) rfl)) rfl), by decide +kernel, by decide +kernel, by decide +kernel⟩, (wa_mem (tb3 (List.mem_of_getElem? (i := 214) rfl)) rfl), (wa_mem (tbp (q := (yX0_readPair, 8)) (List.mem_of_getElem? (i := 8) rfl)) rfl)⟩
theorem caX0_tagOf : CaV yX0_tagOf (.code yX0_tagOf cX0_tagOf 2 (some .long)) 1 := ⟨⟨(wa_mem (tb4 (List.mem_of_getElem? (i := 1) rfl)) rfl), (wa_mem (tb1 (List.mem_of_getElem? (i := 5) rfl)) rfl), by decide +kernel, by decide +kernel, by decide +kernel⟩, (wa_mem (tb3 (List.mem_of_getElem? (i := 239) rfl)) rfl), (wa_mem (tb4 (List.mem_of_getElem? (i := 0) rfl)) rfl)⟩
theorem caX0_valueOf : CaV yX0_valueOf (.code yX0_valueOf cX0_valueOf 3 (some .long)) 2 := ⟨⟨(wa_mem (tb4 (List.mem_of_getElem? (i := 19) rfl)) rfl), (wa_mem (tb1 (List.mem_of_getElem? (i := 5) rfl)) rfl), by decide +kernel, by decide +kernel, by decide +kernel⟩, (wa_mem (tb4 (List.mem_of_getElem? (i := 17) rfl)) rfl), (wa_mem (tb4 (List.mem_of_getElem? (i := 18) rfl)) rfl)⟩
theorem caX10_add : CaV yX10_add (.code yX10_add cX10_add 3 (some .int)) 2 := ⟨⟨(wa_mem (tb3 (List.mem_of_getElem? (i := 184) rfl)) rfl), (wa_mem (tb1 (List.mem_of_getElem? (i := 9) rfl)) rfl), by decide +kernel, by decide +kernel, by decide +kernel⟩, (wa_mem (tb3 (List.mem_of_getElem? (i := 182) rfl)) rfl), (wa_mem (tb3 (List.mem_of_getElem? (i := 183) rfl)) rfl)⟩
theorem caX10_addFile : CaV yX10_addFile (.code yX10_addFile cX10_addFile 4 none) 3 := ⟨⟨(wa_mem (tb4 (List.mem_of_getElem? (i := 235) rfl)) rfl), (wa_mem (tb1 (List.mem_of_getElem? (i := 9) rfl)) rfl), by decide +kernel, by decide +kernel, by decide +kernel⟩, (wa_mem (tb4 (List.mem_of_getElem? (i := 233) rfl)) rfl), (wa_mem (tb4 (List.mem_of_getElem? (i := 234) rfl)) rfl)⟩
theorem caX10_beginFiles : CaV yX10_beginFiles (.code yX10_beginFiles cX10_beginFiles 2 none) 1 := ⟨⟨(wa_mem (tb4 (List.mem_of_getElem? (i := 231) rfl)) rfl), (wa_mem (tb1 (List.mem_of_getElem? (i := 9) rfl)) rfl), by decide +kernel, by decide +kernel, by decide +kernel⟩, (wa_mem (tb4 (List.mem_of_getElem? (i := 229) rfl)) rfl), (wa_mem (tb4 (List.mem_of_getElem? (i := 230) rfl)) rfl)⟩
theorem caX10_beginOf : CaV yX10_beginOf (.code yX10_beginOf cX10_beginOf 2 (some .int)) 1 := ⟨⟨(wa_mem (tb4 (List.mem_of_getElem? (i := 185) rfl)) rfl), (wa_mem (tb1 (List.mem_of_getElem? (i := 9) rfl)) rfl), by decide +kernel, by decide +kernel, by decide +kernel⟩, (wa_mem (tb4 (List.mem_of_getElem? (i := 183) rfl)) rfl), (wa_mem (tb4 (List.mem_of_getElem? (i := 184) rfl)) rfl)⟩
theorem caX10_clear : CaV yX10_clear (.code yX10_clear cX10_clear 1 none) 0 := ⟨⟨(wa_mem (tb3 (List.mem_of_getElem? (i := 125) rfl)) rfl), (wa_mem (tb1 (List.mem_of_getElem? (i := 9) rfl)) rfl), by decide +kernel, by decide +kernel, by decide +kernel⟩, (wa_mem (tb3 (List.mem_of_getElem? (i := 123) rfl)) rfl), (wa_mem (tb3 (List.mem_of_getElem? (i := 124) rfl)) rfl)⟩
theorem caX10_fileLengthOf : CaV yX10_fileLengthOf (.code yX10_fileLengthOf cX10_fileLengthOf 2 (some .int)) 1 := ⟨⟨(wa_mem (tb6 (List.mem_of_getElem? (i := 6) rfl)) rfl), (wa_mem (tb1 (List.mem_of_getElem? (i := 9) rfl)) rfl), by decide +kernel, by decide +kernel, by decide +kernel⟩, (wa_mem (tb6 (List.mem_of_getElem? (i := 4) rfl)) rfl), (wa_mem (tb6 (List.mem_of_getElem? (i := 5) rfl)) rfl)⟩
theorem caX10_fileOf : CaV yX10_fileOf (.code yX10_fileOf cX10_fileOf 3 (some .int)) 2 := ⟨⟨(wa_mem (tb6 (List.mem_of_getElem? (i := 2) rfl)) rfl), (wa_mem (tb1 (List.mem_of_getElem? (i := 9) rfl)) rfl), by decide +kernel, by decide +kernel, by decide +kernel⟩, (wa_mem (tb6 (List.mem_of_getElem? (i := 0) rfl)) rfl), (wa_mem (tb6 (List.mem_of_getElem? (i := 1) rfl)) rfl)⟩
theorem caX10_filePlaceOf : CaV yX10_filePlaceOf (.code yX10_filePlaceOf cX10_filePlaceOf 2 (some .int)) 1 := ⟨⟨(wa_mem (tb6 (List.mem_of_getElem? (i := 39) rfl)) rfl), (wa_mem (tb1 (List.mem_of_getElem? (i := 9) rfl)) rfl), by decide +kernel, by decide +kernel, by decide +kernel⟩, (wa_mem (tb6 (List.mem_of_getElem? (i := 37) rfl)) rfl), (wa_mem (tb6 (List.mem_of_getElem? (i := 38) rfl)) rfl)⟩
theorem caX10_fileTotal : CaV yX10_fileTotal (.code yX10_fileTotal cX10_fileTotal 1 (some .int)) 0 := ⟨⟨(wa_mem (tb4 (List.mem_of_getElem? (i := 227) rfl)) rfl), (wa_mem (tb1 (List.mem_of_getElem? (i := 9) rfl)) rfl), by decide +kernel, by decide +kernel, by decide +kernel⟩, (wa_mem (tb4 (List.mem_of_getElem? (i := 225) rfl)) rfl), (wa_mem (tb4 (List.mem_of_getElem? (i := 226) rfl)) rfl)⟩
theorem caX10_firstEntryOf : CaV yX10_firstEntryOf (.code yX10_firstEntryOf cX10_firstEntryOf 2 (some .int)) 1 := ⟨⟨(wa_mem (tb4 (List.mem_of_getElem? (i := 147) rfl)) rfl), (wa_mem (tb1 (List.mem_of_getElem? (i := 9) rfl)) rfl), by decide +kernel, by decide +kernel, by decide +kernel⟩, (wa_mem (tb4 (List.mem_of_getElem? (i := 145) rfl)) rfl), (wa_mem (tb4 (List.mem_of_getElem? (i := 146) rfl)) rfl)⟩
theorem caX10_total : CaV yX10_total (.code yX10_total cX10_total 1 (some .int)) 0 := ⟨⟨(wa_mem (tb3 (List.mem_of_getElem? (i := 156) rfl)) rfl), (wa_mem (tb1 (List.mem_of_getElem? (i := 9) rfl)) rfl), by decide +kernel, by decide +kernel, by decide +kernel⟩, (wa_mem (tb3 (List.mem_of_getElem? (i := 154) rfl)) rfl), (wa_mem (tb3 (List.mem_of_getElem? (i := 155) rfl)) rfl)⟩
theorem caX11_above : CaS yX11_above (.code yX11_above cX11_above 6 (some .long)) 2 := ⟨⟨(wa_mem (tb4 (List.mem_of_getElem? (i := 139) rfl)) rfl), (wa_mem (tb1 (List.mem_of_getElem? (i := 1) rfl)) rfl), by decide +kernel, by decide +kernel, by decide +kernel⟩, (wa_mem (tb4 (List.mem_of_getElem? (i := 138) rfl)) rfl)⟩
theorem caX11_append : CaV yX11_append (.code yX11_append cX11_append 3 none) 1 := ⟨⟨(wa_mem (tb2 (List.mem_of_getElem? (i := 182) rfl)) rfl), (wa_mem (tb1 (List.mem_of_getElem? (i := 1) rfl)) rfl), by decide +kernel, by decide +kernel, by decide +kernel⟩, (wa_mem (tb2 (List.mem_of_getElem? (i := 181) rfl)) rfl), (wa_mem (tbp (q := (yX11_append, 9)) (List.mem_of_getElem? (i := 0) rfl)) rfl)⟩
theorem caX11_at : CaS yX11_at (.code yX11_at cX11_at 2 (some .int)) 2 := ⟨⟨(wa_mem (tb3 (List.mem_of_getElem? (i := 16) rfl)) rfl), (wa_mem (tb1 (List.mem_of_getElem? (i := 1) rfl)) rfl), by decide +kernel, by decide +kernel, by decide +kernel⟩, (wa_mem (tb3 (List.mem_of_getElem? (i := 15) rfl)) rfl)⟩
theorem caX11_at_ : CaS yX11_at_ (.code yX11_at_ cX11_at_ 2 (some .long)) 2 := ⟨⟨(wa_mem (tb3 (List.mem_of_getElem? (i := 206) rfl)) rfl), (wa_mem (tb1 (List.mem_of_getElem? (i := 1) rfl)) rfl), by decide +kernel, by decide +kernel, by decide +kernel⟩, (wa_mem (tb3 (List.mem_of_getElem? (i := 205) rfl)) rfl)⟩
theorem caX11_put : CaS yX11_put (.code yX11_put cX11_put 3 none) 3 := ⟨⟨(wa_mem (tb3 (List.mem_of_getElem? (i := 9) rfl)) rfl), (wa_mem (tb1 (List.mem_of_getElem? (i := 1) rfl)) rfl), by decide +kernel, by decide +kernel, by decide +kernel⟩, (wa_mem (tb3 (List.mem_of_getElem? (i := 8) rfl)) rfl)⟩
theorem caX11_put_ : CaS yX11_put_ (.code yX11_put_ cX11_put_ 4 none) 3 := ⟨⟨(wa_mem (tb3 (List.mem_of_getElem? (i := 116) rfl)) rfl), (wa_mem (tb1 (List.mem_of_getElem? (i := 1) rfl)) rfl), by decide +kernel, by decide +kernel, by decide +kernel⟩, (wa_mem (tb3 (List.mem_of_getElem? (i := 115) rfl)) rfl)⟩
theorem caX11_sign : CaV yX11_sign (.code yX11_sign cX11_sign 4 (some .int)) 3 := ⟨⟨(wa_mem (tb6 (List.mem_of_getElem? (i := 27) rfl)) rfl), (wa_mem (tb1 (List.mem_of_getElem? (i := 1) rfl)) rfl), by decide +kernel, by decide +kernel, by decide +kernel⟩, (wa_mem (tb6 (List.mem_of_getElem? (i := 26) rfl)) rfl), (wa_mem (tbp (q := (yX11_sign, 9)) (List.mem_of_getElem? (i := 41) rfl)) rfl)⟩
theorem caX11_takeSpare : CaV yX11_takeSpare (.code yX11_takeSpare cX11_takeSpare 2 none) 0 := ⟨⟨(wa_mem (tb5 (List.mem_of_getElem? (i := 60) rfl)) rfl), (wa_mem (tb1 (List.mem_of_getElem? (i := 1) rfl)) rfl), by decide +kernel, by decide +kernel, by decide +kernel⟩, (wa_mem (tb5 (List.mem_of_getElem? (i := 59) rfl)) rfl), (wa_mem (tbp (q := (yX11_takeSpare, 9)) (List.mem_of_getElem? (i := 39) rfl)) rfl)⟩
theorem caX12_abbreviations : CaV yX12_abbreviations (.code yX12_abbreviations cX12_abbreviations 8 none) 0 := ⟨⟨(wa_mem (tb7 (List.mem_of_getElem? (i := 205) rfl)) rfl), (wa_mem (tb1 (List.mem_of_getElem? (i := 13) rfl)) rfl), by decide +kernel, by decide +kernel, by decide +kernel⟩, (wa_mem (tb7 (List.mem_of_getElem? (i := 204) rfl)) rfl), (wa_mem (tbp (q := (yX12_abbreviations, 95)) (List.mem_of_getElem? (i := 58) rfl)) rfl)⟩
theorem caX12_byteOf : CaV yX12_byteOf (.code yX12_byteOf cX12_byteOf 2 (some .int)) 1 := ⟨⟨(wa_mem (tb7 (List.mem_of_getElem? (i := 142) rfl)) rfl), (wa_mem (tb1 (List.mem_of_getElem? (i := 13) rfl)) rfl), by decide +kernel, by decide +kernel, by decide +kernel⟩, (wa_mem (tb7 (List.mem_of_getElem? (i := 141) rfl)) rfl), (wa_mem (tbp (q := (yX12_byteOf, 95)) (List.mem_of_getElem? (i := 43) rfl)) rfl)⟩
theorem caX12_comes : CaV yX12_comes (.code yX12_comes cX12_comes 6 none) 3 := ⟨⟨(wa_mem (tb8 (List.mem_of_getElem? (i := 93) rfl)) rfl), (wa_mem (tb1 (List.mem_of_getElem? (i := 13) rfl)) rfl), by decide +kernel, by decide +kernel, by decide +kernel⟩, (wa_mem (tb8 (List.mem_of_getElem? (i := 92) rfl)) rfl), (wa_mem (tbp (q := (yX12_comes, 95)) (List.mem_of_getElem? (i := 83) rfl)) rfl)⟩
theorem caX12_constants : CaV yX12_constants (.code yX12_constants cX12_constants 4 none) 0 := ⟨⟨(wa_mem (tb8 (List.mem_of_getElem? (i := 69) rfl)) rfl), (wa_mem (tb1 (List.mem_of_getElem? (i := 13) rfl)) rfl), by decide +kernel, by decide +kernel, by decide +kernel⟩, (wa_mem (tb8 (List.mem_of_getElem? (i := 68) rfl)) rfl), (wa_mem (tbp (q := (yX12_constants, 95)) (List.mem_of_getElem? (i := 77) rfl)) rfl)⟩
theorem caX12_directories : CaV yX12_directories (.code yX12_directories cX12_directories 5 (some .int)) 0 := ⟨⟨(wa_mem (tb8 (List.mem_of_getElem? (i := 73) rfl)) rfl), (wa_mem (tb1 (List.mem_of_getElem? (i := 13) rfl)) rfl), by decide +kernel, by decide +kernel, by decide +kernel⟩, (wa_mem (tb8 (List.mem_of_getElem? (i := 72) rfl)) rfl), (wa_mem (tbp (q := (yX12_directories, 95)) (List.mem_of_getElem? (i := 78) rfl)) rfl)⟩
theorem caX12_endOf : CaV yX12_endOf (.code yX12_endOf cX12_endOf 2 (some .int)) 1 := ⟨⟨(wa_mem (tb7 (List.mem_of_getElem? (i := 180) rfl)) rfl), (wa_mem (tb1 (List.mem_of_getElem? (i := 13) rfl)) rfl), by decide +kernel, by decide +kernel, by decide +kernel⟩, (wa_mem (tb7 (List.mem_of_getElem? (i := 179) rfl)) rfl), (wa_mem (tbp (q := (yX12_endOf, 95)) (List.mem_of_getElem? (i := 52) rfl)) rfl)⟩
theorem caX12_enters : CaV yX12_enters (.code yX12_enters cX12_enters 8 none) 2 := ⟨⟨(wa_mem (tb8 (List.mem_of_getElem? (i := 1) rfl)) rfl), (wa_mem (tb1 (List.mem_of_getElem? (i := 13) rfl)) rfl), by decide +kernel, by decide +kernel, by decide +kernel⟩, (wa_mem (tb8 (List.mem_of_getElem? (i := 0) rfl)) rfl), (wa_mem (tbp (q := (yX12_enters, 95)) (List.mem_of_getElem? (i := 63) rfl)) rfl)⟩
theorem caX12_entries : CaV yX12_entries (.code yX12_entries cX12_entries 7 none) 1 := ⟨⟨(wa_mem (tb7 (List.mem_of_getElem? (i := 237) rfl)) rfl), (wa_mem (tb1 (List.mem_of_getElem? (i := 13) rfl)) rfl), by decide +kernel, by decide +kernel, by decide +kernel⟩, (wa_mem (tb7 (List.mem_of_getElem? (i := 236) rfl)) rfl), (wa_mem (tbp (q := (yX12_entries, 95)) (List.mem_of_getElem? (i := 62) rfl)) rfl)⟩
theorem caX12_extended : CaV yX12_extended (.code yX12_extended cX12_extended 8 none) 3 := ⟨⟨(wa_mem (tb8 (List.mem_of_getElem? (i := 98) rfl)) rfl), (wa_mem (tb1 (List.mem_of_getElem? (i := 13) rfl)) rfl), by decide +kernel, by decide +kernel, by decide +kernel⟩, (wa_mem (tb8 (List.mem_of_getElem? (i := 97) rfl)) rfl), (wa_mem (tbp (q := (yX12_extended, 95)) (List.mem_of_getElem? (i := 84) rfl)) rfl)⟩
theorem caX12_fail : CaV yX12_fail (.code yX12_fail cX12_fail 3 none) 2 := ⟨⟨(wa_mem (tb7 (List.mem_of_getElem? (i := 146) rfl)) rfl), (wa_mem (tb1 (List.mem_of_getElem? (i := 13) rfl)) rfl), by decide +kernel, by decide +kernel, by decide +kernel⟩, (wa_mem (tb7 (List.mem_of_getElem? (i := 145) rfl)) rfl), (wa_mem (tbp (q := (yX12_fail, 95)) (List.mem_of_getElem? (i := 44) rfl)) rfl)⟩
theorem caX12_fileOf : CaV yX12_fileOf (.code yX12_fileOf cX12_fileOf 4 (some .int)) 1 := ⟨⟨(wa_mem (tb8 (List.mem_of_getElem? (i := 166) rfl)) rfl), (wa_mem (tb1 (List.mem_of_getElem? (i := 13) rfl)) rfl), by decide +kernel, by decide +kernel, by decide +kernel⟩, (wa_mem (tb8 (List.mem_of_getElem? (i := 165) rfl)) rfl), (wa_mem (tbp (q := (yX12_fileOf, 95)) (List.mem_of_getElem? (i := 93) rfl)) rfl)⟩
theorem caX12_files : CaV yX12_files (.code yX12_files cX12_files 13 none) 2 := ⟨⟨(wa_mem (tb8 (List.mem_of_getElem? (i := 81) rfl)) rfl), (wa_mem (tb1 (List.mem_of_getElem? (i := 13) rfl)) rfl), by decide +kernel, by decide +kernel, by decide +kernel⟩, (wa_mem (tb8 (List.mem_of_getElem? (i := 80) rfl)) rfl), (wa_mem (tbp (q := (yX12_files, 95)) (List.mem_of_getElem? (i := 80) rfl)) rfl)⟩
theorem caX12_governs : CaV yX12_governs (.code yX12_governs cX12_governs 5 (some .int)) 2 := ⟨⟨(wa_mem (tb8 (List.mem_of_getElem? (i := 154) rfl)) rfl), (wa_mem (tb1 (List.mem_of_getElem? (i := 13) rfl)) rfl), by decide +kernel, by decide +kernel, by decide +kernel⟩, (wa_mem (tb8 (List.mem_of_getElem? (i := 153) rfl)) rfl), (wa_mem (tbp (q := (yX12_governs, 95)) (List.mem_of_getElem? (i := 91) rfl)) rfl)⟩
theorem caX12_header : CaV yX12_header (.code yX12_header cX12_header 9 none) 0 := ⟨⟨(wa_mem (tb7 (List.mem_of_getElem? (i := 138) rfl)) rfl), (wa_mem (tb1 (List.mem_of_getElem? (i := 13) rfl)) rfl), by decide +kernel, by decide +kernel, by decide +kernel⟩, (wa_mem (tb7 (List.mem_of_getElem? (i := 137) rfl)) rfl), (wa_mem (tbp (q := (yX12_header, 95)) (List.mem_of_getElem? (i := 42) rfl)) rfl)⟩
theorem caX12_holder : CaV yX12_holder (.code yX12_holder cX12_holder 7 (some .int)) 2 := ⟨⟨(wa_mem (tb8 (List.mem_of_getElem? (i := 147) rfl)) rfl), (wa_mem (tb1 (List.mem_of_getElem? (i := 13) rfl)) rfl), by decide +kernel, by decide +kernel, by decide +kernel⟩, (wa_mem (tb8 (List.mem_of_getElem? (i := 146) rfl)) rfl), (wa_mem (tbp (q := (yX12_holder, 95)) (List.mem_of_getElem? (i := 90) rfl)) rfl)⟩
theorem caX12_holds : CaV yX12_holds (.code yX12_holds cX12_holds 6 (some .boolean)) 2 := ⟨⟨(wa_mem (tb8 (List.mem_of_getElem? (i := 131) rfl)) rfl), (wa_mem (tb1 (List.mem_of_getElem? (i := 13) rfl)) rfl), by decide +kernel, by decide +kernel, by decide +kernel⟩, (wa_mem (tb8 (List.mem_of_getElem? (i := 129) rfl)) rfl), (wa_mem (tb8 (List.mem_of_getElem? (i := 130) rfl)) rfl)⟩
theorem caX12_isEntry : CaV yX12_isEntry (.code yX12_isEntry cX12_isEntry 2 (some .boolean)) 1 := ⟨⟨(wa_mem (tb8 (List.mem_of_getElem? (i := 115) rfl)) rfl), (wa_mem (tb1 (List.mem_of_getElem? (i := 13) rfl)) rfl), by decide +kernel, by decide +kernel, by decide +kernel⟩, (wa_mem (tb8 (List.mem_of_getElem? (i := 114) rfl)) rfl), (wa_mem (tbp (q := (yX12_isEntry, 95)) (List.mem_of_getElem? (i := 86) rfl)) rfl)⟩
theorem caX12_isForm : CaS yX12_isForm (.code yX12_isForm cX12_isForm 2 (some .boolean)) 1 := ⟨⟨(wa_mem (tb7 (List.mem_of_getElem? (i := 221) rfl)) rfl), (wa_mem (tb1 (List.mem_of_getElem? (i := 13) rfl)) rfl), by decide +kernel, by decide +kernel, by decide +kernel⟩, (wa_mem (tb7 (List.mem_of_getElem? (i := 220) rfl)) rfl)⟩
theorem caX12_isNamed : CaV yX12_isNamed (.code yX12_isNamed cX12_isNamed 4 (some .boolean)) 2 := ⟨⟨(wa_mem (tb7 (List.mem_of_getElem? (i := 168) rfl)) rfl), (wa_mem (tb1 (List.mem_of_getElem? (i := 13) rfl)) rfl), by decide +kernel, by decide +kernel, by decide +kernel⟩, (wa_mem (tb7 (List.mem_of_getElem? (i := 167) rfl)) rfl), (wa_mem (tbp (q := (yX12_isNamed, 95)) (List.mem_of_getElem? (i := 49) rfl)) rfl)⟩
theorem caX12_isRight : CaV yX12_isRight (.code yX12_isRight cX12_isRight 1 (some .boolean)) 0 := ⟨⟨(wa_mem (tb7 (List.mem_of_getElem? (i := 150) rfl)) rfl), (wa_mem (tb1 (List.mem_of_getElem? (i := 13) rfl)) rfl), by decide +kernel, by decide +kernel, by decide +kernel⟩, (wa_mem (tb7 (List.mem_of_getElem? (i := 149) rfl)) rfl), (wa_mem (tbp (q := (yX12_isRight, 95)) (List.mem_of_getElem? (i := 45) rfl)) rfl)⟩
theorem caX12_leb : CaV yX12_leb (.code yX12_leb cX12_leb 8 (some .long)) 1 := ⟨⟨(wa_mem (tb7 (List.mem_of_getElem? (i := 213) rfl)) rfl), (wa_mem (tb1 (List.mem_of_getElem? (i := 13) rfl)) rfl), by decide +kernel, by decide +kernel, by decide +kernel⟩, (wa_mem (tb7 (List.mem_of_getElem? (i := 212) rfl)) rfl), (wa_mem (tbp (q := (yX12_leb, 95)) (List.mem_of_getElem? (i := 60) rfl)) rfl)⟩
theorem caX12_lengthIn : CaV yX12_lengthIn (.code yX12_lengthIn cX12_lengthIn 5 (some .int)) 1 := ⟨⟨(wa_mem (tb7 (List.mem_of_getElem? (i := 188) rfl)) rfl), (wa_mem (tb1 (List.mem_of_getElem? (i := 13) rfl)) rfl), by decide +kernel, by decide +kernel, by decide +kernel⟩, (wa_mem (tb7 (List.mem_of_getElem? (i := 187) rfl)) rfl), (wa_mem (tbp (q := (yX12_lengthIn, 95)) (List.mem_of_getElem? (i := 54) rfl)) rfl)⟩
theorem caX12_lines : CaV yX12_lines (.code yX12_lines cX12_lines 2 none) 0 := ⟨⟨(wa_mem (tb8 (List.mem_of_getElem? (i := 61) rfl)) rfl), (wa_mem (tb1 (List.mem_of_getElem? (i := 13) rfl)) rfl), by decide +kernel, by decide +kernel, by decide +kernel⟩, (wa_mem (tb8 (List.mem_of_getElem? (i := 60) rfl)) rfl), (wa_mem (tbp (q := (yX12_lines, 95)) (List.mem_of_getElem? (i := 75) rfl)) rfl)⟩
theorem caX12_list : CaV yX12_list (.code yX12_list cX12_list 13 none) 1 := ⟨⟨(wa_mem (tb8 (List.mem_of_getElem? (i := 53) rfl)) rfl), (wa_mem (tb1 (List.mem_of_getElem? (i := 13) rfl)) rfl), by decide +kernel, by decide +kernel, by decide +kernel⟩, (wa_mem (tb8 (List.mem_of_getElem? (i := 52) rfl)) rfl), (wa_mem (tbp (q := (yX12_list, 95)) (List.mem_of_getElem? (i := 73) rfl)) rfl)⟩
theorem caX12_matter : CaV yX12_matter (.code yX12_matter cX12_matter 10 none) 1 := ⟨⟨(wa_mem (tb7 (List.mem_of_getElem? (i := 176) rfl)) rfl), (wa_mem (tb1 (List.mem_of_getElem? (i := 13) rfl)) rfl), by decide +kernel, by decide +kernel, by decide +kernel⟩, (wa_mem (tb7 (List.mem_of_getElem? (i := 175) rfl)) rfl), (wa_mem (tbp (q := (yX12_matter, 95)) (List.mem_of_getElem? (i := 51) rfl)) rfl)⟩
theorem caX12_matters : CaV yX12_matters (.code yX12_matters cX12_matters 9 none) 4 := ⟨⟨(wa_mem (tb8 (List.mem_of_getElem? (i := 31) rfl)) rfl), (wa_mem (tb1 (List.mem_of_getElem? (i := 13) rfl)) rfl), by decide +kernel, by decide +kernel, by decide +kernel⟩, (wa_mem (tb8 (List.mem_of_getElem? (i := 30) rfl)) rfl), (wa_mem (tbp (q := (yX12_matters, 95)) (List.mem_of_getElem? (i := 69) rfl)) rfl)⟩
theorem caX12_must : CaV yX12_must (.code yX12_must cX12_must 6 none) 2 := ⟨⟨(wa_mem (tb7 (List.mem_of_getElem? (i := 201) rfl)) rfl), (wa_mem (tb1 (List.mem_of_getElem? (i := 13) rfl)) rfl), by decide +kernel, by decide +kernel, by decide +kernel⟩, (wa_mem (tb7 (List.mem_of_getElem? (i := 200) rfl)) rfl), (wa_mem (tbp (q := (yX12_must, 95)) (List.mem_of_getElem? (i := 57) rfl)) rfl)⟩
theorem caX12_mustLeb : CaV yX12_mustLeb (.code yX12_mustLeb cX12_mustLeb 5 none) 1 := ⟨⟨(wa_mem (tb8 (List.mem_of_getElem? (i := 77) rfl)) rfl), (wa_mem (tb1 (List.mem_of_getElem? (i := 13) rfl)) rfl), by decide +kernel, by decide +kernel, by decide +kernel⟩, (wa_mem (tb8 (List.mem_of_getElem? (i := 76) rfl)) rfl), (wa_mem (tbp (q := (yX12_mustLeb, 95)) (List.mem_of_getElem? (i := 79) rfl)) rfl)⟩
theorem caX12_named : CaV yX12_named (.code yX12_named cX12_named 4 (some .int)) 1 := ⟨⟨(wa_mem (tb8 (List.mem_of_getElem? (i := 127) rfl)) rfl), (wa_mem (tb1 (List.mem_of_getElem? (i := 13) rfl)) rfl), by decide +kernel, by decide +kernel, by decide +kernel⟩, (wa_mem (tb8 (List.mem_of_getElem? (i := 126) rfl)) rfl), (wa_mem (tbp (q := (yX12_named, 95)) (List.mem_of_getElem? (i := 89) rfl)) rfl)⟩
theorem caX12_names : CaV yX12_names (.code yX12_names cX12_names 5 none) 3 := ⟨⟨(wa_mem (tb8 (List.mem_of_getElem? (i := 14) rfl)) rfl), (wa_mem (tb1 (List.mem_of_getElem? (i := 13) rfl)) rfl), by decide +kernel, by decide +kernel, by decide +kernel⟩, (wa_mem (tb8 (List.mem_of_getElem? (i := 13) rfl)) rfl), (wa_mem (tbp (q := (yX12_names, 95)) (List.mem_of_getElem? (i := 66) rfl)) rfl)⟩
theorem caX12_number : CaV yX12_number (.code yX12_number cX12_number 4 (some .long)) 1 := ⟨⟨(wa_mem (tb7 (List.mem_of_getElem? (i := 192) rfl)) rfl), (wa_mem (tb1 (List.mem_of_getElem? (i := 13) rfl)) rfl), by decide +kernel, by decide +kernel, by decide +kernel⟩, (wa_mem (tb7 (List.mem_of_getElem? (i := 191) rfl)) rfl), (wa_mem (tbp (q := (yX12_number, 95)) (List.mem_of_getElem? (i := 55) rfl)) rfl)⟩
theorem caX12_numberAt : CaV yX12_numberAt (.code yX12_numberAt cX12_numberAt 6 (some .long)) 2 := ⟨⟨(wa_mem (tb7 (List.mem_of_getElem? (i := 154) rfl)) rfl), (wa_mem (tb1 (List.mem_of_getElem? (i := 13) rfl)) rfl), by decide +kernel, by decide +kernel, by decide +kernel⟩, (wa_mem (tb7 (List.mem_of_getElem? (i := 153) rfl)) rfl), (wa_mem (tbp (q := (yX12_numberAt, 95)) (List.mem_of_getElem? (i := 46) rfl)) rfl)⟩
theorem caX12_pairs : CaV yX12_pairs (.code yX12_pairs cX12_pairs 8 none) 0 := ⟨⟨(wa_mem (tb7 (List.mem_of_getElem? (i := 218) rfl)) rfl), (wa_mem (tb1 (List.mem_of_getElem? (i := 13) rfl)) rfl), by decide +kernel, by decide +kernel, by decide +kernel⟩, (wa_mem (tb7 (List.mem_of_getElem? (i := 217) rfl)) rfl), (wa_mem (tbp (q := (yX12_pairs, 95)) (List.mem_of_getElem? (i := 61) rfl)) rfl)⟩
theorem caX12_range : CaV yX12_range (.code yX12_range cX12_range 8 none) 4 := ⟨⟨(wa_mem (tb8 (List.mem_of_getElem? (i := 49) rfl)) rfl), (wa_mem (tb1 (List.mem_of_getElem? (i := 13) rfl)) rfl), by decide +kernel, by decide +kernel, by decide +kernel⟩, (wa_mem (tb8 (List.mem_of_getElem? (i := 48) rfl)) rfl), (wa_mem (tbp (q := (yX12_range, 95)) (List.mem_of_getElem? (i := 72) rfl)) rfl)⟩
theorem caX12_ranges : CaV yX12_ranges (.code yX12_ranges cX12_ranges 5 none) 0 := ⟨⟨(wa_mem (tb8 (List.mem_of_getElem? (i := 45) rfl)) rfl), (wa_mem (tb1 (List.mem_of_getElem? (i := 13) rfl)) rfl), by decide +kernel, by decide +kernel, by decide +kernel⟩, (wa_mem (tb8 (List.mem_of_getElem? (i := 44) rfl)) rfl), (wa_mem (tbp (q := (yX12_ranges, 95)) (List.mem_of_getElem? (i := 71) rfl)) rfl)⟩
theorem caX12_rangesOf : CaV yX12_rangesOf (.code yX12_rangesOf cX12_rangesOf 4 (some .int)) 1 := ⟨⟨(wa_mem (tb8 (List.mem_of_getElem? (i := 119) rfl)) rfl), (wa_mem (tb1 (List.mem_of_getElem? (i := 13) rfl)) rfl), by decide +kernel, by decide +kernel, by decide +kernel⟩, (wa_mem (tb8 (List.mem_of_getElem? (i := 118) rfl)) rfl), (wa_mem (tbp (q := (yX12_rangesOf, 95)) (List.mem_of_getElem? (i := 87) rfl)) rfl)⟩
theorem caX12_refers : CaV yX12_refers (.code yX12_refers cX12_refers 7 none) 4 := ⟨⟨(wa_mem (tb8 (List.mem_of_getElem? (i := 25) rfl)) rfl), (wa_mem (tb1 (List.mem_of_getElem? (i := 13) rfl)) rfl), by decide +kernel, by decide +kernel, by decide +kernel⟩, (wa_mem (tb8 (List.mem_of_getElem? (i := 24) rfl)) rfl), (wa_mem (tbp (q := (yX12_refers, 95)) (List.mem_of_getElem? (i := 68) rfl)) rfl)⟩
theorem caX12_resets : CaV yX12_resets (.code yX12_resets cX12_resets 1 none) 0 := ⟨⟨(wa_mem (tb8 (List.mem_of_getElem? (i := 89) rfl)) rfl), (wa_mem (tb1 (List.mem_of_getElem? (i := 13) rfl)) rfl), by decide +kernel, by decide +kernel, by decide +kernel⟩, (wa_mem (tb8 (List.mem_of_getElem? (i := 88) rfl)) rfl), (wa_mem (tbp (q := (yX12_resets, 95)) (List.mem_of_getElem? (i := 82) rfl)) rfl)⟩
theorem caX12_resolves : CaV yX12_resolves (.code yX12_resolves cX12_resolves 6 none) 1 := ⟨⟨(wa_mem (tb8 (List.mem_of_getElem? (i := 41) rfl)) rfl), (wa_mem (tb1 (List.mem_of_getElem? (i := 13) rfl)) rfl), by decide +kernel, by decide +kernel, by decide +kernel⟩, (wa_mem (tb8 (List.mem_of_getElem? (i := 40) rfl)) rfl), (wa_mem (tbp (q := (yX12_resolves, 95)) (List.mem_of_getElem? (i := 70) rfl)) rfl)⟩
theorem caX12_runs : CaV yX12_runs (.code yX12_runs cX12_runs 6 none) 2 := ⟨⟨(wa_mem (tb8 (List.mem_of_getElem? (i := 85) rfl)) rfl), (wa_mem (tb1 (List.mem_of_getElem? (i := 13) rfl)) rfl), by decide +kernel, by decide +kernel, by decide +kernel⟩, (wa_mem (tb8 (List.mem_of_getElem? (i := 84) rfl)) rfl), (wa_mem (tbp (q := (yX12_runs, 95)) (List.mem_of_getElem? (i := 81) rfl)) rfl)⟩
theorem caX12_section : CaV yX12_section (.code yX12_section cX12_section 9 none) 2 := ⟨⟨(wa_mem (tb7 (List.mem_of_getElem? (i := 159) rfl)) rfl), (wa_mem (tb1 (List.mem_of_getElem? (i := 13) rfl)) rfl), by decide +kernel, by decide +kernel, by decide +kernel⟩, (wa_mem (tb7 (List.mem_of_getElem? (i := 158) rfl)) rfl), (wa_mem (tbp (q := (yX12_section, 95)) (List.mem_of_getElem? (i := 47) rfl)) rfl)⟩
theorem caX12_sign : CaV yX12_sign (.code yX12_sign cX12_sign 4 (some .int)) 3 := ⟨⟨(wa_mem (tb8 (List.mem_of_getElem? (i := 174) rfl)) rfl), (wa_mem (tb1 (List.mem_of_getElem? (i := 13) rfl)) rfl), by decide +kernel, by decide +kernel, by decide +kernel⟩, (wa_mem (tb8 (List.mem_of_getElem? (i := 173) rfl)) rfl), (wa_mem (tbp (q := (yX12_sign, 95)) (List.mem_of_getElem? (i := 94) rfl)) rfl)⟩
theorem caX12_signsOf : CaV yX12_signsOf (.code yX12_signsOf cX12_signsOf 3 (some .int)) 1 := ⟨⟨(wa_mem (tb8 (List.mem_of_getElem? (i := 123) rfl)) rfl), (wa_mem (tb1 (List.mem_of_getElem? (i := 13) rfl)) rfl), by decide +kernel, by decide +kernel, by decide +kernel⟩, (wa_mem (tb8 (List.mem_of_getElem? (i := 122) rfl)) rfl), (wa_mem (tbp (q := (yX12_signsOf, 95)) (List.mem_of_getElem? (i := 88) rfl)) rfl)⟩
theorem caX12_spans : CaV yX12_spans (.code yX12_spans cX12_spans 8 none) 5 := ⟨⟨(wa_mem (tb8 (List.mem_of_getElem? (i := 57) rfl)) rfl), (wa_mem (tb1 (List.mem_of_getElem? (i := 13) rfl)) rfl), by decide +kernel, by decide +kernel, by decide +kernel⟩, (wa_mem (tb8 (List.mem_of_getElem? (i := 56) rfl)) rfl), (wa_mem (tbp (q := (yX12_spans, 95)) (List.mem_of_getElem? (i := 74) rfl)) rfl)⟩
theorem caX12_standard : CaV yX12_standard (.code yX12_standard cX12_standard 5 none) 3 := ⟨⟨(wa_mem (tb8 (List.mem_of_getElem? (i := 103) rfl)) rfl), (wa_mem (tb1 (List.mem_of_getElem? (i := 13) rfl)) rfl), by decide +kernel, by decide +kernel, by decide +kernel⟩, (wa_mem (tb8 (List.mem_of_getElem? (i := 102) rfl)) rfl), (wa_mem (tbp (q := (yX12_standard, 95)) (List.mem_of_getElem? (i := 85) rfl)) rfl)⟩
theorem caX12_string : CaV yX12_string (.code yX12_string cX12_string 3 (some .int)) 0 := ⟨⟨(wa_mem (tb8 (List.mem_of_getElem? (i := 9) rfl)) rfl), (wa_mem (tb1 (List.mem_of_getElem? (i := 13) rfl)) rfl), by decide +kernel, by decide +kernel, by decide +kernel⟩, (wa_mem (tb8 (List.mem_of_getElem? (i := 8) rfl)) rfl), (wa_mem (tbp (q := (yX12_string, 95)) (List.mem_of_getElem? (i := 65) rfl)) rfl)⟩
theorem caX12_stringAt : CaV yX12_stringAt (.code yX12_stringAt cX12_stringAt 4 (some .int)) 2 := ⟨⟨(wa_mem (tb7 (List.mem_of_getElem? (i := 164) rfl)) rfl), (wa_mem (tb1 (List.mem_of_getElem? (i := 13) rfl)) rfl), by decide +kernel, by decide +kernel, by decide +kernel⟩, (wa_mem (tb7 (List.mem_of_getElem? (i := 163) rfl)) rfl), (wa_mem (tbp (q := (yX12_stringAt, 95)) (List.mem_of_getElem? (i := 48) rfl)) rfl)⟩
theorem caX12_symbolOf : CaV yX12_symbolOf (.code yX12_symbolOf cX12_symbolOf 5 none) 1 := ⟨⟨(wa_mem (tb8 (List.mem_of_getElem? (i := 158) rfl)) rfl), (wa_mem (tb1 (List.mem_of_getElem? (i := 13) rfl)) rfl), by decide +kernel, by decide +kernel, by decide +kernel⟩, (wa_mem (tb8 (List.mem_of_getElem? (i := 157) rfl)) rfl), (wa_mem (tbp (q := (yX12_symbolOf, 95)) (List.mem_of_getElem? (i := 92) rfl)) rfl)⟩
theorem caX12_symbols : CaV yX12_symbols (.code yX12_symbols cX12_symbols 3 none) 0 := ⟨⟨(wa_mem (tb7 (List.mem_of_getElem? (i := 172) rfl)) rfl), (wa_mem (tb1 (List.mem_of_getElem? (i := 13) rfl)) rfl), by decide +kernel, by decide +kernel, by decide +kernel⟩, (wa_mem (tb7 (List.mem_of_getElem? (i := 171) rfl)) rfl), (wa_mem (tbp (q := (yX12_symbols, 95)) (List.mem_of_getElem? (i := 50) rfl)) rfl)⟩
theorem caX12_table : CaV yX12_table (.code yX12_table cX12_table 8 none) 1 := ⟨⟨(wa_mem (tb8 (List.mem_of_getElem? (i := 65) rfl)) rfl), (wa_mem (tb1 (List.mem_of_getElem? (i := 13) rfl)) rfl), by decide +kernel, by decide +kernel, by decide +kernel⟩, (wa_mem (tb8 (List.mem_of_getElem? (i := 64) rfl)) rfl), (wa_mem (tbp (q := (yX12_table, 95)) (List.mem_of_getElem? (i := 76) rfl)) rfl)⟩
theorem caX12_text : CaV yX12_text (.code yX12_text cX12_text 8 none) 4 := ⟨⟨(wa_mem (tb8 (List.mem_of_getElem? (i := 21) rfl)) rfl), (wa_mem (tb1 (List.mem_of_getElem? (i := 13) rfl)) rfl), by decide +kernel, by decide +kernel, by decide +kernel⟩, (wa_mem (tb8 (List.mem_of_getElem? (i := 20) rfl)) rfl), (wa_mem (tbp (q := (yX12_text, 95)) (List.mem_of_getElem? (i := 67) rfl)) rfl)⟩
theorem caX12_uleb : CaV yX12_uleb (.code yX12_uleb cX12_uleb 1 (some .long)) 0 := ⟨⟨(wa_mem (tb7 (List.mem_of_getElem? (i := 209) rfl)) rfl), (wa_mem (tb1 (List.mem_of_getElem? (i := 13) rfl)) rfl), by decide +kernel, by decide +kernel, by decide +kernel⟩, (wa_mem (tb7 (List.mem_of_getElem? (i := 208) rfl)) rfl), (wa_mem (tbp (q := (yX12_uleb, 95)) (List.mem_of_getElem? (i := 59) rfl)) rfl)⟩
theorem caX12_unit : CaV yX12_unit (.code yX12_unit cX12_unit 8 none) 2 := ⟨⟨(wa_mem (tb7 (List.mem_of_getElem? (i := 197) rfl)) rfl), (wa_mem (tb1 (List.mem_of_getElem? (i := 13) rfl)) rfl), by decide +kernel, by decide +kernel, by decide +kernel⟩, (wa_mem (tb7 (List.mem_of_getElem? (i := 196) rfl)) rfl), (wa_mem (tbp (q := (yX12_unit, 95)) (List.mem_of_getElem? (i := 56) rfl)) rfl)⟩
theorem caX12_units : CaV yX12_units (.code yX12_units cX12_units 3 none) 0 := ⟨⟨(wa_mem (tb7 (List.mem_of_getElem? (i := 184) rfl)) rfl), (wa_mem (tb1 (List.mem_of_getElem? (i := 13) rfl)) rfl), by decide +kernel, by decide +kernel, by decide +kernel⟩, (wa_mem (tb7 (List.mem_of_getElem? (i := 183) rfl)) rfl), (wa_mem (tbp (q := (yX12_units, 95)) (List.mem_of_getElem? (i := 53) rfl)) rfl)⟩
theorem caX12_value : CaV yX12_value (.code yX12_value cX12_value 10 none) 4 := ⟨⟨(wa_mem (tb8 (List.mem_of_getElem? (i := 5) rfl)) rfl), (wa_mem (tb1 (List.mem_of_getElem? (i := 13) rfl)) rfl), by decide +kernel, by decide +kernel, by decide +kernel⟩, (wa_mem (tb8 (List.mem_of_getElem? (i := 4) rfl)) rfl), (wa_mem (tbp (q := (yX12_value, 95)) (List.mem_of_getElem? (i := 64) rfl)) rfl)⟩
theorem caX12_widthOf : CaS yX12_widthOf (.code yX12_widthOf cX12_widthOf 1 (some .int)) 1 := ⟨⟨(wa_mem (tb8 (List.mem_of_getElem? (i := 17) rfl)) rfl), (wa_mem (tb1 (List.mem_of_getElem? (i := 13) rfl)) rfl), by decide +kernel, by decide +kernel, by decide +kernel⟩, (wa_mem (tb8 (List.mem_of_getElem? (i := 16) rfl)) rfl)⟩
theorem caX1_byteAt : CaV yX1_byteAt (.code yX1_byteAt cX1_byteAt 2 (some .int)) 1 := ⟨⟨(wa_mem (tb2 (List.mem_of_getElem? (i := 223) rfl)) rfl), (wa_mem (tb1 (List.mem_of_getElem? (i := 2) rfl)) rfl), by decide +kernel, by decide +kernel, by decide +kernel⟩, (wa_mem (tb2 (List.mem_of_getElem? (i := 221) rfl)) rfl), (wa_mem (tb2 (List.mem_of_getElem? (i := 222) rfl)) rfl)⟩
theorem caX1_enterCounted : CaV yX1_enterCounted (.code yX1_enterCounted cX1_enterCounted 4 none) 0 := ⟨⟨(wa_mem (tb3 (List.mem_of_getElem? (i := 141) rfl)) rfl), (wa_mem (tb1 (List.mem_of_getElem? (i := 2) rfl)) rfl), by decide +kernel, by decide +kernel, by decide +kernel⟩, (wa_mem (tb3 (List.mem_of_getElem? (i := 139) rfl)) rfl), (wa_mem (tb3 (List.mem_of_getElem? (i := 140) rfl)) rfl)⟩
theorem caX1_expectUleb : CaV yX1_expectUleb (.code yX1_expectUleb cX1_expectUleb 4 none) 1 := ⟨⟨(wa_mem (tb4 (List.mem_of_getElem? (i := 214) rfl)) rfl), (wa_mem (tb1 (List.mem_of_getElem? (i := 2) rfl)) rfl), by decide +kernel, by decide +kernel, by decide +kernel⟩, (wa_mem (tb4 (List.mem_of_getElem? (i := 212) rfl)) rfl), (wa_mem (tb4 (List.mem_of_getElem? (i := 213) rfl)) rfl)⟩
theorem caX1_faultNumber : CaV yX1_faultNumber (.code yX1_faultNumber cX1_faultNumber 1 (some .int)) 0 := ⟨⟨(wa_mem (tb5 (List.mem_of_getElem? (i := 76) rfl)) rfl), (wa_mem (tb1 (List.mem_of_getElem? (i := 2) rfl)) rfl), by decide +kernel, by decide +kernel, by decide +kernel⟩, (wa_mem (tb5 (List.mem_of_getElem? (i := 74) rfl)) rfl), (wa_mem (tb5 (List.mem_of_getElem? (i := 75) rfl)) rfl)⟩
theorem caX1_faultPlace : CaV yX1_faultPlace (.code yX1_faultPlace cX1_faultPlace 1 (some .int)) 0 := ⟨⟨(wa_mem (tb5 (List.mem_of_getElem? (i := 80) rfl)) rfl), (wa_mem (tb1 (List.mem_of_getElem? (i := 2) rfl)) rfl), by decide +kernel, by decide +kernel, by decide +kernel⟩, (wa_mem (tb5 (List.mem_of_getElem? (i := 78) rfl)) rfl), (wa_mem (tb5 (List.mem_of_getElem? (i := 79) rfl)) rfl)⟩
theorem caX1_hasLeft : CaV yX1_hasLeft (.code yX1_hasLeft cX1_hasLeft 3 (some .boolean)) 1 := ⟨⟨(wa_mem (tb3 (List.mem_of_getElem? (i := 150) rfl)) rfl), (wa_mem (tb1 (List.mem_of_getElem? (i := 2) rfl)) rfl), by decide +kernel, by decide +kernel, by decide +kernel⟩, (wa_mem (tb3 (List.mem_of_getElem? (i := 148) rfl)) rfl), (wa_mem (tb3 (List.mem_of_getElem? (i := 149) rfl)) rfl)⟩
theorem caX1_isText : CaV yX1_isText (.code yX1_isText cX1_isText 5 (some .boolean)) 3 := ⟨⟨(wa_mem (tb3 (List.mem_of_getElem? (i := 39) rfl)) rfl), (wa_mem (tb1 (List.mem_of_getElem? (i := 2) rfl)) rfl), by decide +kernel, by decide +kernel, by decide +kernel⟩, (wa_mem (tb3 (List.mem_of_getElem? (i := 37) rfl)) rfl), (wa_mem (tb3 (List.mem_of_getElem? (i := 38) rfl)) rfl)⟩
theorem caX1_lies : CaV yX1_lies (.code yX1_lies cX1_lies 5 (some .boolean)) 2 := ⟨⟨(wa_mem (tb2 (List.mem_of_getElem? (i := 237) rfl)) rfl), (wa_mem (tb1 (List.mem_of_getElem? (i := 2) rfl)) rfl), by decide +kernel, by decide +kernel, by decide +kernel⟩, (wa_mem (tb2 (List.mem_of_getElem? (i := 235) rfl)) rfl), (wa_mem (tb2 (List.mem_of_getElem? (i := 236) rfl)) rfl)⟩
theorem caX1_number : CaV yX1_number (.code yX1_number cX1_number 4 (some .long)) 1 := ⟨⟨(wa_mem (tb3 (List.mem_of_getElem? (i := 145) rfl)) rfl), (wa_mem (tb1 (List.mem_of_getElem? (i := 2) rfl)) rfl), by decide +kernel, by decide +kernel, by decide +kernel⟩, (wa_mem (tb3 (List.mem_of_getElem? (i := 143) rfl)) rfl), (wa_mem (tb3 (List.mem_of_getElem? (i := 144) rfl)) rfl)⟩
theorem caX1_numberAt : CaV yX1_numberAt (.code yX1_numberAt cX1_numberAt 9 (some .long)) 2 := ⟨⟨(wa_mem (tb2 (List.mem_of_getElem? (i := 231) rfl)) rfl), (wa_mem (tb1 (List.mem_of_getElem? (i := 2) rfl)) rfl), by decide +kernel, by decide +kernel, by decide +kernel⟩, (wa_mem (tb2 (List.mem_of_getElem? (i := 229) rfl)) rfl), (wa_mem (tb2 (List.mem_of_getElem? (i := 230) rfl)) rfl)⟩
theorem caX1_numberBetween : CaV yX1_numberBetween (.code yX1_numberBetween cX1_numberBetween 7 (some .int)) 3 := ⟨⟨(wa_mem (tb3 (List.mem_of_getElem? (i := 161) rfl)) rfl), (wa_mem (tb1 (List.mem_of_getElem? (i := 2) rfl)) rfl), by decide +kernel, by decide +kernel, by decide +kernel⟩, (wa_mem (tb3 (List.mem_of_getElem? (i := 159) rfl)) rfl), (wa_mem (tb3 (List.mem_of_getElem? (i := 160) rfl)) rfl)⟩
theorem caX1_open : CaV yX1_open (.code yX1_open cX1_open 2 none) 1 := ⟨⟨(wa_mem (tb2 (List.mem_of_getElem? (i := 198) rfl)) rfl), (wa_mem (tb1 (List.mem_of_getElem? (i := 2) rfl)) rfl), by decide +kernel, by decide +kernel, by decide +kernel⟩, (wa_mem (tb2 (List.mem_of_getElem? (i := 196) rfl)) rfl), (wa_mem (tb2 (List.mem_of_getElem? (i := 197) rfl)) rfl)⟩
theorem caX1_place : CaV yX1_place (.code yX1_place cX1_place 1 (some .int)) 0 := ⟨⟨(wa_mem (tb3 (List.mem_of_getElem? (i := 165) rfl)) rfl), (wa_mem (tb1 (List.mem_of_getElem? (i := 2) rfl)) rfl), by decide +kernel, by decide +kernel, by decide +kernel⟩, (wa_mem (tb3 (List.mem_of_getElem? (i := 163) rfl)) rfl), (wa_mem (tb3 (List.mem_of_getElem? (i := 164) rfl)) rfl)⟩
theorem caX1_refuse : CaV yX1_refuse (.code yX1_refuse cX1_refuse 3 none) 2 := ⟨⟨(wa_mem (tb2 (List.mem_of_getElem? (i := 227) rfl)) rfl), (wa_mem (tb1 (List.mem_of_getElem? (i := 2) rfl)) rfl), by decide +kernel, by decide +kernel, by decide +kernel⟩, (wa_mem (tb2 (List.mem_of_getElem? (i := 225) rfl)) rfl), (wa_mem (tb2 (List.mem_of_getElem? (i := 226) rfl)) rfl)⟩
theorem caX1_size : CaV yX1_size (.code yX1_size cX1_size 1 (some .int)) 0 := ⟨⟨(wa_mem (tb2 (List.mem_of_getElem? (i := 219) rfl)) rfl), (wa_mem (tb1 (List.mem_of_getElem? (i := 2) rfl)) rfl), by decide +kernel, by decide +kernel, by decide +kernel⟩, (wa_mem (tb2 (List.mem_of_getElem? (i := 217) rfl)) rfl), (wa_mem (tb2 (List.mem_of_getElem? (i := 218) rfl)) rfl)⟩
theorem caX1_sleb : CaV yX1_sleb (.code yX1_sleb cX1_sleb 6 (some .long)) 0 := ⟨⟨(wa_mem (tb3 (List.mem_of_getElem? (i := 224) rfl)) rfl), (wa_mem (tb1 (List.mem_of_getElem? (i := 2) rfl)) rfl), by decide +kernel, by decide +kernel, by decide +kernel⟩, (wa_mem (tb3 (List.mem_of_getElem? (i := 222) rfl)) rfl), (wa_mem (tb3 (List.mem_of_getElem? (i := 223) rfl)) rfl)⟩
theorem caX1_sound : CaV yX1_sound (.code yX1_sound cX1_sound 1 (some .boolean)) 0 := ⟨⟨(wa_mem (tb3 (List.mem_of_getElem? (i := 1) rfl)) rfl), (wa_mem (tb1 (List.mem_of_getElem? (i := 2) rfl)) rfl), by decide +kernel, by decide +kernel, by decide +kernel⟩, (wa_mem (tb2 (List.mem_of_getElem? (i := 239) rfl)) rfl), (wa_mem (tb3 (List.mem_of_getElem? (i := 0) rfl)) rfl)⟩
theorem caX1_stop : CaV yX1_stop (.code yX1_stop cX1_stop 1 (some .int)) 0 := ⟨⟨(wa_mem (tb3 (List.mem_of_getElem? (i := 176) rfl)) rfl), (wa_mem (tb1 (List.mem_of_getElem? (i := 2) rfl)) rfl), by decide +kernel, by decide +kernel, by decide +kernel⟩, (wa_mem (tb3 (List.mem_of_getElem? (i := 174) rfl)) rfl), (wa_mem (tb3 (List.mem_of_getElem? (i := 175) rfl)) rfl)⟩
theorem caX1_text : CaV yX1_text (.code yX1_text cX1_text 2 (some .int)) 0 := ⟨⟨(wa_mem (tb4 (List.mem_of_getElem? (i := 32) rfl)) rfl), (wa_mem (tb1 (List.mem_of_getElem? (i := 2) rfl)) rfl), by decide +kernel, by decide +kernel, by decide +kernel⟩, (wa_mem (tb4 (List.mem_of_getElem? (i := 30) rfl)) rfl), (wa_mem (tb4 (List.mem_of_getElem? (i := 31) rfl)) rfl)⟩
theorem caX1_textLength : CaV yX1_textLength (.code yX1_textLength cX1_textLength 4 (some .int)) 2 := ⟨⟨(wa_mem (tb3 (List.mem_of_getElem? (i := 25) rfl)) rfl), (wa_mem (tb1 (List.mem_of_getElem? (i := 2) rfl)) rfl), by decide +kernel, by decide +kernel, by decide +kernel⟩, (wa_mem (tb3 (List.mem_of_getElem? (i := 24) rfl)) rfl), (wa_mem (tbp (q := (yX1_textLength, 6)) (List.mem_of_getElem? (i := 4) rfl)) rfl)⟩
theorem caX1_toldText : CaV yX1_toldText (.code yX1_toldText cX1_toldText 7 (some .int)) 4 := ⟨⟨(wa_mem (tb3 (List.mem_of_getElem? (i := 20) rfl)) rfl), (wa_mem (tb1 (List.mem_of_getElem? (i := 2) rfl)) rfl), by decide +kernel, by decide +kernel, by decide +kernel⟩, (wa_mem (tb3 (List.mem_of_getElem? (i := 18) rfl)) rfl), (wa_mem (tb3 (List.mem_of_getElem? (i := 19) rfl)) rfl)⟩
theorem caX1_uleb : CaV yX1_uleb (.code yX1_uleb cX1_uleb 5 (some .long)) 0 := ⟨⟨(wa_mem (tb3 (List.mem_of_getElem? (i := 199) rfl)) rfl), (wa_mem (tb1 (List.mem_of_getElem? (i := 2) rfl)) rfl), by decide +kernel, by decide +kernel, by decide +kernel⟩, (wa_mem (tb3 (List.mem_of_getElem? (i := 197) rfl)) rfl), (wa_mem (tb3 (List.mem_of_getElem? (i := 198) rfl)) rfl)⟩
theorem caX1_within : CaV yX1_within (.code yX1_within cX1_within 3 none) 2 := ⟨⟨(wa_mem (tb2 (List.mem_of_getElem? (i := 202) rfl)) rfl), (wa_mem (tb1 (List.mem_of_getElem? (i := 2) rfl)) rfl), by decide +kernel, by decide +kernel, by decide +kernel⟩, (wa_mem (tb2 (List.mem_of_getElem? (i := 200) rfl)) rfl), (wa_mem (tb2 (List.mem_of_getElem? (i := 201) rfl)) rfl)⟩
theorem caX2_add : CaV yX2_add (.code yX2_add cX2_add 6 (some .int)) 4 := ⟨⟨(wa_mem (tb4 (List.mem_of_getElem? (i := 5) rfl)) rfl), (wa_mem (tb1 (List.mem_of_getElem? (i := 10) rfl)) rfl), by decide +kernel, by decide +kernel, by decide +kernel⟩, (wa_mem (tb4 (List.mem_of_getElem? (i := 3) rfl)) rfl), (wa_mem (tb4 (List.mem_of_getElem? (i := 4) rfl)) rfl)⟩
theorem caX2_clear : CaV yX2_clear (.code yX2_clear cX2_clear 1 none) 0 := ⟨⟨(wa_mem (tb3 (List.mem_of_getElem? (i := 129) rfl)) rfl), (wa_mem (tb1 (List.mem_of_getElem? (i := 10) rfl)) rfl), by decide +kernel, by decide +kernel, by decide +kernel⟩, (wa_mem (tb3 (List.mem_of_getElem? (i := 127) rfl)) rfl), (wa_mem (tb3 (List.mem_of_getElem? (i := 128) rfl)) rfl)⟩
theorem caX2_firstRangeOf : CaV yX2_firstRangeOf (.code yX2_firstRangeOf cX2_firstRangeOf 2 (some .int)) 1 := ⟨⟨(wa_mem (tb5 (List.mem_of_getElem? (i := 126) rfl)) rfl), (wa_mem (tb1 (List.mem_of_getElem? (i := 10) rfl)) rfl), by decide +kernel, by decide +kernel, by decide +kernel⟩, (wa_mem (tb5 (List.mem_of_getElem? (i := 124) rfl)) rfl), (wa_mem (tb5 (List.mem_of_getElem? (i := 125) rfl)) rfl)⟩
theorem caX2_has : CaV yX2_has (.code yX2_has cX2_has 2 (some .boolean)) 1 := ⟨⟨(wa_mem (tb4 (List.mem_of_getElem? (i := 69) rfl)) rfl), (wa_mem (tb1 (List.mem_of_getElem? (i := 10) rfl)) rfl), by decide +kernel, by decide +kernel, by decide +kernel⟩, (wa_mem (tb4 (List.mem_of_getElem? (i := 67) rfl)) rfl), (wa_mem (tb4 (List.mem_of_getElem? (i := 68) rfl)) rfl)⟩
theorem caX2_isTold : CaV yX2_isTold (.code yX2_isTold cX2_isTold 3 (some .boolean)) 2 := ⟨⟨(wa_mem (tb4 (List.mem_of_getElem? (i := 78) rfl)) rfl), (wa_mem (tb1 (List.mem_of_getElem? (i := 10) rfl)) rfl), by decide +kernel, by decide +kernel, by decide +kernel⟩, (wa_mem (tb4 (List.mem_of_getElem? (i := 76) rfl)) rfl), (wa_mem (tb4 (List.mem_of_getElem? (i := 77) rfl)) rfl)⟩
theorem caX2_keepFirst : CaV yX2_keepFirst (.code yX2_keepFirst cX2_keepFirst 7 (some .boolean)) 3 := ⟨⟨(wa_mem (tb4 (List.mem_of_getElem? (i := 64) rfl)) rfl), (wa_mem (tb1 (List.mem_of_getElem? (i := 10) rfl)) rfl), by decide +kernel, by decide +kernel, by decide +kernel⟩, (wa_mem (tb4 (List.mem_of_getElem? (i := 62) rfl)) rfl), (wa_mem (tb4 (List.mem_of_getElem? (i := 63) rfl)) rfl)⟩
theorem caX2_keepName : CaV yX2_keepName (.code yX2_keepName cX2_keepName 4 none) 3 := ⟨⟨(wa_mem (tb4 (List.mem_of_getElem? (i := 60) rfl)) rfl), (wa_mem (tb1 (List.mem_of_getElem? (i := 10) rfl)) rfl), by decide +kernel, by decide +kernel, by decide +kernel⟩, (wa_mem (tb4 (List.mem_of_getElem? (i := 58) rfl)) rfl), (wa_mem (tb4 (List.mem_of_getElem? (i := 59) rfl)) rfl)⟩
theorem caX2_nameLengthOf : CaV yX2_nameLengthOf (.code yX2_nameLengthOf cX2_nameLengthOf 2 (some .int)) 1 := ⟨⟨(wa_mem (tb5 (List.mem_of_getElem? (i := 112) rfl)) rfl), (wa_mem (tb1 (List.mem_of_getElem? (i := 10) rfl)) rfl), by decide +kernel, by decide +kernel, by decide +kernel⟩, (wa_mem (tb5 (List.mem_of_getElem? (i := 110) rfl)) rfl), (wa_mem (tb5 (List.mem_of_getElem? (i := 111) rfl)) rfl)⟩
theorem caX2_namePlaceOf : CaV yX2_namePlaceOf (.code yX2_namePlaceOf cX2_namePlaceOf 2 (some .int)) 1 := ⟨⟨(wa_mem (tb6 (List.mem_of_getElem? (i := 31) rfl)) rfl), (wa_mem (tb1 (List.mem_of_getElem? (i := 10) rfl)) rfl), by decide +kernel, by decide +kernel, by decide +kernel⟩, (wa_mem (tb6 (List.mem_of_getElem? (i := 29) rfl)) rfl), (wa_mem (tb6 (List.mem_of_getElem? (i := 30) rfl)) rfl)⟩
theorem caX2_namedFor : CaV yX2_namedFor (.code yX2_namedFor cX2_namedFor 4 (some .int)) 1 := ⟨⟨(wa_mem (tb5 (List.mem_of_getElem? (i := 107) rfl)) rfl), (wa_mem (tb1 (List.mem_of_getElem? (i := 10) rfl)) rfl), by decide +kernel, by decide +kernel, by decide +kernel⟩, (wa_mem (tb5 (List.mem_of_getElem? (i := 105) rfl)) rfl), (wa_mem (tb5 (List.mem_of_getElem? (i := 106) rfl)) rfl)⟩
theorem caX2_originOf : CaV yX2_originOf (.code yX2_originOf cX2_originOf 2 (some .int)) 1 := ⟨⟨(wa_mem (tb5 (List.mem_of_getElem? (i := 98) rfl)) rfl), (wa_mem (tb1 (List.mem_of_getElem? (i := 10) rfl)) rfl), by decide +kernel, by decide +kernel, by decide +kernel⟩, (wa_mem (tb5 (List.mem_of_getElem? (i := 96) rfl)) rfl), (wa_mem (tb5 (List.mem_of_getElem? (i := 97) rfl)) rfl)⟩
theorem caX2_parentOf : CaV yX2_parentOf (.code yX2_parentOf cX2_parentOf 2 (some .int)) 1 := ⟨⟨(wa_mem (tb5 (List.mem_of_getElem? (i := 93) rfl)) rfl), (wa_mem (tb1 (List.mem_of_getElem? (i := 10) rfl)) rfl), by decide +kernel, by decide +kernel, by decide +kernel⟩, (wa_mem (tb5 (List.mem_of_getElem? (i := 91) rfl)) rfl), (wa_mem (tb5 (List.mem_of_getElem? (i := 92) rfl)) rfl)⟩
theorem caX2_placeOf : CaV yX2_placeOf (.code yX2_placeOf cX2_placeOf 2 (some .int)) 1 := ⟨⟨(wa_mem (tb4 (List.mem_of_getElem? (i := 109) rfl)) rfl), (wa_mem (tb1 (List.mem_of_getElem? (i := 10) rfl)) rfl), by decide +kernel, by decide +kernel, by decide +kernel⟩, (wa_mem (tb4 (List.mem_of_getElem? (i := 107) rfl)) rfl), (wa_mem (tb4 (List.mem_of_getElem? (i := 108) rfl)) rfl)⟩
theorem caX2_placedAt : CaV yX2_placedAt (.code yX2_placedAt cX2_placedAt 9 (some .int)) 2 := ⟨⟨(wa_mem (tb4 (List.mem_of_getElem? (i := 105) rfl)) rfl), (wa_mem (tb1 (List.mem_of_getElem? (i := 10) rfl)) rfl), by decide +kernel, by decide +kernel, by decide +kernel⟩, (wa_mem (tb4 (List.mem_of_getElem? (i := 103) rfl)) rfl), (wa_mem (tb4 (List.mem_of_getElem? (i := 104) rfl)) rfl)⟩
theorem caX2_rangeTotalOf : CaV yX2_rangeTotalOf (.code yX2_rangeTotalOf cX2_rangeTotalOf 2 (some .int)) 1 := ⟨⟨(wa_mem (tb5 (List.mem_of_getElem? (i := 102) rfl)) rfl), (wa_mem (tb1 (List.mem_of_getElem? (i := 10) rfl)) rfl), by decide +kernel, by decide +kernel, by decide +kernel⟩, (wa_mem (tb5 (List.mem_of_getElem? (i := 100) rfl)) rfl), (wa_mem (tb5 (List.mem_of_getElem? (i := 101) rfl)) rfl)⟩
theorem caX2_setRanges : CaV yX2_setRanges (.code yX2_setRanges cX2_setRanges 4 none) 3 := ⟨⟨(wa_mem (tb4 (List.mem_of_getElem? (i := 167) rfl)) rfl), (wa_mem (tb1 (List.mem_of_getElem? (i := 10) rfl)) rfl), by decide +kernel, by decide +kernel, by decide +kernel⟩, (wa_mem (tb4 (List.mem_of_getElem? (i := 165) rfl)) rfl), (wa_mem (tb4 (List.mem_of_getElem? (i := 166) rfl)) rfl)⟩
theorem caX2_settleOrigin : CaV yX2_settleOrigin (.code yX2_settleOrigin cX2_settleOrigin 5 none) 2 := ⟨⟨(wa_mem (tb4 (List.mem_of_getElem? (i := 113) rfl)) rfl), (wa_mem (tb1 (List.mem_of_getElem? (i := 10) rfl)) rfl), by decide +kernel, by decide +kernel, by decide +kernel⟩, (wa_mem (tb4 (List.mem_of_getElem? (i := 111) rfl)) rfl), (wa_mem (tb4 (List.mem_of_getElem? (i := 112) rfl)) rfl)⟩
theorem caX2_tagOf : CaV yX2_tagOf (.code yX2_tagOf cX2_tagOf 2 (some .long)) 1 := ⟨⟨(wa_mem (tb5 (List.mem_of_getElem? (i := 89) rfl)) rfl), (wa_mem (tb1 (List.mem_of_getElem? (i := 10) rfl)) rfl), by decide +kernel, by decide +kernel, by decide +kernel⟩, (wa_mem (tb5 (List.mem_of_getElem? (i := 87) rfl)) rfl), (wa_mem (tb5 (List.mem_of_getElem? (i := 88) rfl)) rfl)⟩
theorem caX2_total : CaV yX2_total (.code yX2_total cX2_total 1 (some .int)) 0 := ⟨⟨(wa_mem (tb3 (List.mem_of_getElem? (i := 180) rfl)) rfl), (wa_mem (tb1 (List.mem_of_getElem? (i := 10) rfl)) rfl), by decide +kernel, by decide +kernel, by decide +kernel⟩, (wa_mem (tb3 (List.mem_of_getElem? (i := 178) rfl)) rfl), (wa_mem (tb3 (List.mem_of_getElem? (i := 179) rfl)) rfl)⟩
theorem caX2_unitOf : CaV yX2_unitOf (.code yX2_unitOf cX2_unitOf 2 (some .int)) 1 := ⟨⟨(wa_mem (tb4 (List.mem_of_getElem? (i := 143) rfl)) rfl), (wa_mem (tb1 (List.mem_of_getElem? (i := 10) rfl)) rfl), by decide +kernel, by decide +kernel, by decide +kernel⟩, (wa_mem (tb4 (List.mem_of_getElem? (i := 141) rfl)) rfl), (wa_mem (tb4 (List.mem_of_getElem? (i := 142) rfl)) rfl)⟩
theorem caX2_valueOr : CaV yX2_valueOr (.code yX2_valueOr cX2_valueOr 5 (some .long)) 3 := ⟨⟨(wa_mem (tb4 (List.mem_of_getElem? (i := 118) rfl)) rfl), (wa_mem (tb1 (List.mem_of_getElem? (i := 10) rfl)) rfl), by decide +kernel, by decide +kernel, by decide +kernel⟩, (wa_mem (tb4 (List.mem_of_getElem? (i := 116) rfl)) rfl), (wa_mem (tb4 (List.mem_of_getElem? (i := 117) rfl)) rfl)⟩
theorem caX3_childHolding : CaV yX3_childHolding (.code yX3_childHolding cX3_childHolding 8 (some .int)) 2 := ⟨⟨(wa_mem (tb5 (List.mem_of_getElem? (i := 188) rfl)) rfl), (wa_mem (tb1 (List.mem_of_getElem? (i := 7) rfl)) rfl), by decide +kernel, by decide +kernel, by decide +kernel⟩, (wa_mem (tb5 (List.mem_of_getElem? (i := 186) rfl)) rfl), (wa_mem (tb5 (List.mem_of_getElem? (i := 187) rfl)) rfl)⟩
theorem caX3_entryHolds : CaV yX3_entryHolds (.code yX3_entryHolds cX3_entryHolds 4 (some .boolean)) 2 := ⟨⟨(wa_mem (tb5 (List.mem_of_getElem? (i := 121) rfl)) rfl), (wa_mem (tb1 (List.mem_of_getElem? (i := 7) rfl)) rfl), by decide +kernel, by decide +kernel, by decide +kernel⟩, (wa_mem (tb5 (List.mem_of_getElem? (i := 119) rfl)) rfl), (wa_mem (tb5 (List.mem_of_getElem? (i := 120) rfl)) rfl)⟩
theorem caX3_functionHolding : CaV yX3_functionHolding (.code yX3_functionHolding cX3_functionHolding 4 (some .int)) 1 := ⟨⟨(wa_mem (tb5 (List.mem_of_getElem? (i := 177) rfl)) rfl), (wa_mem (tb1 (List.mem_of_getElem? (i := 7) rfl)) rfl), by decide +kernel, by decide +kernel, by decide +kernel⟩, (wa_mem (tb5 (List.mem_of_getElem? (i := 175) rfl)) rfl), (wa_mem (tb5 (List.mem_of_getElem? (i := 176) rfl)) rfl)⟩
theorem caX4_addRow : CaV yX4_addRow (.code yX4_addRow cX4_addRow 7 none) 3 := ⟨⟨(wa_mem (tb5 (List.mem_of_getElem? (i := 37) rfl)) rfl), (wa_mem (tb1 (List.mem_of_getElem? (i := 12) rfl)) rfl), by decide +kernel, by decide +kernel, by decide +kernel⟩, (wa_mem (tb5 (List.mem_of_getElem? (i := 36) rfl)) rfl), (wa_mem (tbp (q := (yX4_addRow, 19)) (List.mem_of_getElem? (i := 36) rfl)) rfl)⟩
theorem caX4_addressOf : CaV yX4_addressOf (.code yX4_addressOf cX4_addressOf 2 (some .long)) 1 := ⟨⟨(wa_mem (tb5 (List.mem_of_getElem? (i := 164) rfl)) rfl), (wa_mem (tb1 (List.mem_of_getElem? (i := 12) rfl)) rfl), by decide +kernel, by decide +kernel, by decide +kernel⟩, (wa_mem (tb5 (List.mem_of_getElem? (i := 162) rfl)) rfl), (wa_mem (tb5 (List.mem_of_getElem? (i := 163) rfl)) rfl)⟩
theorem caX4_advance : CaV yX4_advance (.code yX4_advance cX4_advance 5 none) 1 := ⟨⟨(wa_mem (tb5 (List.mem_of_getElem? (i := 29) rfl)) rfl), (wa_mem (tb1 (List.mem_of_getElem? (i := 12) rfl)) rfl), by decide +kernel, by decide +kernel, by decide +kernel⟩, (wa_mem (tb5 (List.mem_of_getElem? (i := 28) rfl)) rfl), (wa_mem (tbp (q := (yX4_advance, 19)) (List.mem_of_getElem? (i := 34) rfl)) rfl)⟩
theorem caX4_advanceLine : CaV yX4_advanceLine (.code yX4_advanceLine cX4_advanceLine 5 none) 1 := ⟨⟨(wa_mem (tb5 (List.mem_of_getElem? (i := 33) rfl)) rfl), (wa_mem (tb1 (List.mem_of_getElem? (i := 12) rfl)) rfl), by decide +kernel, by decide +kernel, by decide +kernel⟩, (wa_mem (tb5 (List.mem_of_getElem? (i := 32) rfl)) rfl), (wa_mem (tbp (q := (yX4_advanceLine, 19)) (List.mem_of_getElem? (i := 35) rfl)) rfl)⟩
theorem caX4_advanceSteps : CaV yX4_advanceSteps (.code yX4_advanceSteps cX4_advanceSteps 7 none) 1 := ⟨⟨(wa_mem (tb5 (List.mem_of_getElem? (i := 24) rfl)) rfl), (wa_mem (tb1 (List.mem_of_getElem? (i := 12) rfl)) rfl), by decide +kernel, by decide +kernel, by decide +kernel⟩, (wa_mem (tb5 (List.mem_of_getElem? (i := 23) rfl)) rfl), (wa_mem (tbp (q := (yX4_advanceSteps, 19)) (List.mem_of_getElem? (i := 33) rfl)) rfl)⟩
theorem caX4_beginSequence : CaV yX4_beginSequence (.code yX4_beginSequence cX4_beginSequence 1 none) 0 := ⟨⟨(wa_mem (tb5 (List.mem_of_getElem? (i := 3) rfl)) rfl), (wa_mem (tb1 (List.mem_of_getElem? (i := 12) rfl)) rfl), by decide +kernel, by decide +kernel, by decide +kernel⟩, (wa_mem (tb5 (List.mem_of_getElem? (i := 2) rfl)) rfl), (wa_mem (tbp (q := (yX4_beginSequence, 19)) (List.mem_of_getElem? (i := 28) rfl)) rfl)⟩
theorem caX4_endsAt : CaV yX4_endsAt (.code yX4_endsAt cX4_endsAt 2 (some .boolean)) 1 := ⟨⟨(wa_mem (tb5 (List.mem_of_getElem? (i := 156) rfl)) rfl), (wa_mem (tb1 (List.mem_of_getElem? (i := 12) rfl)) rfl), by decide +kernel, by decide +kernel, by decide +kernel⟩, (wa_mem (tb5 (List.mem_of_getElem? (i := 154) rfl)) rfl), (wa_mem (tb5 (List.mem_of_getElem? (i := 155) rfl)) rfl)⟩
theorem caX4_fileOf : CaV yX4_fileOf (.code yX4_fileOf cX4_fileOf 2 (some .int)) 1 := ⟨⟨(wa_mem (tb5 (List.mem_of_getElem? (i := 148) rfl)) rfl), (wa_mem (tb1 (List.mem_of_getElem? (i := 12) rfl)) rfl), by decide +kernel, by decide +kernel, by decide +kernel⟩, (wa_mem (tb5 (List.mem_of_getElem? (i := 146) rfl)) rfl), (wa_mem (tb5 (List.mem_of_getElem? (i := 147) rfl)) rfl)⟩
theorem caX4_governing : CaV yX4_governing (.code yX4_governing cX4_governing 6 (some .int)) 2 := ⟨⟨(wa_mem (tb5 (List.mem_of_getElem? (i := 201) rfl)) rfl), (wa_mem (tb1 (List.mem_of_getElem? (i := 12) rfl)) rfl), by decide +kernel, by decide +kernel, by decide +kernel⟩, (wa_mem (tb5 (List.mem_of_getElem? (i := 199) rfl)) rfl), (wa_mem (tb5 (List.mem_of_getElem? (i := 200) rfl)) rfl)⟩
theorem caX4_has : CaV yX4_has (.code yX4_has cX4_has 2 (some .boolean)) 1 := ⟨⟨(wa_mem (tb5 (List.mem_of_getElem? (i := 140) rfl)) rfl), (wa_mem (tb1 (List.mem_of_getElem? (i := 12) rfl)) rfl), by decide +kernel, by decide +kernel, by decide +kernel⟩, (wa_mem (tb5 (List.mem_of_getElem? (i := 138) rfl)) rfl), (wa_mem (tb5 (List.mem_of_getElem? (i := 139) rfl)) rfl)⟩
theorem caX4_isRegister : CaS yX4_isRegister (.code yX4_isRegister cX4_isRegister 2 (some .boolean)) 1 := ⟨⟨(wa_mem (tb5 (List.mem_of_getElem? (i := 41) rfl)) rfl), (wa_mem (tb1 (List.mem_of_getElem? (i := 12) rfl)) rfl), by decide +kernel, by decide +kernel, by decide +kernel⟩, (wa_mem (tb5 (List.mem_of_getElem? (i := 40) rfl)) rfl)⟩
theorem caX4_lineOf : CaV yX4_lineOf (.code yX4_lineOf cX4_lineOf 2 (some .int)) 1 := ⟨⟨(wa_mem (tb5 (List.mem_of_getElem? (i := 152) rfl)) rfl), (wa_mem (tb1 (List.mem_of_getElem? (i := 12) rfl)) rfl), by decide +kernel, by decide +kernel, by decide +kernel⟩, (wa_mem (tb5 (List.mem_of_getElem? (i := 150) rfl)) rfl), (wa_mem (tb5 (List.mem_of_getElem? (i := 151) rfl)) rfl)⟩
theorem caX4_rangesIn : CaV yX4_rangesIn (.code yX4_rangesIn cX4_rangesIn 2 (some .int)) 1 := ⟨⟨(wa_mem (tb5 (List.mem_of_getElem? (i := 20) rfl)) rfl), (wa_mem (tb1 (List.mem_of_getElem? (i := 12) rfl)) rfl), by decide +kernel, by decide +kernel, by decide +kernel⟩, (wa_mem (tb5 (List.mem_of_getElem? (i := 19) rfl)) rfl), (wa_mem (tbp (q := (yX4_rangesIn, 19)) (List.mem_of_getElem? (i := 32) rfl)) rfl)⟩
theorem caX4_readAll : CaV yX4_readAll (.code yX4_readAll cX4_readAll 6 none) 3 := ⟨⟨(wa_mem (tb4 (List.mem_of_getElem? (i := 171) rfl)) rfl), (wa_mem (tb1 (List.mem_of_getElem? (i := 12) rfl)) rfl), by decide +kernel, by decide +kernel, by decide +kernel⟩, (wa_mem (tb4 (List.mem_of_getElem? (i := 169) rfl)) rfl), (wa_mem (tb4 (List.mem_of_getElem? (i := 170) rfl)) rfl)⟩
theorem caX4_readDirectories : CaV yX4_readDirectories (.code yX4_readDirectories cX4_readDirectories 5 (some .long)) 1 := ⟨⟨(wa_mem (tb4 (List.mem_of_getElem? (i := 210) rfl)) rfl), (wa_mem (tb1 (List.mem_of_getElem? (i := 12) rfl)) rfl), by decide +kernel, by decide +kernel, by decide +kernel⟩, (wa_mem (tb4 (List.mem_of_getElem? (i := 209) rfl)) rfl), (wa_mem (tbp (q := (yX4_readDirectories, 19)) (List.mem_of_getElem? (i := 25) rfl)) rfl)⟩
theorem caX4_readFiles : CaV yX4_readFiles (.code yX4_readFiles cX4_readFiles 13 none) 3 := ⟨⟨(wa_mem (tb4 (List.mem_of_getElem? (i := 221) rfl)) rfl), (wa_mem (tb1 (List.mem_of_getElem? (i := 12) rfl)) rfl), by decide +kernel, by decide +kernel, by decide +kernel⟩, (wa_mem (tb4 (List.mem_of_getElem? (i := 220) rfl)) rfl), (wa_mem (tbp (q := (yX4_readFiles, 19)) (List.mem_of_getElem? (i := 26) rfl)) rfl)⟩
theorem caX4_readHead : CaV yX4_readHead (.code yX4_readHead cX4_readHead 5 none) 1 := ⟨⟨(wa_mem (tb4 (List.mem_of_getElem? (i := 194) rfl)) rfl), (wa_mem (tb1 (List.mem_of_getElem? (i := 12) rfl)) rfl), by decide +kernel, by decide +kernel, by decide +kernel⟩, (wa_mem (tb4 (List.mem_of_getElem? (i := 193) rfl)) rfl), (wa_mem (tbp (q := (yX4_readHead, 19)) (List.mem_of_getElem? (i := 23) rfl)) rfl)⟩
theorem caX4_readOperands : CaV yX4_readOperands (.code yX4_readOperands cX4_readOperands 4 none) 1 := ⟨⟨(wa_mem (tb4 (List.mem_of_getElem? (i := 202) rfl)) rfl), (wa_mem (tb1 (List.mem_of_getElem? (i := 12) rfl)) rfl), by decide +kernel, by decide +kernel, by decide +kernel⟩, (wa_mem (tb4 (List.mem_of_getElem? (i := 201) rfl)) rfl), (wa_mem (tbp (q := (yX4_readOperands, 19)) (List.mem_of_getElem? (i := 24) rfl)) rfl)⟩
theorem caX4_readTable : CaV yX4_readTable (.code yX4_readTable cX4_readTable 6 none) 4 := ⟨⟨(wa_mem (tb4 (List.mem_of_getElem? (i := 180) rfl)) rfl), (wa_mem (tb1 (List.mem_of_getElem? (i := 12) rfl)) rfl), by decide +kernel, by decide +kernel, by decide +kernel⟩, (wa_mem (tb4 (List.mem_of_getElem? (i := 179) rfl)) rfl), (wa_mem (tbp (q := (yX4_readTable, 19)) (List.mem_of_getElem? (i := 22) rfl)) rfl)⟩
theorem caX4_runExtended : CaV yX4_runExtended (.code yX4_runExtended cX4_runExtended 7 none) 2 := ⟨⟨(wa_mem (tb5 (List.mem_of_getElem? (i := 47) rfl)) rfl), (wa_mem (tb1 (List.mem_of_getElem? (i := 12) rfl)) rfl), by decide +kernel, by decide +kernel, by decide +kernel⟩, (wa_mem (tb5 (List.mem_of_getElem? (i := 46) rfl)) rfl), (wa_mem (tbp (q := (yX4_runExtended, 19)) (List.mem_of_getElem? (i := 37) rfl)) rfl)⟩
theorem caX4_runOpcode : CaV yX4_runOpcode (.code yX4_runOpcode cX4_runOpcode 4 none) 1 := ⟨⟨(wa_mem (tb5 (List.mem_of_getElem? (i := 12) rfl)) rfl), (wa_mem (tb1 (List.mem_of_getElem? (i := 12) rfl)) rfl), by decide +kernel, by decide +kernel, by decide +kernel⟩, (wa_mem (tb5 (List.mem_of_getElem? (i := 11) rfl)) rfl), (wa_mem (tbp (q := (yX4_runOpcode, 19)) (List.mem_of_getElem? (i := 30) rfl)) rfl)⟩
theorem caX4_runProgram : CaV yX4_runProgram (.code yX4_runProgram cX4_runProgram 3 none) 1 := ⟨⟨(wa_mem (tb4 (List.mem_of_getElem? (i := 239) rfl)) rfl), (wa_mem (tb1 (List.mem_of_getElem? (i := 12) rfl)) rfl), by decide +kernel, by decide +kernel, by decide +kernel⟩, (wa_mem (tb4 (List.mem_of_getElem? (i := 238) rfl)) rfl), (wa_mem (tbp (q := (yX4_runProgram, 19)) (List.mem_of_getElem? (i := 27) rfl)) rfl)⟩
theorem caX4_runSpecial : CaV yX4_runSpecial (.code yX4_runSpecial cX4_runSpecial 5 none) 3 := ⟨⟨(wa_mem (tb5 (List.mem_of_getElem? (i := 16) rfl)) rfl), (wa_mem (tb1 (List.mem_of_getElem? (i := 12) rfl)) rfl), by decide +kernel, by decide +kernel, by decide +kernel⟩, (wa_mem (tb5 (List.mem_of_getElem? (i := 15) rfl)) rfl), (wa_mem (tbp (q := (yX4_runSpecial, 19)) (List.mem_of_getElem? (i := 31) rfl)) rfl)⟩
theorem caX4_setAddress : CaV yX4_setAddress (.code yX4_setAddress cX4_setAddress 3 none) 1 := ⟨⟨(wa_mem (tb5 (List.mem_of_getElem? (i := 7) rfl)) rfl), (wa_mem (tb1 (List.mem_of_getElem? (i := 12) rfl)) rfl), by decide +kernel, by decide +kernel, by decide +kernel⟩, (wa_mem (tb5 (List.mem_of_getElem? (i := 6) rfl)) rfl), (wa_mem (tbp (q := (yX4_setAddress, 19)) (List.mem_of_getElem? (i := 29) rfl)) rfl)⟩
theorem caX4_skipOperands : CaV yX4_skipOperands (.code yX4_skipOperands cX4_skipOperands 4 none) 2 := ⟨⟨(wa_mem (tb5 (List.mem_of_getElem? (i := 55) rfl)) rfl), (wa_mem (tb1 (List.mem_of_getElem? (i := 12) rfl)) rfl), by decide +kernel, by decide +kernel, by decide +kernel⟩, (wa_mem (tb5 (List.mem_of_getElem? (i := 54) rfl)) rfl), (wa_mem (tbp (q := (yX4_skipOperands, 19)) (List.mem_of_getElem? (i := 38) rfl)) rfl)⟩
theorem caX4_total : CaV yX4_total (.code yX4_total cX4_total 1 (some .int)) 0 := ⟨⟨(wa_mem (tb6 (List.mem_of_getElem? (i := 64) rfl)) rfl), (wa_mem (tb1 (List.mem_of_getElem? (i := 12) rfl)) rfl), by decide +kernel, by decide +kernel, by decide +kernel⟩, (wa_mem (tb6 (List.mem_of_getElem? (i := 62) rfl)) rfl), (wa_mem (tb6 (List.mem_of_getElem? (i := 63) rfl)) rfl)⟩
theorem caX4_unitOf : CaV yX4_unitOf (.code yX4_unitOf cX4_unitOf 2 (some .int)) 1 := ⟨⟨(wa_mem (tb5 (List.mem_of_getElem? (i := 144) rfl)) rfl), (wa_mem (tb1 (List.mem_of_getElem? (i := 12) rfl)) rfl), by decide +kernel, by decide +kernel, by decide +kernel⟩, (wa_mem (tb5 (List.mem_of_getElem? (i := 142) rfl)) rfl), (wa_mem (tb5 (List.mem_of_getElem? (i := 143) rfl)) rfl)⟩
theorem caX5_aboveSymbol : CaV yX5_aboveSymbol (.code yX5_aboveSymbol cX5_aboveSymbol 1 (some .int)) 0 := ⟨⟨(wa_mem (tb6 (List.mem_of_getElem? (i := 47) rfl)) rfl), (wa_mem (tb1 (List.mem_of_getElem? (i := 6) rfl)) rfl), by decide +kernel, by decide +kernel, by decide +kernel⟩, (wa_mem (tb6 (List.mem_of_getElem? (i := 45) rfl)) rfl), (wa_mem (tb6 (List.mem_of_getElem? (i := 46) rfl)) rfl)⟩
theorem caX5_entryOf : CaV yX5_entryOf (.code yX5_entryOf cX5_entryOf 2 (some .int)) 1 := ⟨⟨(wa_mem (tb5 (List.mem_of_getElem? (i := 195) rfl)) rfl), (wa_mem (tb1 (List.mem_of_getElem? (i := 6) rfl)) rfl), by decide +kernel, by decide +kernel, by decide +kernel⟩, (wa_mem (tb5 (List.mem_of_getElem? (i := 193) rfl)) rfl), (wa_mem (tb5 (List.mem_of_getElem? (i := 194) rfl)) rfl)⟩
theorem caX5_fileNumberOf : CaV yX5_fileNumberOf (.code yX5_fileNumberOf cX5_fileNumberOf 3 (some .int)) 2 := ⟨⟨(wa_mem (tb5 (List.mem_of_getElem? (i := 226) rfl)) rfl), (wa_mem (tb1 (List.mem_of_getElem? (i := 6) rfl)) rfl), by decide +kernel, by decide +kernel, by decide +kernel⟩, (wa_mem (tb5 (List.mem_of_getElem? (i := 224) rfl)) rfl), (wa_mem (tb5 (List.mem_of_getElem? (i := 225) rfl)) rfl)⟩
theorem caX5_fileOf : CaV yX5_fileOf (.code yX5_fileOf cX5_fileOf 4 (some .int)) 2 := ⟨⟨(wa_mem (tb5 (List.mem_of_getElem? (i := 237) rfl)) rfl), (wa_mem (tb1 (List.mem_of_getElem? (i := 6) rfl)) rfl), by decide +kernel, by decide +kernel, by decide +kernel⟩, (wa_mem (tb5 (List.mem_of_getElem? (i := 235) rfl)) rfl), (wa_mem (tb5 (List.mem_of_getElem? (i := 236) rfl)) rfl)⟩
theorem caX5_forget : CaV yX5_forget (.code yX5_forget cX5_forget 1 none) 0 := ⟨⟨(wa_mem (tb5 (List.mem_of_getElem? (i := 67) rfl)) rfl), (wa_mem (tb1 (List.mem_of_getElem? (i := 6) rfl)) rfl), by decide +kernel, by decide +kernel, by decide +kernel⟩, (wa_mem (tb5 (List.mem_of_getElem? (i := 65) rfl)) rfl), (wa_mem (tb5 (List.mem_of_getElem? (i := 66) rfl)) rfl)⟩
theorem caX5_lineNumberOf : CaV yX5_lineNumberOf (.code yX5_lineNumberOf cX5_lineNumberOf 3 (some .int)) 2 := ⟨⟨(wa_mem (tb5 (List.mem_of_getElem? (i := 232) rfl)) rfl), (wa_mem (tb1 (List.mem_of_getElem? (i := 6) rfl)) rfl), by decide +kernel, by decide +kernel, by decide +kernel⟩, (wa_mem (tb5 (List.mem_of_getElem? (i := 230) rfl)) rfl), (wa_mem (tb5 (List.mem_of_getElem? (i := 231) rfl)) rfl)⟩
theorem caX5_seek : CaV yX5_seek (.code yX5_seek cX5_seek 6 (some .int)) 2 := ⟨⟨(wa_mem (tb5 (List.mem_of_getElem? (i := 172) rfl)) rfl), (wa_mem (tb1 (List.mem_of_getElem? (i := 6) rfl)) rfl), by decide +kernel, by decide +kernel, by decide +kernel⟩, (wa_mem (tb5 (List.mem_of_getElem? (i := 170) rfl)) rfl), (wa_mem (tb5 (List.mem_of_getElem? (i := 171) rfl)) rfl)⟩
theorem caX5_seekSymbol : CaV yX5_seekSymbol (.code yX5_seekSymbol cX5_seekSymbol 4 none) 2 := ⟨⟨(wa_mem (tb5 (List.mem_of_getElem? (i := 208) rfl)) rfl), (wa_mem (tb1 (List.mem_of_getElem? (i := 6) rfl)) rfl), by decide +kernel, by decide +kernel, by decide +kernel⟩, (wa_mem (tb5 (List.mem_of_getElem? (i := 207) rfl)) rfl), (wa_mem (tbp (q := (yX5_seekSymbol, 5)) (List.mem_of_getElem? (i := 40) rfl)) rfl)⟩
theorem caX5_symbolFound : CaV yX5_symbolFound (.code yX5_symbolFound cX5_symbolFound 1 (some .int)) 0 := ⟨⟨(wa_mem (tb6 (List.mem_of_getElem? (i := 14) rfl)) rfl), (wa_mem (tb1 (List.mem_of_getElem? (i := 6) rfl)) rfl), by decide +kernel, by decide +kernel, by decide +kernel⟩, (wa_mem (tb6 (List.mem_of_getElem? (i := 12) rfl)) rfl), (wa_mem (tb6 (List.mem_of_getElem? (i := 13) rfl)) rfl)⟩
theorem caX6_add : CaV yX6_add (.code yX6_add cX6_add 7 none) 4 := ⟨⟨(wa_mem (tb4 (List.mem_of_getElem? (i := 134) rfl)) rfl), (wa_mem (tb1 (List.mem_of_getElem? (i := 11) rfl)) rfl), by decide +kernel, by decide +kernel, by decide +kernel⟩, (wa_mem (tb4 (List.mem_of_getElem? (i := 133) rfl)) rfl), (wa_mem (tbp (q := (yX6_add, 4)) (List.mem_of_getElem? (i := 19) rfl)) rfl)⟩
theorem caX6_oneHolds : CaV yX6_oneHolds (.code yX6_oneHolds cX6_oneHolds 6 (some .boolean)) 3 := ⟨⟨(wa_mem (tb5 (List.mem_of_getElem? (i := 131) rfl)) rfl), (wa_mem (tb1 (List.mem_of_getElem? (i := 11) rfl)) rfl), by decide +kernel, by decide +kernel, by decide +kernel⟩, (wa_mem (tb5 (List.mem_of_getElem? (i := 129) rfl)) rfl), (wa_mem (tb5 (List.mem_of_getElem? (i := 130) rfl)) rfl)⟩
theorem caX6_readAll : CaV yX6_readAll (.code yX6_readAll cX6_readAll 11 none) 3 := ⟨⟨(wa_mem (tb4 (List.mem_of_getElem? (i := 125) rfl)) rfl), (wa_mem (tb1 (List.mem_of_getElem? (i := 11) rfl)) rfl), by decide +kernel, by decide +kernel, by decide +kernel⟩, (wa_mem (tb4 (List.mem_of_getElem? (i := 123) rfl)) rfl), (wa_mem (tb4 (List.mem_of_getElem? (i := 124) rfl)) rfl)⟩
theorem caX6_readList : CaV yX6_readList (.code yX6_readList cX6_readList 8 none) 4 := ⟨⟨(wa_mem (tb4 (List.mem_of_getElem? (i := 152) rfl)) rfl), (wa_mem (tb1 (List.mem_of_getElem? (i := 11) rfl)) rfl), by decide +kernel, by decide +kernel, by decide +kernel⟩, (wa_mem (tb4 (List.mem_of_getElem? (i := 151) rfl)) rfl), (wa_mem (tbp (q := (yX6_readList, 4)) (List.mem_of_getElem? (i := 20) rfl)) rfl)⟩
theorem caX6_readRow : CaV yX6_readRow (.code yX6_readRow cX6_readRow 6 (some .boolean)) 1 := ⟨⟨(wa_mem (tb4 (List.mem_of_getElem? (i := 160) rfl)) rfl), (wa_mem (tb1 (List.mem_of_getElem? (i := 11) rfl)) rfl), by decide +kernel, by decide +kernel, by decide +kernel⟩, (wa_mem (tb4 (List.mem_of_getElem? (i := 159) rfl)) rfl), (wa_mem (tbp (q := (yX6_readRow, 4)) (List.mem_of_getElem? (i := 21) rfl)) rfl)⟩
theorem caX6_total : CaV yX6_total (.code yX6_total cX6_total 1 (some .int)) 0 := ⟨⟨(wa_mem (tb6 (List.mem_of_getElem? (i := 60) rfl)) rfl), (wa_mem (tb1 (List.mem_of_getElem? (i := 11) rfl)) rfl), by decide +kernel, by decide +kernel, by decide +kernel⟩, (wa_mem (tb6 (List.mem_of_getElem? (i := 58) rfl)) rfl), (wa_mem (tb6 (List.mem_of_getElem? (i := 59) rfl)) rfl)⟩
theorem caX7_beginOf : CaV yX7_beginOf (.code yX7_beginOf cX7_beginOf 3 (some .int)) 1 := ⟨⟨(wa_mem (tb3 (List.mem_of_getElem? (i := 100) rfl)) rfl), (wa_mem (tb1 (List.mem_of_getElem? (i := 3) rfl)) rfl), by decide +kernel, by decide +kernel, by decide +kernel⟩, (wa_mem (tb3 (List.mem_of_getElem? (i := 98) rfl)) rfl), (wa_mem (tb3 (List.mem_of_getElem? (i := 99) rfl)) rfl)⟩
theorem caX7_isIn : CaV yX7_isIn (.code yX7_isIn cX7_isIn 4 (some .boolean)) 2 := ⟨⟨(wa_mem (tb3 (List.mem_of_getElem? (i := 170) rfl)) rfl), (wa_mem (tb1 (List.mem_of_getElem? (i := 3) rfl)) rfl), by decide +kernel, by decide +kernel, by decide +kernel⟩, (wa_mem (tb3 (List.mem_of_getElem? (i := 168) rfl)) rfl), (wa_mem (tb3 (List.mem_of_getElem? (i := 169) rfl)) rfl)⟩
theorem caX7_nameMeant : CaS yX7_nameMeant (.code yX7_nameMeant cX7_nameMeant 1 (some (.object "java/lang/String"))) 1 := ⟨⟨(wa_mem (tb3 (List.mem_of_getElem? (i := 28) rfl)) rfl), (wa_mem (tb1 (List.mem_of_getElem? (i := 3) rfl)) rfl), by decide +kernel, by decide +kernel, by decide +kernel⟩, (wa_mem (tb3 (List.mem_of_getElem? (i := 27) rfl)) rfl)⟩
theorem caX7_read : CaV yX7_read (.code yX7_read cX7_read 3 none) 1 := ⟨⟨(wa_mem (tb2 (List.mem_of_getElem? (i := 206) rfl)) rfl), (wa_mem (tb1 (List.mem_of_getElem? (i := 3) rfl)) rfl), by decide +kernel, by decide +kernel, by decide +kernel⟩, (wa_mem (tb2 (List.mem_of_getElem? (i := 204) rfl)) rfl), (wa_mem (tb2 (List.mem_of_getElem? (i := 205) rfl)) rfl)⟩
theorem caX7_readHead : CaV yX7_readHead (.code yX7_readHead cX7_readHead 8 none) 1 := ⟨⟨(wa_mem (tb2 (List.mem_of_getElem? (i := 213) rfl)) rfl), (wa_mem (tb1 (List.mem_of_getElem? (i := 3) rfl)) rfl), by decide +kernel, by decide +kernel, by decide +kernel⟩, (wa_mem (tb2 (List.mem_of_getElem? (i := 212) rfl)) rfl), (wa_mem (tbp (q := (yX7_readHead, 6)) (List.mem_of_getElem? (i := 1) rfl)) rfl)⟩
theorem caX7_readName : CaV yX7_readName (.code yX7_readName cX7_readName 9 none) 2 := ⟨⟨(wa_mem (tb3 (List.mem_of_getElem? (i := 13) rfl)) rfl), (wa_mem (tb1 (List.mem_of_getElem? (i := 3) rfl)) rfl), by decide +kernel, by decide +kernel, by decide +kernel⟩, (wa_mem (tb3 (List.mem_of_getElem? (i := 12) rfl)) rfl), (wa_mem (tbp (q := (yX7_readName, 6)) (List.mem_of_getElem? (i := 3) rfl)) rfl)⟩
theorem caX7_readRow : CaV yX7_readRow (.code yX7_readRow cX7_readRow 11 none) 2 := ⟨⟨(wa_mem (tb3 (List.mem_of_getElem? (i := 5) rfl)) rfl), (wa_mem (tb1 (List.mem_of_getElem? (i := 3) rfl)) rfl), by decide +kernel, by decide +kernel, by decide +kernel⟩, (wa_mem (tb3 (List.mem_of_getElem? (i := 4) rfl)) rfl), (wa_mem (tbp (q := (yX7_readRow, 6)) (List.mem_of_getElem? (i := 2) rfl)) rfl)⟩
theorem caX7_stopOf : CaV yX7_stopOf (.code yX7_stopOf cX7_stopOf 3 (some .int)) 1 := ⟨⟨(wa_mem (tb3 (List.mem_of_getElem? (i := 104) rfl)) rfl), (wa_mem (tb1 (List.mem_of_getElem? (i := 3) rfl)) rfl), by decide +kernel, by decide +kernel, by decide +kernel⟩, (wa_mem (tb3 (List.mem_of_getElem? (i := 102) rfl)) rfl), (wa_mem (tb3 (List.mem_of_getElem? (i := 103) rfl)) rfl)⟩
theorem caX7_total : CaV yX7_total (.code yX7_total cX7_total 1 (some .int)) 0 := ⟨⟨(wa_mem (tb3 (List.mem_of_getElem? (i := 92) rfl)) rfl), (wa_mem (tb1 (List.mem_of_getElem? (i := 3) rfl)) rfl), by decide +kernel, by decide +kernel, by decide +kernel⟩, (wa_mem (tb3 (List.mem_of_getElem? (i := 90) rfl)) rfl), (wa_mem (tb3 (List.mem_of_getElem? (i := 91) rfl)) rfl)⟩
theorem caX8_holding : CaV yX8_holding (.code yX8_holding cX8_holding 8 (some .int)) 1 := ⟨⟨(wa_mem (tb5 (List.mem_of_getElem? (i := 212) rfl)) rfl), (wa_mem (tb1 (List.mem_of_getElem? (i := 8) rfl)) rfl), by decide +kernel, by decide +kernel, by decide +kernel⟩, (wa_mem (tb5 (List.mem_of_getElem? (i := 210) rfl)) rfl), (wa_mem (tb5 (List.mem_of_getElem? (i := 211) rfl)) rfl)⟩
theorem caX8_nameLengthOf : CaV yX8_nameLengthOf (.code yX8_nameLengthOf cX8_nameLengthOf 2 (some .int)) 1 := ⟨⟨(wa_mem (tb6 (List.mem_of_getElem? (i := 23) rfl)) rfl), (wa_mem (tb1 (List.mem_of_getElem? (i := 8) rfl)) rfl), by decide +kernel, by decide +kernel, by decide +kernel⟩, (wa_mem (tb6 (List.mem_of_getElem? (i := 21) rfl)) rfl), (wa_mem (tb6 (List.mem_of_getElem? (i := 22) rfl)) rfl)⟩
theorem caX8_namePlaceOf : CaV yX8_namePlaceOf (.code yX8_namePlaceOf cX8_namePlaceOf 2 (some .int)) 1 := ⟨⟨(wa_mem (tb6 (List.mem_of_getElem? (i := 18) rfl)) rfl), (wa_mem (tb1 (List.mem_of_getElem? (i := 8) rfl)) rfl), by decide +kernel, by decide +kernel, by decide +kernel⟩, (wa_mem (tb6 (List.mem_of_getElem? (i := 16) rfl)) rfl), (wa_mem (tb6 (List.mem_of_getElem? (i := 17) rfl)) rfl)⟩
theorem caX8_read : CaV yX8_read (.code yX8_read cX8_read 7 none) 2 := ⟨⟨(wa_mem (tb3 (List.mem_of_getElem? (i := 96) rfl)) rfl), (wa_mem (tb1 (List.mem_of_getElem? (i := 8) rfl)) rfl), by decide +kernel, by decide +kernel, by decide +kernel⟩, (wa_mem (tb3 (List.mem_of_getElem? (i := 94) rfl)) rfl), (wa_mem (tb3 (List.mem_of_getElem? (i := 95) rfl)) rfl)⟩
theorem caX8_readRow : CaV yX8_readRow (.code yX8_readRow cX8_readRow 13 none) 3 := ⟨⟨(wa_mem (tb3 (List.mem_of_getElem? (i := 109) rfl)) rfl), (wa_mem (tb1 (List.mem_of_getElem? (i := 8) rfl)) rfl), by decide +kernel, by decide +kernel, by decide +kernel⟩, (wa_mem (tb3 (List.mem_of_getElem? (i := 108) rfl)) rfl), (wa_mem (tbp (q := (yX8_readRow, 5)) (List.mem_of_getElem? (i := 5) rfl)) rfl)⟩
theorem caX8_total : CaV yX8_total (.code yX8_total cX8_total 1 (some .int)) 0 := ⟨⟨(wa_mem (tb6 (List.mem_of_getElem? (i := 55) rfl)) rfl), (wa_mem (tb1 (List.mem_of_getElem? (i := 8) rfl)) rfl), by decide +kernel, by decide +kernel, by decide +kernel⟩, (wa_mem (tb6 (List.mem_of_getElem? (i := 53) rfl)) rfl), (wa_mem (tb6 (List.mem_of_getElem? (i := 54) rfl)) rfl)⟩
theorem caX8_valueOf : CaV yX8_valueOf (.code yX8_valueOf cX8_valueOf 2 (some .long)) 1 := ⟨⟨(wa_mem (tb5 (List.mem_of_getElem? (i := 217) rfl)) rfl), (wa_mem (tb1 (List.mem_of_getElem? (i := 8) rfl)) rfl), by decide +kernel, by decide +kernel, by decide +kernel⟩, (wa_mem (tb5 (List.mem_of_getElem? (i := 215) rfl)) rfl), (wa_mem (tb5 (List.mem_of_getElem? (i := 216) rfl)) rfl)⟩
theorem caX9_columnOf : CaS yX9_columnOf (.code yX9_columnOf cX9_columnOf 3 (some .int)) 2 := ⟨⟨(wa_mem (tb4 (List.mem_of_getElem? (i := 85) rfl)) rfl), (wa_mem (tb1 (List.mem_of_getElem? (i := 4) rfl)) rfl), by decide +kernel, by decide +kernel, by decide +kernel⟩, (wa_mem (tb4 (List.mem_of_getElem? (i := 84) rfl)) rfl)⟩
theorem caX9_isCountForm : CaS yX9_isCountForm (.code yX9_isCountForm cX9_isCountForm 1 (some .boolean)) 1 := ⟨⟨(wa_mem (tb4 (List.mem_of_getElem? (i := 82) rfl)) rfl), (wa_mem (tb1 (List.mem_of_getElem? (i := 4) rfl)) rfl), by decide +kernel, by decide +kernel, by decide +kernel⟩, (wa_mem (tb4 (List.mem_of_getElem? (i := 81) rfl)) rfl)⟩
theorem caX9_keepHigh : CaV yX9_keepHigh (.code yX9_keepHigh cX9_keepHigh 6 none) 4 := ⟨⟨(wa_mem (tb4 (List.mem_of_getElem? (i := 74) rfl)) rfl), (wa_mem (tb1 (List.mem_of_getElem? (i := 4) rfl)) rfl), by decide +kernel, by decide +kernel, by decide +kernel⟩, (wa_mem (tb4 (List.mem_of_getElem? (i := 73) rfl)) rfl), (wa_mem (tbp (q := (yX9_keepHigh, 10)) (List.mem_of_getElem? (i := 17) rfl)) rfl)⟩
theorem caX9_keepValue : CaV yX9_keepValue (.code yX9_keepValue cX9_keepValue 9 none) 5 := ⟨⟨(wa_mem (tb4 (List.mem_of_getElem? (i := 55) rfl)) rfl), (wa_mem (tb1 (List.mem_of_getElem? (i := 4) rfl)) rfl), by decide +kernel, by decide +kernel, by decide +kernel⟩, (wa_mem (tb4 (List.mem_of_getElem? (i := 54) rfl)) rfl), (wa_mem (tbp (q := (yX9_keepValue, 10)) (List.mem_of_getElem? (i := 16) rfl)) rfl)⟩
theorem caX9_readAddress : CaV yX9_readAddress (.code yX9_readAddress cX9_readAddress 4 (some .long)) 0 := ⟨⟨(wa_mem (tb4 (List.mem_of_getElem? (i := 27) rfl)) rfl), (wa_mem (tb1 (List.mem_of_getElem? (i := 4) rfl)) rfl), by decide +kernel, by decide +kernel, by decide +kernel⟩, (wa_mem (tb4 (List.mem_of_getElem? (i := 26) rfl)) rfl), (wa_mem (tbp (q := (yX9_readAddress, 10)) (List.mem_of_getElem? (i := 12) rfl)) rfl)⟩
theorem caX9_readAll : CaV yX9_readAll (.code yX9_readAll cX9_readAll 10 none) 1 := ⟨⟨(wa_mem (tb3 (List.mem_of_getElem? (i := 121) rfl)) rfl), (wa_mem (tb1 (List.mem_of_getElem? (i := 4) rfl)) rfl), by decide +kernel, by decide +kernel, by decide +kernel⟩, (wa_mem (tb3 (List.mem_of_getElem? (i := 119) rfl)) rfl), (wa_mem (tb3 (List.mem_of_getElem? (i := 120) rfl)) rfl)⟩
theorem caX9_readEntries : CaV yX9_readEntries (.code yX9_readEntries cX9_readEntries 8 none) 2 := ⟨⟨(wa_mem (tb3 (List.mem_of_getElem? (i := 230) rfl)) rfl), (wa_mem (tb1 (List.mem_of_getElem? (i := 4) rfl)) rfl), by decide +kernel, by decide +kernel, by decide +kernel⟩, (wa_mem (tb3 (List.mem_of_getElem? (i := 229) rfl)) rfl), (wa_mem (tbp (q := (yX9_readEntries, 10)) (List.mem_of_getElem? (i := 9) rfl)) rfl)⟩
theorem caX9_readEntry : CaV yX9_readEntry (.code yX9_readEntry cX9_readEntry 14 none) 4 := ⟨⟨(wa_mem (tb3 (List.mem_of_getElem? (i := 235) rfl)) rfl), (wa_mem (tb1 (List.mem_of_getElem? (i := 4) rfl)) rfl), by decide +kernel, by decide +kernel, by decide +kernel⟩, (wa_mem (tb3 (List.mem_of_getElem? (i := 234) rfl)) rfl), (wa_mem (tbp (q := (yX9_readEntry, 10)) (List.mem_of_getElem? (i := 10) rfl)) rfl)⟩
theorem caX9_readHead : CaV yX9_readHead (.code yX9_readHead cX9_readHead 5 (some .long)) 1 := ⟨⟨(wa_mem (tb3 (List.mem_of_getElem? (i := 137) rfl)) rfl), (wa_mem (tb1 (List.mem_of_getElem? (i := 4) rfl)) rfl), by decide +kernel, by decide +kernel, by decide +kernel⟩, (wa_mem (tb3 (List.mem_of_getElem? (i := 136) rfl)) rfl), (wa_mem (tbp (q := (yX9_readHead, 10)) (List.mem_of_getElem? (i := 6) rfl)) rfl)⟩
theorem caX9_readReference : CaV yX9_readReference (.code yX9_readReference cX9_readReference 4 (some .long)) 0 := ⟨⟨(wa_mem (tb4 (List.mem_of_getElem? (i := 41) rfl)) rfl), (wa_mem (tb1 (List.mem_of_getElem? (i := 4) rfl)) rfl), by decide +kernel, by decide +kernel, by decide +kernel⟩, (wa_mem (tb4 (List.mem_of_getElem? (i := 40) rfl)) rfl), (wa_mem (tbp (q := (yX9_readReference, 10)) (List.mem_of_getElem? (i := 14) rfl)) rfl)⟩
theorem caX9_readToldText : CaV yX9_readToldText (.code yX9_readToldText cX9_readToldText 5 (some .long)) 0 := ⟨⟨(wa_mem (tb4 (List.mem_of_getElem? (i := 36) rfl)) rfl), (wa_mem (tb1 (List.mem_of_getElem? (i := 4) rfl)) rfl), by decide +kernel, by decide +kernel, by decide +kernel⟩, (wa_mem (tb4 (List.mem_of_getElem? (i := 35) rfl)) rfl), (wa_mem (tbp (q := (yX9_readToldText, 10)) (List.mem_of_getElem? (i := 13) rfl)) rfl)⟩
theorem caX9_readValue : CaV yX9_readValue (.code yX9_readValue cX9_readValue 4 (some .long)) 2 := ⟨⟨(wa_mem (tb4 (List.mem_of_getElem? (i := 23) rfl)) rfl), (wa_mem (tb1 (List.mem_of_getElem? (i := 4) rfl)) rfl), by decide +kernel, by decide +kernel, by decide +kernel⟩, (wa_mem (tb4 (List.mem_of_getElem? (i := 22) rfl)) rfl), (wa_mem (tbp (q := (yX9_readValue, 10)) (List.mem_of_getElem? (i := 11) rfl)) rfl)⟩
theorem caX9_settleReferences : CaV yX9_settleReferences (.code yX9_settleReferences cX9_settleReferences 5 none) 2 := ⟨⟨(wa_mem (tb4 (List.mem_of_getElem? (i := 100) rfl)) rfl), (wa_mem (tb1 (List.mem_of_getElem? (i := 4) rfl)) rfl), by decide +kernel, by decide +kernel, by decide +kernel⟩, (wa_mem (tb4 (List.mem_of_getElem? (i := 99) rfl)) rfl), (wa_mem (tbp (q := (yX9_settleReferences, 10)) (List.mem_of_getElem? (i := 18) rfl)) rfl)⟩
theorem caX9_skipBytes : CaV yX9_skipBytes (.code yX9_skipBytes cX9_skipBytes 4 (some .long)) 0 := ⟨⟨(wa_mem (tb4 (List.mem_of_getElem? (i := 46) rfl)) rfl), (wa_mem (tb1 (List.mem_of_getElem? (i := 4) rfl)) rfl), by decide +kernel, by decide +kernel, by decide +kernel⟩, (wa_mem (tb4 (List.mem_of_getElem? (i := 45) rfl)) rfl), (wa_mem (tbp (q := (yX9_skipBytes, 10)) (List.mem_of_getElem? (i := 15) rfl)) rfl)⟩
