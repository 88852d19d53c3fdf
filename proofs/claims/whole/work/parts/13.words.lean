theorem tb1 {w : Cond} (h : w ∈ tables_1_1) : w ∈ lw_tbl := List.mem_append_right _ (show w ∈ tables_1 from List.mem_append_left _ h)
theorem tb2 {w : Cond} (h : w ∈ tables_1_2) : w ∈ lw_tbl := List.mem_append_right _ (show w ∈ tables_1 from List.mem_append_right _ (List.mem_append_left _ h))
theorem tb3 {w : Cond} (h : w ∈ tables_1_3) : w ∈ lw_tbl := List.mem_append_right _ (show w ∈ tables_1 from List.mem_append_right _ (List.mem_append_right _ (List.mem_append_left _ h)))
theorem tb4 {w : Cond} (h : w ∈ tables_1_4) : w ∈ lw_tbl := List.mem_append_right _ (show w ∈ tables_1 from List.mem_append_right _ (List.mem_append_right _ (List.mem_append_right _ (List.mem_append_left _ h))))
theorem tb5 {w : Cond} (h : w ∈ tables_1_5) : w ∈ lw_tbl := List.mem_append_right _ (show w ∈ tables_1 from List.mem_append_right _ (List.mem_append_right _ (List.mem_append_right _ (List.mem_append_right _ (List.mem_append_left _ h)))))
theorem tb6 {w : Cond} (h : w ∈ tables_1_6) : w ∈ lw_tbl := List.mem_append_right _ (show w ∈ tables_1 from List.mem_append_right _ (List.mem_append_right _ (List.mem_append_right _ (List.mem_append_right _ (List.mem_append_right _ (List.mem_append_left _ h))))))
theorem tb7 {w : Cond} (h : w ∈ tables_1_7) : w ∈ lw_tbl := List.mem_append_right _ (show w ∈ tables_1 from List.mem_append_right _ (List.mem_append_right _ (List.mem_append_right _ (List.mem_append_right _ (List.mem_append_right _ (List.mem_append_right _ (List.mem_append_left _ h)))))))
theorem tb8 {w : Cond} (h : w ∈ tables_1_8) : w ∈ lw_tbl := List.mem_append_right _ (show w ∈ tables_1 from List.mem_append_right _ (List.mem_append_right _ (List.mem_append_right _ (List.mem_append_right _ (List.mem_append_right _ (List.mem_append_right _ (List.mem_append_right _ (h))))))))
theorem tbp {q : MethodName × Nat} (h : q ∈ lw_privs) : Cond.selects q.1.cls q.1 q.1 ∈ lw_tbl := List.mem_append_left _ (List.mem_map.mpr ⟨q, h, rfl⟩)
theorem w125 : (Cond.fieldLink RX1 9 "AddressNamer$Cursor" "bytes" "[B") ∈ WA := wa_mem (tb1 (List.mem_of_getElem? (i := 34) rfl)) rfl
theorem w126 : (Cond.fieldLink RX1 19 "AddressNamer$Cursor" "size" "I") ∈ WA := wa_mem (tb1 (List.mem_of_getElem? (i := 35) rfl)) rfl
theorem w127 : (Cond.fieldLink RX1 29 "AddressNamer$Cursor" "place" "I") ∈ WA := wa_mem (tb1 (List.mem_of_getElem? (i := 36) rfl)) rfl
theorem w128 : (Cond.fieldLink RX1 32 "AddressNamer$Cursor" "stop" "I") ∈ WA := wa_mem (tb1 (List.mem_of_getElem? (i := 37) rfl)) rfl
theorem w129 : (Cond.fieldLink RX1 22 "AddressNamer$Cursor" "faultNumber" "I") ∈ WA := wa_mem (tb1 (List.mem_of_getElem? (i := 38) rfl)) rfl
theorem w130 : (Cond.fieldLink RX1 15 "AddressNamer$Cursor" "faultPlace" "I") ∈ WA := wa_mem (tb1 (List.mem_of_getElem? (i := 39) rfl)) rfl
theorem w524 : (Cond.methodLink RX1 25 yX1_within) ∈ WA := wa_mem (tb2 (List.mem_of_getElem? (i := 193) rfl)) rfl
theorem w586 : (Cond.methodLink RX1 43 yX1_refuse) ∈ WA := wa_mem (tb3 (List.mem_of_getElem? (i := 15) rfl)) rfl
theorem w587 : (Cond.methodLink RX1 64 yX1_textLength) ∈ WA := wa_mem (tb3 (List.mem_of_getElem? (i := 16) rfl)) rfl
theorem w615 : (Cond.methodLink RX1 58 yX1_byteAt) ∈ WA := wa_mem (tb3 (List.mem_of_getElem? (i := 44) rfl)) rfl
theorem w707 : (Cond.methodLink RX1 50 yX1_number) ∈ WA := wa_mem (tb3 (List.mem_of_getElem? (i := 136) rfl)) rfl
theorem w711 : (Cond.methodLink RX1 35 yX1_sound) ∈ WA := wa_mem (tb3 (List.mem_of_getElem? (i := 140) rfl)) rfl
theorem w712 : (Cond.methodLink RX1 39 yX1_hasLeft) ∈ WA := wa_mem (tb3 (List.mem_of_getElem? (i := 141) rfl)) rfl
theorem w716 : (Cond.methodLink RX1 46 yX1_numberAt) ∈ WA := wa_mem (tb3 (List.mem_of_getElem? (i := 145) rfl)) rfl
theorem w717 : (Cond.constantLong RX1 78 (4294967280)) ∈ WA := wa_mem (tb3 (List.mem_of_getElem? (i := 146) rfl)) rfl
theorem w790 : (Cond.methodLink RX1 54 yX1_uleb) ∈ WA := wa_mem (tb3 (List.mem_of_getElem? (i := 219) rfl)) rfl
theorem w791 : (Cond.constantLong RX1 62 (-1)) ∈ WA := wa_mem (tb3 (List.mem_of_getElem? (i := 220) rfl)) rfl
theorem w1337 : (Cond.fieldLink RX12 9 "AddressNamerModel" "tape" "[I") ∈ WA := wa_mem (tb6 (List.mem_of_getElem? (i := 46) rfl)) rfl
theorem w1338 : (Cond.fieldLink RX12 232 "AddressNamerModel" "taped" "I") ∈ WA := wa_mem (tb6 (List.mem_of_getElem? (i := 47) rfl)) rfl
theorem w1339 : (Cond.fieldLink RX12 235 "AddressNamerModel" "fault" "I") ∈ WA := wa_mem (tb6 (List.mem_of_getElem? (i := 48) rfl)) rfl
theorem w1340 : (Cond.fieldLink RX12 238 "AddressNamerModel" "place" "I") ∈ WA := wa_mem (tb6 (List.mem_of_getElem? (i := 49) rfl)) rfl
theorem w1341 : (Cond.fieldLink RX12 498 "AddressNamerModel" "toldFault" "I") ∈ WA := wa_mem (tb6 (List.mem_of_getElem? (i := 50) rfl)) rfl
theorem w1342 : (Cond.fieldLink RX12 13 "AddressNamerModel" "toldPlace" "I") ∈ WA := wa_mem (tb6 (List.mem_of_getElem? (i := 51) rfl)) rfl
theorem w1343 : (Cond.fieldLink RX12 17 "AddressNamerModel" "work" "I") ∈ WA := wa_mem (tb6 (List.mem_of_getElem? (i := 52) rfl)) rfl
theorem w1344 : (Cond.fieldLink RX12 501 "AddressNamerModel" "told" "I") ∈ WA := wa_mem (tb6 (List.mem_of_getElem? (i := 53) rfl)) rfl
theorem w1345 : (Cond.fieldLink RX12 20 "AddressNamerModel" "bytes" "[I") ∈ WA := wa_mem (tb6 (List.mem_of_getElem? (i := 54) rfl)) rfl
theorem w1346 : (Cond.fieldLink RX12 281 "AddressNamerModel" "size" "I") ∈ WA := wa_mem (tb6 (List.mem_of_getElem? (i := 55) rfl)) rfl
theorem w1347 : (Cond.fieldLink RX12 23 "AddressNamerModel" "sectionMany" "[I") ∈ WA := wa_mem (tb6 (List.mem_of_getElem? (i := 56) rfl)) rfl
theorem w1348 : (Cond.fieldLink RX12 26 "AddressNamerModel" "symbolMany" "[I") ∈ WA := wa_mem (tb6 (List.mem_of_getElem? (i := 57) rfl)) rfl
theorem w1349 : (Cond.fieldLink RX12 29 "AddressNamerModel" "unitMany" "[I") ∈ WA := wa_mem (tb6 (List.mem_of_getElem? (i := 58) rfl)) rfl
theorem w1350 : (Cond.fieldLink RX12 32 "AddressNamerModel" "entryMany" "[I") ∈ WA := wa_mem (tb6 (List.mem_of_getElem? (i := 59) rfl)) rfl
theorem w1351 : (Cond.fieldLink RX12 35 "AddressNamerModel" "rangeMany" "[I") ∈ WA := wa_mem (tb6 (List.mem_of_getElem? (i := 60) rfl)) rfl
theorem w1352 : (Cond.fieldLink RX12 38 "AddressNamerModel" "rowMany" "[I") ∈ WA := wa_mem (tb6 (List.mem_of_getElem? (i := 61) rfl)) rfl
theorem w1353 : (Cond.fieldLink RX12 41 "AddressNamerModel" "fileMany" "[I") ∈ WA := wa_mem (tb6 (List.mem_of_getElem? (i := 62) rfl)) rfl
theorem w1354 : (Cond.fieldLink RX12 44 "AddressNamerModel" "secAt" "[I") ∈ WA := wa_mem (tb6 (List.mem_of_getElem? (i := 63) rfl)) rfl
theorem w1355 : (Cond.fieldLink RX12 47 "AddressNamerModel" "secSize" "[I") ∈ WA := wa_mem (tb6 (List.mem_of_getElem? (i := 64) rfl)) rfl
theorem w1356 : (Cond.fieldLink RX12 50 "AddressNamerModel" "secName" "[I") ∈ WA := wa_mem (tb6 (List.mem_of_getElem? (i := 65) rfl)) rfl
theorem w1357 : (Cond.fieldLink RX12 53 "AddressNamerModel" "ownAt" "[I") ∈ WA := wa_mem (tb6 (List.mem_of_getElem? (i := 66) rfl)) rfl
theorem w1358 : (Cond.fieldLink RX12 56 "AddressNamerModel" "ownSize" "[I") ∈ WA := wa_mem (tb6 (List.mem_of_getElem? (i := 67) rfl)) rfl
theorem w1359 : (Cond.fieldLink RX12 59 "AddressNamerModel" "wanted" "[I") ∈ WA := wa_mem (tb6 (List.mem_of_getElem? (i := 68) rfl)) rfl
theorem w1360 : (Cond.fieldLink RX12 62 "AddressNamerModel" "magic" "[I") ∈ WA := wa_mem (tb6 (List.mem_of_getElem? (i := 69) rfl)) rfl
theorem w1361 : (Cond.fieldLink RX12 65 "AddressNamerModel" "symValue" "[J") ∈ WA := wa_mem (tb6 (List.mem_of_getElem? (i := 70) rfl)) rfl
theorem w1362 : (Cond.fieldLink RX12 69 "AddressNamerModel" "symSize" "[J") ∈ WA := wa_mem (tb6 (List.mem_of_getElem? (i := 71) rfl)) rfl
theorem w1363 : (Cond.fieldLink RX12 72 "AddressNamerModel" "symName" "[I") ∈ WA := wa_mem (tb6 (List.mem_of_getElem? (i := 72) rfl)) rfl
theorem w1364 : (Cond.fieldLink RX12 75 "AddressNamerModel" "symLong" "[I") ∈ WA := wa_mem (tb6 (List.mem_of_getElem? (i := 73) rfl)) rfl
theorem w1365 : (Cond.fieldLink RX12 78 "AddressNamerModel" "unitAt" "[I") ∈ WA := wa_mem (tb6 (List.mem_of_getElem? (i := 74) rfl)) rfl
theorem w1366 : (Cond.fieldLink RX12 81 "AddressNamerModel" "unitFirst" "[I") ∈ WA := wa_mem (tb6 (List.mem_of_getElem? (i := 75) rfl)) rfl
theorem w1367 : (Cond.fieldLink RX12 84 "AddressNamerModel" "unitFiles" "[I") ∈ WA := wa_mem (tb6 (List.mem_of_getElem? (i := 76) rfl)) rfl
theorem w1368 : (Cond.fieldLink RX12 87 "AddressNamerModel" "unitFileMany" "[I") ∈ WA := wa_mem (tb6 (List.mem_of_getElem? (i := 77) rfl)) rfl
theorem w1369 : (Cond.fieldLink RX12 90 "AddressNamerModel" "hasLines" "[Z") ∈ WA := wa_mem (tb6 (List.mem_of_getElem? (i := 78) rfl)) rfl
theorem w1370 : (Cond.fieldLink RX12 94 "AddressNamerModel" "linesAt" "[J") ∈ WA := wa_mem (tb6 (List.mem_of_getElem? (i := 79) rfl)) rfl
theorem w1371 : (Cond.fieldLink RX12 325 "AddressNamerModel" "codes" "I") ∈ WA := wa_mem (tb6 (List.mem_of_getElem? (i := 80) rfl)) rfl
theorem w1372 : (Cond.fieldLink RX12 97 "AddressNamerModel" "abCode" "[J") ∈ WA := wa_mem (tb6 (List.mem_of_getElem? (i := 81) rfl)) rfl
theorem w1373 : (Cond.fieldLink RX12 100 "AddressNamerModel" "abTag" "[J") ∈ WA := wa_mem (tb6 (List.mem_of_getElem? (i := 82) rfl)) rfl
theorem w1374 : (Cond.fieldLink RX12 103 "AddressNamerModel" "abChildren" "[Z") ∈ WA := wa_mem (tb6 (List.mem_of_getElem? (i := 83) rfl)) rfl
theorem w1375 : (Cond.fieldLink RX12 106 "AddressNamerModel" "abPairs" "[I") ∈ WA := wa_mem (tb6 (List.mem_of_getElem? (i := 84) rfl)) rfl
theorem w1376 : (Cond.fieldLink RX12 109 "AddressNamerModel" "abAttribute" "[J") ∈ WA := wa_mem (tb6 (List.mem_of_getElem? (i := 85) rfl)) rfl
theorem w1377 : (Cond.fieldLink RX12 112 "AddressNamerModel" "abForm" "[I") ∈ WA := wa_mem (tb6 (List.mem_of_getElem? (i := 86) rfl)) rfl
theorem w1378 : (Cond.fieldLink RX12 115 "AddressNamerModel" "abValue" "[J") ∈ WA := wa_mem (tb6 (List.mem_of_getElem? (i := 87) rfl)) rfl
theorem w1379 : (Cond.fieldLink RX12 118 "AddressNamerModel" "enTag" "[J") ∈ WA := wa_mem (tb6 (List.mem_of_getElem? (i := 88) rfl)) rfl
theorem w1380 : (Cond.fieldLink RX12 121 "AddressNamerModel" "enParent" "[I") ∈ WA := wa_mem (tb6 (List.mem_of_getElem? (i := 89) rfl)) rfl
theorem w1381 : (Cond.fieldLink RX12 124 "AddressNamerModel" "enUnit" "[I") ∈ WA := wa_mem (tb6 (List.mem_of_getElem? (i := 90) rfl)) rfl
theorem w1382 : (Cond.fieldLink RX12 127 "AddressNamerModel" "enOrigin" "[I") ∈ WA := wa_mem (tb6 (List.mem_of_getElem? (i := 91) rfl)) rfl
theorem w1383 : (Cond.fieldLink RX12 130 "AddressNamerModel" "enPlace" "[I") ∈ WA := wa_mem (tb6 (List.mem_of_getElem? (i := 92) rfl)) rfl
theorem w1384 : (Cond.fieldLink RX12 133 "AddressNamerModel" "enName" "[I") ∈ WA := wa_mem (tb6 (List.mem_of_getElem? (i := 93) rfl)) rfl
theorem w1385 : (Cond.fieldLink RX12 136 "AddressNamerModel" "enLong" "[I") ∈ WA := wa_mem (tb6 (List.mem_of_getElem? (i := 94) rfl)) rfl
theorem w1386 : (Cond.fieldLink RX12 139 "AddressNamerModel" "enFile" "[I") ∈ WA := wa_mem (tb6 (List.mem_of_getElem? (i := 95) rfl)) rfl
theorem w1387 : (Cond.fieldLink RX12 142 "AddressNamerModel" "enLine" "[I") ∈ WA := wa_mem (tb6 (List.mem_of_getElem? (i := 96) rfl)) rfl
theorem w1388 : (Cond.fieldLink RX12 145 "AddressNamerModel" "hasFile" "[Z") ∈ WA := wa_mem (tb6 (List.mem_of_getElem? (i := 97) rfl)) rfl
theorem w1389 : (Cond.fieldLink RX12 148 "AddressNamerModel" "hasLine" "[Z") ∈ WA := wa_mem (tb6 (List.mem_of_getElem? (i := 98) rfl)) rfl
theorem w1390 : (Cond.fieldLink RX12 151 "AddressNamerModel" "hasLow" "[Z") ∈ WA := wa_mem (tb6 (List.mem_of_getElem? (i := 99) rfl)) rfl
theorem w1391 : (Cond.fieldLink RX12 154 "AddressNamerModel" "hasHigh" "[Z") ∈ WA := wa_mem (tb6 (List.mem_of_getElem? (i := 100) rfl)) rfl
theorem w1392 : (Cond.fieldLink RX12 157 "AddressNamerModel" "isMore" "[Z") ∈ WA := wa_mem (tb6 (List.mem_of_getElem? (i := 101) rfl)) rfl
theorem w1393 : (Cond.fieldLink RX12 160 "AddressNamerModel" "hasRanges" "[Z") ∈ WA := wa_mem (tb6 (List.mem_of_getElem? (i := 102) rfl)) rfl
theorem w1394 : (Cond.fieldLink RX12 163 "AddressNamerModel" "enLow" "[J") ∈ WA := wa_mem (tb6 (List.mem_of_getElem? (i := 103) rfl)) rfl
theorem w1395 : (Cond.fieldLink RX12 166 "AddressNamerModel" "enHigh" "[J") ∈ WA := wa_mem (tb6 (List.mem_of_getElem? (i := 104) rfl)) rfl
theorem w1396 : (Cond.fieldLink RX12 169 "AddressNamerModel" "enRanges" "[J") ∈ WA := wa_mem (tb6 (List.mem_of_getElem? (i := 105) rfl)) rfl
theorem w1397 : (Cond.fieldLink RX12 316 "AddressNamerModel" "references" "I") ∈ WA := wa_mem (tb6 (List.mem_of_getElem? (i := 106) rfl)) rfl
theorem w1398 : (Cond.fieldLink RX12 172 "AddressNamerModel" "refAt" "[I") ∈ WA := wa_mem (tb6 (List.mem_of_getElem? (i := 107) rfl)) rfl
theorem w1399 : (Cond.fieldLink RX12 175 "AddressNamerModel" "refTo" "[J") ∈ WA := wa_mem (tb6 (List.mem_of_getElem? (i := 108) rfl)) rfl
theorem w1400 : (Cond.fieldLink RX12 178 "AddressNamerModel" "refOf" "[I") ∈ WA := wa_mem (tb6 (List.mem_of_getElem? (i := 109) rfl)) rfl
theorem w1401 : (Cond.fieldLink RX12 181 "AddressNamerModel" "refKind" "[I") ∈ WA := wa_mem (tb6 (List.mem_of_getElem? (i := 110) rfl)) rfl
theorem w1402 : (Cond.fieldLink RX12 184 "AddressNamerModel" "path" "[I") ∈ WA := wa_mem (tb6 (List.mem_of_getElem? (i := 111) rfl)) rfl
theorem w1403 : (Cond.fieldLink RX12 359 "AddressNamerModel" "deep" "I") ∈ WA := wa_mem (tb6 (List.mem_of_getElem? (i := 112) rfl)) rfl
theorem w1404 : (Cond.fieldLink RX12 187 "AddressNamerModel" "raEntry" "[I") ∈ WA := wa_mem (tb6 (List.mem_of_getElem? (i := 113) rfl)) rfl
theorem w1405 : (Cond.fieldLink RX12 190 "AddressNamerModel" "raLow" "[J") ∈ WA := wa_mem (tb6 (List.mem_of_getElem? (i := 114) rfl)) rfl
theorem w1406 : (Cond.fieldLink RX12 193 "AddressNamerModel" "raHigh" "[J") ∈ WA := wa_mem (tb6 (List.mem_of_getElem? (i := 115) rfl)) rfl
theorem w1407 : (Cond.fieldLink RX12 196 "AddressNamerModel" "roUnit" "[I") ∈ WA := wa_mem (tb6 (List.mem_of_getElem? (i := 116) rfl)) rfl
theorem w1408 : (Cond.fieldLink RX12 199 "AddressNamerModel" "roAt" "[J") ∈ WA := wa_mem (tb6 (List.mem_of_getElem? (i := 117) rfl)) rfl
theorem w1409 : (Cond.fieldLink RX12 202 "AddressNamerModel" "roFile" "[I") ∈ WA := wa_mem (tb6 (List.mem_of_getElem? (i := 118) rfl)) rfl
theorem w1410 : (Cond.fieldLink RX12 205 "AddressNamerModel" "roLine" "[I") ∈ WA := wa_mem (tb6 (List.mem_of_getElem? (i := 119) rfl)) rfl
theorem w1411 : (Cond.fieldLink RX12 208 "AddressNamerModel" "roEnds" "[Z") ∈ WA := wa_mem (tb6 (List.mem_of_getElem? (i := 120) rfl)) rfl
theorem w1412 : (Cond.fieldLink RX12 211 "AddressNamerModel" "fiName" "[I") ∈ WA := wa_mem (tb6 (List.mem_of_getElem? (i := 121) rfl)) rfl
theorem w1413 : (Cond.fieldLink RX12 214 "AddressNamerModel" "fiLong" "[I") ∈ WA := wa_mem (tb6 (List.mem_of_getElem? (i := 122) rfl)) rfl
theorem w1414 : (Cond.fieldLink RX12 249 "AddressNamerModel" "at" "I") ∈ WA := wa_mem (tb6 (List.mem_of_getElem? (i := 123) rfl)) rfl
theorem w1415 : (Cond.fieldLink RX12 252 "AddressNamerModel" "limit" "I") ∈ WA := wa_mem (tb6 (List.mem_of_getElem? (i := 124) rfl)) rfl
theorem w1416 : (Cond.fieldLink RX12 434 "AddressNamerModel" "least" "I") ∈ WA := wa_mem (tb6 (List.mem_of_getElem? (i := 125) rfl)) rfl
theorem w1417 : (Cond.fieldLink RX12 437 "AddressNamerModel" "base" "I") ∈ WA := wa_mem (tb6 (List.mem_of_getElem? (i := 126) rfl)) rfl
theorem w1418 : (Cond.fieldLink RX12 440 "AddressNamerModel" "spread" "I") ∈ WA := wa_mem (tb6 (List.mem_of_getElem? (i := 127) rfl)) rfl
theorem w1419 : (Cond.fieldLink RX12 443 "AddressNamerModel" "opcodes" "I") ∈ WA := wa_mem (tb6 (List.mem_of_getElem? (i := 128) rfl)) rfl
theorem w1420 : (Cond.fieldLink RX12 217 "AddressNamerModel" "counts" "[I") ∈ WA := wa_mem (tb6 (List.mem_of_getElem? (i := 129) rfl)) rfl
theorem w1421 : (Cond.fieldLink RX12 449 "AddressNamerModel" "address" "J") ∈ WA := wa_mem (tb6 (List.mem_of_getElem? (i := 130) rfl)) rfl
theorem w1422 : (Cond.fieldLink RX12 453 "AddressNamerModel" "file" "J") ∈ WA := wa_mem (tb6 (List.mem_of_getElem? (i := 131) rfl)) rfl
theorem w1423 : (Cond.fieldLink RX12 456 "AddressNamerModel" "line" "J") ∈ WA := wa_mem (tb6 (List.mem_of_getElem? (i := 132) rfl)) rfl
theorem w1424 : (Cond.fieldLink RX12 463 "AddressNamerModel" "ahead" "J") ∈ WA := wa_mem (tb6 (List.mem_of_getElem? (i := 133) rfl)) rfl
theorem w1425 : (Cond.fieldLink RX12 459 "AddressNamerModel" "isGoing" "Z") ∈ WA := wa_mem (tb6 (List.mem_of_getElem? (i := 134) rfl)) rfl
theorem w1426 : (Cond.fieldLink RX12 504 "AddressNamerModel" "chain" "I") ∈ WA := wa_mem (tb6 (List.mem_of_getElem? (i := 135) rfl)) rfl
theorem w1427 : (Cond.fieldLink RX12 220 "AddressNamerModel" "chainOf" "[I") ∈ WA := wa_mem (tb6 (List.mem_of_getElem? (i := 136) rfl)) rfl
theorem w1428 : (Cond.fieldLink RX12 223 "AddressNamerModel" "chainFile" "[I") ∈ WA := wa_mem (tb6 (List.mem_of_getElem? (i := 137) rfl)) rfl
theorem w1429 : (Cond.fieldLink RX12 226 "AddressNamerModel" "chainLine" "[I") ∈ WA := wa_mem (tb6 (List.mem_of_getElem? (i := 138) rfl)) rfl
theorem w1430 : (Cond.fieldLink RX12 229 "AddressNamerModel" "symbol" "I") ∈ WA := wa_mem (tb6 (List.mem_of_getElem? (i := 139) rfl)) rfl
theorem w1431 : (Cond.fieldLink RX12 539 "AddressNamerModel" "symbolBy" "I") ∈ WA := wa_mem (tb6 (List.mem_of_getElem? (i := 140) rfl)) rfl
theorem w1640 : (Cond.methodLink RX12 483 yX12_header) ∈ WA := wa_mem (tb7 (List.mem_of_getElem? (i := 109) rfl)) rfl
theorem w1644 : (Cond.methodLink RX12 241 yX12_byteOf) ∈ WA := wa_mem (tb7 (List.mem_of_getElem? (i := 113) rfl)) rfl
theorem w1648 : (Cond.methodLink RX12 255 yX12_fail) ∈ WA := wa_mem (tb7 (List.mem_of_getElem? (i := 117) rfl)) rfl
theorem w1652 : (Cond.methodLink RX12 245 yX12_isRight) ∈ WA := wa_mem (tb7 (List.mem_of_getElem? (i := 121) rfl)) rfl
theorem w1656 : (Cond.methodLink RX12 259 yX12_numberAt) ∈ WA := wa_mem (tb7 (List.mem_of_getElem? (i := 125) rfl)) rfl
theorem w1660 : (Cond.constantLong RX12 284 (64)) ∈ WA := wa_mem (tb7 (List.mem_of_getElem? (i := 129) rfl)) rfl
theorem w1661 : (Cond.methodLink RX12 286 yX12_section) ∈ WA := wa_mem (tb7 (List.mem_of_getElem? (i := 130) rfl)) rfl
theorem w1665 : (Cond.constantLong RX12 293 (8)) ∈ WA := wa_mem (tb7 (List.mem_of_getElem? (i := 134) rfl)) rfl
theorem w1666 : (Cond.methodLink RX12 269 yX12_stringAt) ∈ WA := wa_mem (tb7 (List.mem_of_getElem? (i := 135) rfl)) rfl
theorem w1670 : (Cond.methodLink RX12 289 yX12_isNamed) ∈ WA := wa_mem (tb7 (List.mem_of_getElem? (i := 139) rfl)) rfl
theorem w1674 : (Cond.methodLink RX12 486 yX12_symbols) ∈ WA := wa_mem (tb7 (List.mem_of_getElem? (i := 143) rfl)) rfl
theorem w1678 : (Cond.methodLink RX12 295 yX12_matter) ∈ WA := wa_mem (tb7 (List.mem_of_getElem? (i := 147) rfl)) rfl
theorem w1682 : (Cond.methodLink RX12 299 yX12_endOf) ∈ WA := wa_mem (tb7 (List.mem_of_getElem? (i := 151) rfl)) rfl
theorem w1686 : (Cond.methodLink RX12 489 yX12_units) ∈ WA := wa_mem (tb7 (List.mem_of_getElem? (i := 155) rfl)) rfl
theorem w1690 : (Cond.methodLink RX12 304 yX12_lengthIn) ∈ WA := wa_mem (tb7 (List.mem_of_getElem? (i := 159) rfl)) rfl
theorem w1694 : (Cond.methodLink RX12 273 yX12_number) ∈ WA := wa_mem (tb7 (List.mem_of_getElem? (i := 163) rfl)) rfl
theorem w1698 : (Cond.constantLong RX12 302 (4294967280)) ∈ WA := wa_mem (tb7 (List.mem_of_getElem? (i := 167) rfl)) rfl
theorem w1699 : (Cond.methodLink RX12 307 yX12_unit) ∈ WA := wa_mem (tb7 (List.mem_of_getElem? (i := 168) rfl)) rfl
theorem w1703 : (Cond.methodLink RX12 310 yX12_must) ∈ WA := wa_mem (tb7 (List.mem_of_getElem? (i := 172) rfl)) rfl
theorem w1707 : (Cond.methodLink RX12 313 yX12_abbreviations) ∈ WA := wa_mem (tb7 (List.mem_of_getElem? (i := 176) rfl)) rfl
theorem w1711 : (Cond.methodLink RX12 277 yX12_uleb) ∈ WA := wa_mem (tb7 (List.mem_of_getElem? (i := 180) rfl)) rfl
theorem w1715 : (Cond.methodLink RX12 265 yX12_leb) ∈ WA := wa_mem (tb7 (List.mem_of_getElem? (i := 184) rfl)) rfl
theorem w1719 : (Cond.constantLong RX12 263 (-1)) ∈ WA := wa_mem (tb7 (List.mem_of_getElem? (i := 188) rfl)) rfl
theorem w1720 : (Cond.methodLink RX12 328 yX12_pairs) ∈ WA := wa_mem (tb7 (List.mem_of_getElem? (i := 189) rfl)) rfl
theorem w1724 : (Cond.methodLink RX12 355 yX12_isForm) ∈ WA := wa_mem (tb7 (List.mem_of_getElem? (i := 193) rfl)) rfl
theorem w1727 : (Cond.constantLong RX12 331 (11)) ∈ WA := wa_mem (tb7 (List.mem_of_getElem? (i := 196) rfl)) rfl
theorem w1728 : (Cond.constantLong RX12 333 (5)) ∈ WA := wa_mem (tb7 (List.mem_of_getElem? (i := 197) rfl)) rfl
theorem w1729 : (Cond.constantLong RX12 335 (6)) ∈ WA := wa_mem (tb7 (List.mem_of_getElem? (i := 198) rfl)) rfl
theorem w1730 : (Cond.constantLong RX12 337 (7)) ∈ WA := wa_mem (tb7 (List.mem_of_getElem? (i := 199) rfl)) rfl
theorem w1731 : (Cond.constantLong RX12 339 (15)) ∈ WA := wa_mem (tb7 (List.mem_of_getElem? (i := 200) rfl)) rfl
theorem w1732 : (Cond.constantLong RX12 341 (13)) ∈ WA := wa_mem (tb7 (List.mem_of_getElem? (i := 201) rfl)) rfl
theorem w1733 : (Cond.constantLong RX12 343 (14)) ∈ WA := wa_mem (tb7 (List.mem_of_getElem? (i := 202) rfl)) rfl
theorem w1734 : (Cond.constantLong RX12 345 (19)) ∈ WA := wa_mem (tb7 (List.mem_of_getElem? (i := 203) rfl)) rfl
theorem w1735 : (Cond.constantLong RX12 347 (23)) ∈ WA := wa_mem (tb7 (List.mem_of_getElem? (i := 204) rfl)) rfl
theorem w1736 : (Cond.constantLong RX12 349 (24)) ∈ WA := wa_mem (tb7 (List.mem_of_getElem? (i := 205) rfl)) rfl
theorem w1737 : (Cond.constantLong RX12 351 (25)) ∈ WA := wa_mem (tb7 (List.mem_of_getElem? (i := 206) rfl)) rfl
theorem w1738 : (Cond.constantLong RX12 353 (33)) ∈ WA := wa_mem (tb7 (List.mem_of_getElem? (i := 207) rfl)) rfl
theorem w1739 : (Cond.methodLink RX12 319 yX12_entries) ∈ WA := wa_mem (tb7 (List.mem_of_getElem? (i := 208) rfl)) rfl
theorem w1743 : (Cond.methodLink RX12 362 yX12_enters) ∈ WA := wa_mem (tb7 (List.mem_of_getElem? (i := 212) rfl)) rfl
theorem w1747 : (Cond.methodLink RX12 366 yX12_value) ∈ WA := wa_mem (tb7 (List.mem_of_getElem? (i := 216) rfl)) rfl
theorem w1751 : (Cond.methodLink RX12 370 yX12_string) ∈ WA := wa_mem (tb7 (List.mem_of_getElem? (i := 220) rfl)) rfl
theorem w1755 : (Cond.constantLong RX12 374 (3)) ∈ WA := wa_mem (tb7 (List.mem_of_getElem? (i := 224) rfl)) rfl
theorem w1756 : (Cond.methodLink RX12 376 yX12_names) ∈ WA := wa_mem (tb7 (List.mem_of_getElem? (i := 225) rfl)) rfl
theorem w1760 : (Cond.methodLink RX12 380 yX12_widthOf) ∈ WA := wa_mem (tb7 (List.mem_of_getElem? (i := 229) rfl)) rfl
theorem w1763 : (Cond.methodLink RX12 383 yX12_text) ∈ WA := wa_mem (tb7 (List.mem_of_getElem? (i := 232) rfl)) rfl
theorem w1767 : (Cond.methodLink RX12 387 yX12_refers) ∈ WA := wa_mem (tb7 (List.mem_of_getElem? (i := 236) rfl)) rfl
theorem w1771 : (Cond.constantLong RX12 393 (49)) ∈ WA := wa_mem (tb8 (List.mem_of_getElem? (i := 0) rfl)) rfl
theorem w1772 : (Cond.constantLong RX12 395 (71)) ∈ WA := wa_mem (tb8 (List.mem_of_getElem? (i := 1) rfl)) rfl
theorem w1773 : (Cond.methodLink RX12 390 yX12_matters) ∈ WA := wa_mem (tb8 (List.mem_of_getElem? (i := 2) rfl)) rfl
theorem w1777 : (Cond.constantLong RX12 397 (17)) ∈ WA := wa_mem (tb8 (List.mem_of_getElem? (i := 6) rfl)) rfl
theorem w1778 : (Cond.constantLong RX12 399 (18)) ∈ WA := wa_mem (tb8 (List.mem_of_getElem? (i := 7) rfl)) rfl
theorem w1779 : (Cond.constantLong RX12 401 (85)) ∈ WA := wa_mem (tb8 (List.mem_of_getElem? (i := 8) rfl)) rfl
theorem w1780 : (Cond.constantLong RX12 403 (88)) ∈ WA := wa_mem (tb8 (List.mem_of_getElem? (i := 9) rfl)) rfl
theorem w1781 : (Cond.constantLong RX12 405 (89)) ∈ WA := wa_mem (tb8 (List.mem_of_getElem? (i := 10) rfl)) rfl
theorem w1782 : (Cond.constantLong RX12 407 (16)) ∈ WA := wa_mem (tb8 (List.mem_of_getElem? (i := 11) rfl)) rfl
theorem w1783 : (Cond.methodLink RX12 322 yX12_resolves) ∈ WA := wa_mem (tb8 (List.mem_of_getElem? (i := 12) rfl)) rfl
theorem w1787 : (Cond.methodLink RX12 492 yX12_ranges) ∈ WA := wa_mem (tb8 (List.mem_of_getElem? (i := 16) rfl)) rfl
theorem w1791 : (Cond.methodLink RX12 409 yX12_range) ∈ WA := wa_mem (tb8 (List.mem_of_getElem? (i := 20) rfl)) rfl
theorem w1795 : (Cond.methodLink RX12 412 yX12_list) ∈ WA := wa_mem (tb8 (List.mem_of_getElem? (i := 24) rfl)) rfl
theorem w1799 : (Cond.methodLink RX12 415 yX12_spans) ∈ WA := wa_mem (tb8 (List.mem_of_getElem? (i := 28) rfl)) rfl
theorem w1803 : (Cond.methodLink RX12 495 yX12_lines) ∈ WA := wa_mem (tb8 (List.mem_of_getElem? (i := 32) rfl)) rfl
theorem w1807 : (Cond.methodLink RX12 419 yX12_table) ∈ WA := wa_mem (tb8 (List.mem_of_getElem? (i := 36) rfl)) rfl
theorem w1811 : (Cond.methodLink RX12 422 yX12_constants) ∈ WA := wa_mem (tb8 (List.mem_of_getElem? (i := 40) rfl)) rfl
theorem w1815 : (Cond.methodLink RX12 425 yX12_directories) ∈ WA := wa_mem (tb8 (List.mem_of_getElem? (i := 44) rfl)) rfl
theorem w1819 : (Cond.methodLink RX12 446 yX12_mustLeb) ∈ WA := wa_mem (tb8 (List.mem_of_getElem? (i := 48) rfl)) rfl
theorem w1823 : (Cond.methodLink RX12 428 yX12_files) ∈ WA := wa_mem (tb8 (List.mem_of_getElem? (i := 52) rfl)) rfl
theorem w1827 : (Cond.methodLink RX12 431 yX12_runs) ∈ WA := wa_mem (tb8 (List.mem_of_getElem? (i := 56) rfl)) rfl
theorem w1831 : (Cond.methodLink RX12 468 yX12_resets) ∈ WA := wa_mem (tb8 (List.mem_of_getElem? (i := 60) rfl)) rfl
theorem w1835 : (Cond.methodLink RX12 471 yX12_comes) ∈ WA := wa_mem (tb8 (List.mem_of_getElem? (i := 64) rfl)) rfl
theorem w1839 : (Cond.constantLong RX12 466 (1000000)) ∈ WA := wa_mem (tb8 (List.mem_of_getElem? (i := 68) rfl)) rfl
theorem w1840 : (Cond.methodLink RX12 475 yX12_extended) ∈ WA := wa_mem (tb8 (List.mem_of_getElem? (i := 69) rfl)) rfl
theorem w1844 : (Cond.constantLong RX12 481 (9)) ∈ WA := wa_mem (tb8 (List.mem_of_getElem? (i := 73) rfl)) rfl
theorem w1845 : (Cond.methodLink RX12 478 yX12_standard) ∈ WA := wa_mem (tb8 (List.mem_of_getElem? (i := 74) rfl)) rfl
theorem w1857 : (Cond.methodLink RX12 510 yX12_isEntry) ∈ WA := wa_mem (tb8 (List.mem_of_getElem? (i := 86) rfl)) rfl
theorem w1861 : (Cond.methodLink RX12 514 yX12_rangesOf) ∈ WA := wa_mem (tb8 (List.mem_of_getElem? (i := 90) rfl)) rfl
theorem w1865 : (Cond.methodLink RX12 517 yX12_signsOf) ∈ WA := wa_mem (tb8 (List.mem_of_getElem? (i := 94) rfl)) rfl
theorem w1869 : (Cond.methodLink RX12 507 yX12_named) ∈ WA := wa_mem (tb8 (List.mem_of_getElem? (i := 98) rfl)) rfl
theorem w1889 : (Cond.methodLink RX12 528 yX12_holder) ∈ WA := wa_mem (tb8 (List.mem_of_getElem? (i := 118) rfl)) rfl
theorem w1893 : (Cond.constantLong RX12 520 (46)) ∈ WA := wa_mem (tb8 (List.mem_of_getElem? (i := 122) rfl)) rfl
theorem w1894 : (Cond.constantLong RX12 522 (29)) ∈ WA := wa_mem (tb8 (List.mem_of_getElem? (i := 123) rfl)) rfl
theorem w1895 : (Cond.methodLink RX12 524 yX12_holds) ∈ WA := wa_mem (tb8 (List.mem_of_getElem? (i := 124) rfl)) rfl
theorem w1896 : (Cond.methodLink RX12 532 yX12_governs) ∈ WA := wa_mem (tb8 (List.mem_of_getElem? (i := 125) rfl)) rfl
theorem w1900 : (Cond.methodLink RX12 535 yX12_symbolOf) ∈ WA := wa_mem (tb8 (List.mem_of_getElem? (i := 129) rfl)) rfl
theorem w1908 : (Cond.methodLink RX12 542 yX12_fileOf) ∈ WA := wa_mem (tb8 (List.mem_of_getElem? (i := 137) rfl)) rfl
theorem w1916 : (Cond.methodLink RX12 545 yX12_sign) ∈ WA := wa_mem (tb8 (List.mem_of_getElem? (i := 145) rfl)) rfl
theorem caX12_abbreviations : CaV yX12_abbreviations (.code yX12_abbreviations cX12_abbreviations 8 none) 0 := ⟨⟨(wa_mem (tb7 (List.mem_of_getElem? (i := 179) rfl)) rfl), (wa_mem (tb1 (List.mem_of_getElem? (i := 13) rfl)) rfl), by decide +kernel, by decide +kernel, by decide +kernel⟩, (wa_mem (tb7 (List.mem_of_getElem? (i := 178) rfl)) rfl), (wa_mem (tbp (q := (yX12_abbreviations, 95)) (List.mem_of_getElem? (i := 54) rfl)) rfl)⟩
theorem caX12_byteOf : CaV yX12_byteOf (.code yX12_byteOf cX12_byteOf 2 (some .int)) 1 := ⟨⟨(wa_mem (tb7 (List.mem_of_getElem? (i := 116) rfl)) rfl), (wa_mem (tb1 (List.mem_of_getElem? (i := 13) rfl)) rfl), by decide +kernel, by decide +kernel, by decide +kernel⟩, (wa_mem (tb7 (List.mem_of_getElem? (i := 115) rfl)) rfl), (wa_mem (tbp (q := (yX12_byteOf, 95)) (List.mem_of_getElem? (i := 39) rfl)) rfl)⟩
theorem caX12_comes : CaV yX12_comes (.code yX12_comes cX12_comes 6 none) 3 := ⟨⟨(wa_mem (tb8 (List.mem_of_getElem? (i := 67) rfl)) rfl), (wa_mem (tb1 (List.mem_of_getElem? (i := 13) rfl)) rfl), by decide +kernel, by decide +kernel, by decide +kernel⟩, (wa_mem (tb8 (List.mem_of_getElem? (i := 66) rfl)) rfl), (wa_mem (tbp (q := (yX12_comes, 95)) (List.mem_of_getElem? (i := 79) rfl)) rfl)⟩
theorem caX12_constants : CaV yX12_constants (.code yX12_constants cX12_constants 4 none) 0 := ⟨⟨(wa_mem (tb8 (List.mem_of_getElem? (i := 43) rfl)) rfl), (wa_mem (tb1 (List.mem_of_getElem? (i := 13) rfl)) rfl), by decide +kernel, by decide +kernel, by decide +kernel⟩, (wa_mem (tb8 (List.mem_of_getElem? (i := 42) rfl)) rfl), (wa_mem (tbp (q := (yX12_constants, 95)) (List.mem_of_getElem? (i := 73) rfl)) rfl)⟩
theorem caX12_directories : CaV yX12_directories (.code yX12_directories cX12_directories 5 (some .int)) 0 := ⟨⟨(wa_mem (tb8 (List.mem_of_getElem? (i := 47) rfl)) rfl), (wa_mem (tb1 (List.mem_of_getElem? (i := 13) rfl)) rfl), by decide +kernel, by decide +kernel, by decide +kernel⟩, (wa_mem (tb8 (List.mem_of_getElem? (i := 46) rfl)) rfl), (wa_mem (tbp (q := (yX12_directories, 95)) (List.mem_of_getElem? (i := 74) rfl)) rfl)⟩
theorem caX12_endOf : CaV yX12_endOf (.code yX12_endOf cX12_endOf 2 (some .int)) 1 := ⟨⟨(wa_mem (tb7 (List.mem_of_getElem? (i := 154) rfl)) rfl), (wa_mem (tb1 (List.mem_of_getElem? (i := 13) rfl)) rfl), by decide +kernel, by decide +kernel, by decide +kernel⟩, (wa_mem (tb7 (List.mem_of_getElem? (i := 153) rfl)) rfl), (wa_mem (tbp (q := (yX12_endOf, 95)) (List.mem_of_getElem? (i := 48) rfl)) rfl)⟩
theorem caX12_enters : CaV yX12_enters (.code yX12_enters cX12_enters 8 none) 2 := ⟨⟨(wa_mem (tb7 (List.mem_of_getElem? (i := 215) rfl)) rfl), (wa_mem (tb1 (List.mem_of_getElem? (i := 13) rfl)) rfl), by decide +kernel, by decide +kernel, by decide +kernel⟩, (wa_mem (tb7 (List.mem_of_getElem? (i := 214) rfl)) rfl), (wa_mem (tbp (q := (yX12_enters, 95)) (List.mem_of_getElem? (i := 59) rfl)) rfl)⟩
theorem caX12_entries : CaV yX12_entries (.code yX12_entries cX12_entries 7 none) 1 := ⟨⟨(wa_mem (tb7 (List.mem_of_getElem? (i := 211) rfl)) rfl), (wa_mem (tb1 (List.mem_of_getElem? (i := 13) rfl)) rfl), by decide +kernel, by decide +kernel, by decide +kernel⟩, (wa_mem (tb7 (List.mem_of_getElem? (i := 210) rfl)) rfl), (wa_mem (tbp (q := (yX12_entries, 95)) (List.mem_of_getElem? (i := 58) rfl)) rfl)⟩
theorem caX12_extended : CaV yX12_extended (.code yX12_extended cX12_extended 8 none) 3 := ⟨⟨(wa_mem (tb8 (List.mem_of_getElem? (i := 72) rfl)) rfl), (wa_mem (tb1 (List.mem_of_getElem? (i := 13) rfl)) rfl), by decide +kernel, by decide +kernel, by decide +kernel⟩, (wa_mem (tb8 (List.mem_of_getElem? (i := 71) rfl)) rfl), (wa_mem (tbp (q := (yX12_extended, 95)) (List.mem_of_getElem? (i := 80) rfl)) rfl)⟩
theorem caX12_fail : CaV yX12_fail (.code yX12_fail cX12_fail 3 none) 2 := ⟨⟨(wa_mem (tb7 (List.mem_of_getElem? (i := 120) rfl)) rfl), (wa_mem (tb1 (List.mem_of_getElem? (i := 13) rfl)) rfl), by decide +kernel, by decide +kernel, by decide +kernel⟩, (wa_mem (tb7 (List.mem_of_getElem? (i := 119) rfl)) rfl), (wa_mem (tbp (q := (yX12_fail, 95)) (List.mem_of_getElem? (i := 40) rfl)) rfl)⟩
theorem caX12_fileOf : CaV yX12_fileOf (.code yX12_fileOf cX12_fileOf 4 (some .int)) 1 := ⟨⟨(wa_mem (tb8 (List.mem_of_getElem? (i := 140) rfl)) rfl), (wa_mem (tb1 (List.mem_of_getElem? (i := 13) rfl)) rfl), by decide +kernel, by decide +kernel, by decide +kernel⟩, (wa_mem (tb8 (List.mem_of_getElem? (i := 139) rfl)) rfl), (wa_mem (tbp (q := (yX12_fileOf, 95)) (List.mem_of_getElem? (i := 89) rfl)) rfl)⟩
theorem caX12_files : CaV yX12_files (.code yX12_files cX12_files 13 none) 2 := ⟨⟨(wa_mem (tb8 (List.mem_of_getElem? (i := 55) rfl)) rfl), (wa_mem (tb1 (List.mem_of_getElem? (i := 13) rfl)) rfl), by decide +kernel, by decide +kernel, by decide +kernel⟩, (wa_mem (tb8 (List.mem_of_getElem? (i := 54) rfl)) rfl), (wa_mem (tbp (q := (yX12_files, 95)) (List.mem_of_getElem? (i := 76) rfl)) rfl)⟩
theorem caX12_governs : CaV yX12_governs (.code yX12_governs cX12_governs 5 (some .int)) 2 := ⟨⟨(wa_mem (tb8 (List.mem_of_getElem? (i := 128) rfl)) rfl), (wa_mem (tb1 (List.mem_of_getElem? (i := 13) rfl)) rfl), by decide +kernel, by decide +kernel, by decide +kernel⟩, (wa_mem (tb8 (List.mem_of_getElem? (i := 127) rfl)) rfl), (wa_mem (tbp (q := (yX12_governs, 95)) (List.mem_of_getElem? (i := 87) rfl)) rfl)⟩
theorem caX12_header : CaV yX12_header (.code yX12_header cX12_header 9 none) 0 := ⟨⟨(wa_mem (tb7 (List.mem_of_getElem? (i := 112) rfl)) rfl), (wa_mem (tb1 (List.mem_of_getElem? (i := 13) rfl)) rfl), by decide +kernel, by decide +kernel, by decide +kernel⟩, (wa_mem (tb7 (List.mem_of_getElem? (i := 111) rfl)) rfl), (wa_mem (tbp (q := (yX12_header, 95)) (List.mem_of_getElem? (i := 38) rfl)) rfl)⟩
theorem caX12_holder : CaV yX12_holder (.code yX12_holder cX12_holder 7 (some .int)) 2 := ⟨⟨(wa_mem (tb8 (List.mem_of_getElem? (i := 121) rfl)) rfl), (wa_mem (tb1 (List.mem_of_getElem? (i := 13) rfl)) rfl), by decide +kernel, by decide +kernel, by decide +kernel⟩, (wa_mem (tb8 (List.mem_of_getElem? (i := 120) rfl)) rfl), (wa_mem (tbp (q := (yX12_holder, 95)) (List.mem_of_getElem? (i := 86) rfl)) rfl)⟩
theorem caX12_holds : CaV yX12_holds (.code yX12_holds cX12_holds 6 (some .boolean)) 2 := ⟨⟨(wa_mem (tb8 (List.mem_of_getElem? (i := 105) rfl)) rfl), (wa_mem (tb1 (List.mem_of_getElem? (i := 13) rfl)) rfl), by decide +kernel, by decide +kernel, by decide +kernel⟩, (wa_mem (tb8 (List.mem_of_getElem? (i := 103) rfl)) rfl), (wa_mem (tb8 (List.mem_of_getElem? (i := 104) rfl)) rfl)⟩
theorem caX12_isEntry : CaV yX12_isEntry (.code yX12_isEntry cX12_isEntry 2 (some .boolean)) 1 := ⟨⟨(wa_mem (tb8 (List.mem_of_getElem? (i := 89) rfl)) rfl), (wa_mem (tb1 (List.mem_of_getElem? (i := 13) rfl)) rfl), by decide +kernel, by decide +kernel, by decide +kernel⟩, (wa_mem (tb8 (List.mem_of_getElem? (i := 88) rfl)) rfl), (wa_mem (tbp (q := (yX12_isEntry, 95)) (List.mem_of_getElem? (i := 82) rfl)) rfl)⟩
theorem caX12_isForm : CaS yX12_isForm (.code yX12_isForm cX12_isForm 2 (some .boolean)) 1 := ⟨⟨(wa_mem (tb7 (List.mem_of_getElem? (i := 195) rfl)) rfl), (wa_mem (tb1 (List.mem_of_getElem? (i := 13) rfl)) rfl), by decide +kernel, by decide +kernel, by decide +kernel⟩, (wa_mem (tb7 (List.mem_of_getElem? (i := 194) rfl)) rfl)⟩
theorem caX12_isNamed : CaV yX12_isNamed (.code yX12_isNamed cX12_isNamed 4 (some .boolean)) 2 := ⟨⟨(wa_mem (tb7 (List.mem_of_getElem? (i := 142) rfl)) rfl), (wa_mem (tb1 (List.mem_of_getElem? (i := 13) rfl)) rfl), by decide +kernel, by decide +kernel, by decide +kernel⟩, (wa_mem (tb7 (List.mem_of_getElem? (i := 141) rfl)) rfl), (wa_mem (tbp (q := (yX12_isNamed, 95)) (List.mem_of_getElem? (i := 45) rfl)) rfl)⟩
theorem caX12_isRight : CaV yX12_isRight (.code yX12_isRight cX12_isRight 1 (some .boolean)) 0 := ⟨⟨(wa_mem (tb7 (List.mem_of_getElem? (i := 124) rfl)) rfl), (wa_mem (tb1 (List.mem_of_getElem? (i := 13) rfl)) rfl), by decide +kernel, by decide +kernel, by decide +kernel⟩, (wa_mem (tb7 (List.mem_of_getElem? (i := 123) rfl)) rfl), (wa_mem (tbp (q := (yX12_isRight, 95)) (List.mem_of_getElem? (i := 41) rfl)) rfl)⟩
theorem caX12_leb : CaV yX12_leb (.code yX12_leb cX12_leb 8 (some .long)) 1 := ⟨⟨(wa_mem (tb7 (List.mem_of_getElem? (i := 187) rfl)) rfl), (wa_mem (tb1 (List.mem_of_getElem? (i := 13) rfl)) rfl), by decide +kernel, by decide +kernel, by decide +kernel⟩, (wa_mem (tb7 (List.mem_of_getElem? (i := 186) rfl)) rfl), (wa_mem (tbp (q := (yX12_leb, 95)) (List.mem_of_getElem? (i := 56) rfl)) rfl)⟩
theorem caX12_lengthIn : CaV yX12_lengthIn (.code yX12_lengthIn cX12_lengthIn 5 (some .int)) 1 := ⟨⟨(wa_mem (tb7 (List.mem_of_getElem? (i := 162) rfl)) rfl), (wa_mem (tb1 (List.mem_of_getElem? (i := 13) rfl)) rfl), by decide +kernel, by decide +kernel, by decide +kernel⟩, (wa_mem (tb7 (List.mem_of_getElem? (i := 161) rfl)) rfl), (wa_mem (tbp (q := (yX12_lengthIn, 95)) (List.mem_of_getElem? (i := 50) rfl)) rfl)⟩
theorem caX12_lines : CaV yX12_lines (.code yX12_lines cX12_lines 2 none) 0 := ⟨⟨(wa_mem (tb8 (List.mem_of_getElem? (i := 35) rfl)) rfl), (wa_mem (tb1 (List.mem_of_getElem? (i := 13) rfl)) rfl), by decide +kernel, by decide +kernel, by decide +kernel⟩, (wa_mem (tb8 (List.mem_of_getElem? (i := 34) rfl)) rfl), (wa_mem (tbp (q := (yX12_lines, 95)) (List.mem_of_getElem? (i := 71) rfl)) rfl)⟩
theorem caX12_list : CaV yX12_list (.code yX12_list cX12_list 13 none) 1 := ⟨⟨(wa_mem (tb8 (List.mem_of_getElem? (i := 27) rfl)) rfl), (wa_mem (tb1 (List.mem_of_getElem? (i := 13) rfl)) rfl), by decide +kernel, by decide +kernel, by decide +kernel⟩, (wa_mem (tb8 (List.mem_of_getElem? (i := 26) rfl)) rfl), (wa_mem (tbp (q := (yX12_list, 95)) (List.mem_of_getElem? (i := 69) rfl)) rfl)⟩
theorem caX12_matter : CaV yX12_matter (.code yX12_matter cX12_matter 10 none) 1 := ⟨⟨(wa_mem (tb7 (List.mem_of_getElem? (i := 150) rfl)) rfl), (wa_mem (tb1 (List.mem_of_getElem? (i := 13) rfl)) rfl), by decide +kernel, by decide +kernel, by decide +kernel⟩, (wa_mem (tb7 (List.mem_of_getElem? (i := 149) rfl)) rfl), (wa_mem (tbp (q := (yX12_matter, 95)) (List.mem_of_getElem? (i := 47) rfl)) rfl)⟩
theorem caX12_matters : CaV yX12_matters (.code yX12_matters cX12_matters 9 none) 4 := ⟨⟨(wa_mem (tb8 (List.mem_of_getElem? (i := 5) rfl)) rfl), (wa_mem (tb1 (List.mem_of_getElem? (i := 13) rfl)) rfl), by decide +kernel, by decide +kernel, by decide +kernel⟩, (wa_mem (tb8 (List.mem_of_getElem? (i := 4) rfl)) rfl), (wa_mem (tbp (q := (yX12_matters, 95)) (List.mem_of_getElem? (i := 65) rfl)) rfl)⟩
theorem caX12_must : CaV yX12_must (.code yX12_must cX12_must 6 none) 2 := ⟨⟨(wa_mem (tb7 (List.mem_of_getElem? (i := 175) rfl)) rfl), (wa_mem (tb1 (List.mem_of_getElem? (i := 13) rfl)) rfl), by decide +kernel, by decide +kernel, by decide +kernel⟩, (wa_mem (tb7 (List.mem_of_getElem? (i := 174) rfl)) rfl), (wa_mem (tbp (q := (yX12_must, 95)) (List.mem_of_getElem? (i := 53) rfl)) rfl)⟩
theorem caX12_mustLeb : CaV yX12_mustLeb (.code yX12_mustLeb cX12_mustLeb 5 none) 1 := ⟨⟨(wa_mem (tb8 (List.mem_of_getElem? (i := 51) rfl)) rfl), (wa_mem (tb1 (List.mem_of_getElem? (i := 13) rfl)) rfl), by decide +kernel, by decide +kernel, by decide +kernel⟩, (wa_mem (tb8 (List.mem_of_getElem? (i := 50) rfl)) rfl), (wa_mem (tbp (q := (yX12_mustLeb, 95)) (List.mem_of_getElem? (i := 75) rfl)) rfl)⟩
theorem caX12_named : CaV yX12_named (.code yX12_named cX12_named 4 (some .int)) 1 := ⟨⟨(wa_mem (tb8 (List.mem_of_getElem? (i := 101) rfl)) rfl), (wa_mem (tb1 (List.mem_of_getElem? (i := 13) rfl)) rfl), by decide +kernel, by decide +kernel, by decide +kernel⟩, (wa_mem (tb8 (List.mem_of_getElem? (i := 100) rfl)) rfl), (wa_mem (tbp (q := (yX12_named, 95)) (List.mem_of_getElem? (i := 85) rfl)) rfl)⟩
theorem caX12_names : CaV yX12_names (.code yX12_names cX12_names 5 none) 3 := ⟨⟨(wa_mem (tb7 (List.mem_of_getElem? (i := 228) rfl)) rfl), (wa_mem (tb1 (List.mem_of_getElem? (i := 13) rfl)) rfl), by decide +kernel, by decide +kernel, by decide +kernel⟩, (wa_mem (tb7 (List.mem_of_getElem? (i := 227) rfl)) rfl), (wa_mem (tbp (q := (yX12_names, 95)) (List.mem_of_getElem? (i := 62) rfl)) rfl)⟩
theorem caX12_number : CaV yX12_number (.code yX12_number cX12_number 4 (some .long)) 1 := ⟨⟨(wa_mem (tb7 (List.mem_of_getElem? (i := 166) rfl)) rfl), (wa_mem (tb1 (List.mem_of_getElem? (i := 13) rfl)) rfl), by decide +kernel, by decide +kernel, by decide +kernel⟩, (wa_mem (tb7 (List.mem_of_getElem? (i := 165) rfl)) rfl), (wa_mem (tbp (q := (yX12_number, 95)) (List.mem_of_getElem? (i := 51) rfl)) rfl)⟩
theorem caX12_numberAt : CaV yX12_numberAt (.code yX12_numberAt cX12_numberAt 6 (some .long)) 2 := ⟨⟨(wa_mem (tb7 (List.mem_of_getElem? (i := 128) rfl)) rfl), (wa_mem (tb1 (List.mem_of_getElem? (i := 13) rfl)) rfl), by decide +kernel, by decide +kernel, by decide +kernel⟩, (wa_mem (tb7 (List.mem_of_getElem? (i := 127) rfl)) rfl), (wa_mem (tbp (q := (yX12_numberAt, 95)) (List.mem_of_getElem? (i := 42) rfl)) rfl)⟩
theorem caX12_pairs : CaV yX12_pairs (.code yX12_pairs cX12_pairs 8 none) 0 := ⟨⟨(wa_mem (tb7 (List.mem_of_getElem? (i := 192) rfl)) rfl), (wa_mem (tb1 (List.mem_of_getElem? (i := 13) rfl)) rfl), by decide +kernel, by decide +kernel, by decide +kernel⟩, (wa_mem (tb7 (List.mem_of_getElem? (i := 191) rfl)) rfl), (wa_mem (tbp (q := (yX12_pairs, 95)) (List.mem_of_getElem? (i := 57) rfl)) rfl)⟩
theorem caX12_range : CaV yX12_range (.code yX12_range cX12_range 8 none) 4 := ⟨⟨(wa_mem (tb8 (List.mem_of_getElem? (i := 23) rfl)) rfl), (wa_mem (tb1 (List.mem_of_getElem? (i := 13) rfl)) rfl), by decide +kernel, by decide +kernel, by decide +kernel⟩, (wa_mem (tb8 (List.mem_of_getElem? (i := 22) rfl)) rfl), (wa_mem (tbp (q := (yX12_range, 95)) (List.mem_of_getElem? (i := 68) rfl)) rfl)⟩
theorem caX12_ranges : CaV yX12_ranges (.code yX12_ranges cX12_ranges 5 none) 0 := ⟨⟨(wa_mem (tb8 (List.mem_of_getElem? (i := 19) rfl)) rfl), (wa_mem (tb1 (List.mem_of_getElem? (i := 13) rfl)) rfl), by decide +kernel, by decide +kernel, by decide +kernel⟩, (wa_mem (tb8 (List.mem_of_getElem? (i := 18) rfl)) rfl), (wa_mem (tbp (q := (yX12_ranges, 95)) (List.mem_of_getElem? (i := 67) rfl)) rfl)⟩
theorem caX12_rangesOf : CaV yX12_rangesOf (.code yX12_rangesOf cX12_rangesOf 4 (some .int)) 1 := ⟨⟨(wa_mem (tb8 (List.mem_of_getElem? (i := 93) rfl)) rfl), (wa_mem (tb1 (List.mem_of_getElem? (i := 13) rfl)) rfl), by decide +kernel, by decide +kernel, by decide +kernel⟩, (wa_mem (tb8 (List.mem_of_getElem? (i := 92) rfl)) rfl), (wa_mem (tbp (q := (yX12_rangesOf, 95)) (List.mem_of_getElem? (i := 83) rfl)) rfl)⟩
theorem caX12_refers : CaV yX12_refers (.code yX12_refers cX12_refers 7 none) 4 := ⟨⟨(wa_mem (tb7 (List.mem_of_getElem? (i := 239) rfl)) rfl), (wa_mem (tb1 (List.mem_of_getElem? (i := 13) rfl)) rfl), by decide +kernel, by decide +kernel, by decide +kernel⟩, (wa_mem (tb7 (List.mem_of_getElem? (i := 238) rfl)) rfl), (wa_mem (tbp (q := (yX12_refers, 95)) (List.mem_of_getElem? (i := 64) rfl)) rfl)⟩
theorem caX12_resets : CaV yX12_resets (.code yX12_resets cX12_resets 1 none) 0 := ⟨⟨(wa_mem (tb8 (List.mem_of_getElem? (i := 63) rfl)) rfl), (wa_mem (tb1 (List.mem_of_getElem? (i := 13) rfl)) rfl), by decide +kernel, by decide +kernel, by decide +kernel⟩, (wa_mem (tb8 (List.mem_of_getElem? (i := 62) rfl)) rfl), (wa_mem (tbp (q := (yX12_resets, 95)) (List.mem_of_getElem? (i := 78) rfl)) rfl)⟩
theorem caX12_resolves : CaV yX12_resolves (.code yX12_resolves cX12_resolves 6 none) 1 := ⟨⟨(wa_mem (tb8 (List.mem_of_getElem? (i := 15) rfl)) rfl), (wa_mem (tb1 (List.mem_of_getElem? (i := 13) rfl)) rfl), by decide +kernel, by decide +kernel, by decide +kernel⟩, (wa_mem (tb8 (List.mem_of_getElem? (i := 14) rfl)) rfl), (wa_mem (tbp (q := (yX12_resolves, 95)) (List.mem_of_getElem? (i := 66) rfl)) rfl)⟩
theorem caX12_runs : CaV yX12_runs (.code yX12_runs cX12_runs 6 none) 2 := ⟨⟨(wa_mem (tb8 (List.mem_of_getElem? (i := 59) rfl)) rfl), (wa_mem (tb1 (List.mem_of_getElem? (i := 13) rfl)) rfl), by decide +kernel, by decide +kernel, by decide +kernel⟩, (wa_mem (tb8 (List.mem_of_getElem? (i := 58) rfl)) rfl), (wa_mem (tbp (q := (yX12_runs, 95)) (List.mem_of_getElem? (i := 77) rfl)) rfl)⟩
theorem caX12_section : CaV yX12_section (.code yX12_section cX12_section 9 none) 2 := ⟨⟨(wa_mem (tb7 (List.mem_of_getElem? (i := 133) rfl)) rfl), (wa_mem (tb1 (List.mem_of_getElem? (i := 13) rfl)) rfl), by decide +kernel, by decide +kernel, by decide +kernel⟩, (wa_mem (tb7 (List.mem_of_getElem? (i := 132) rfl)) rfl), (wa_mem (tbp (q := (yX12_section, 95)) (List.mem_of_getElem? (i := 43) rfl)) rfl)⟩
theorem caX12_sign : CaV yX12_sign (.code yX12_sign cX12_sign 4 (some .int)) 3 := ⟨⟨(wa_mem (tb8 (List.mem_of_getElem? (i := 148) rfl)) rfl), (wa_mem (tb1 (List.mem_of_getElem? (i := 13) rfl)) rfl), by decide +kernel, by decide +kernel, by decide +kernel⟩, (wa_mem (tb8 (List.mem_of_getElem? (i := 147) rfl)) rfl), (wa_mem (tbp (q := (yX12_sign, 95)) (List.mem_of_getElem? (i := 90) rfl)) rfl)⟩
theorem caX12_signsOf : CaV yX12_signsOf (.code yX12_signsOf cX12_signsOf 3 (some .int)) 1 := ⟨⟨(wa_mem (tb8 (List.mem_of_getElem? (i := 97) rfl)) rfl), (wa_mem (tb1 (List.mem_of_getElem? (i := 13) rfl)) rfl), by decide +kernel, by decide +kernel, by decide +kernel⟩, (wa_mem (tb8 (List.mem_of_getElem? (i := 96) rfl)) rfl), (wa_mem (tbp (q := (yX12_signsOf, 95)) (List.mem_of_getElem? (i := 84) rfl)) rfl)⟩
theorem caX12_spans : CaV yX12_spans (.code yX12_spans cX12_spans 8 none) 5 := ⟨⟨(wa_mem (tb8 (List.mem_of_getElem? (i := 31) rfl)) rfl), (wa_mem (tb1 (List.mem_of_getElem? (i := 13) rfl)) rfl), by decide +kernel, by decide +kernel, by decide +kernel⟩, (wa_mem (tb8 (List.mem_of_getElem? (i := 30) rfl)) rfl), (wa_mem (tbp (q := (yX12_spans, 95)) (List.mem_of_getElem? (i := 70) rfl)) rfl)⟩
theorem caX12_standard : CaV yX12_standard (.code yX12_standard cX12_standard 5 none) 3 := ⟨⟨(wa_mem (tb8 (List.mem_of_getElem? (i := 77) rfl)) rfl), (wa_mem (tb1 (List.mem_of_getElem? (i := 13) rfl)) rfl), by decide +kernel, by decide +kernel, by decide +kernel⟩, (wa_mem (tb8 (List.mem_of_getElem? (i := 76) rfl)) rfl), (wa_mem (tbp (q := (yX12_standard, 95)) (List.mem_of_getElem? (i := 81) rfl)) rfl)⟩
theorem caX12_string : CaV yX12_string (.code yX12_string cX12_string 3 (some .int)) 0 := ⟨⟨(wa_mem (tb7 (List.mem_of_getElem? (i := 223) rfl)) rfl), (wa_mem (tb1 (List.mem_of_getElem? (i := 13) rfl)) rfl), by decide +kernel, by decide +kernel, by decide +kernel⟩, (wa_mem (tb7 (List.mem_of_getElem? (i := 222) rfl)) rfl), (wa_mem (tbp (q := (yX12_string, 95)) (List.mem_of_getElem? (i := 61) rfl)) rfl)⟩
theorem caX12_stringAt : CaV yX12_stringAt (.code yX12_stringAt cX12_stringAt 4 (some .int)) 2 := ⟨⟨(wa_mem (tb7 (List.mem_of_getElem? (i := 138) rfl)) rfl), (wa_mem (tb1 (List.mem_of_getElem? (i := 13) rfl)) rfl), by decide +kernel, by decide +kernel, by decide +kernel⟩, (wa_mem (tb7 (List.mem_of_getElem? (i := 137) rfl)) rfl), (wa_mem (tbp (q := (yX12_stringAt, 95)) (List.mem_of_getElem? (i := 44) rfl)) rfl)⟩
theorem caX12_symbolOf : CaV yX12_symbolOf (.code yX12_symbolOf cX12_symbolOf 5 none) 1 := ⟨⟨(wa_mem (tb8 (List.mem_of_getElem? (i := 132) rfl)) rfl), (wa_mem (tb1 (List.mem_of_getElem? (i := 13) rfl)) rfl), by decide +kernel, by decide +kernel, by decide +kernel⟩, (wa_mem (tb8 (List.mem_of_getElem? (i := 131) rfl)) rfl), (wa_mem (tbp (q := (yX12_symbolOf, 95)) (List.mem_of_getElem? (i := 88) rfl)) rfl)⟩
theorem caX12_symbols : CaV yX12_symbols (.code yX12_symbols cX12_symbols 3 none) 0 := ⟨⟨(wa_mem (tb7 (List.mem_of_getElem? (i := 146) rfl)) rfl), (wa_mem (tb1 (List.mem_of_getElem? (i := 13) rfl)) rfl), by decide +kernel, by decide +kernel, by decide +kernel⟩, (wa_mem (tb7 (List.mem_of_getElem? (i := 145) rfl)) rfl), (wa_mem (tbp (q := (yX12_symbols, 95)) (List.mem_of_getElem? (i := 46) rfl)) rfl)⟩
theorem caX12_table : CaV yX12_table (.code yX12_table cX12_table 8 none) 1 := ⟨⟨(wa_mem (tb8 (List.mem_of_getElem? (i := 39) rfl)) rfl), (wa_mem (tb1 (List.mem_of_getElem? (i := 13) rfl)) rfl), by decide +kernel, by decide +kernel, by decide +kernel⟩, (wa_mem (tb8 (List.mem_of_getElem? (i := 38) rfl)) rfl), (wa_mem (tbp (q := (yX12_table, 95)) (List.mem_of_getElem? (i := 72) rfl)) rfl)⟩
theorem caX12_text : CaV yX12_text (.code yX12_text cX12_text 8 none) 4 := ⟨⟨(wa_mem (tb7 (List.mem_of_getElem? (i := 235) rfl)) rfl), (wa_mem (tb1 (List.mem_of_getElem? (i := 13) rfl)) rfl), by decide +kernel, by decide +kernel, by decide +kernel⟩, (wa_mem (tb7 (List.mem_of_getElem? (i := 234) rfl)) rfl), (wa_mem (tbp (q := (yX12_text, 95)) (List.mem_of_getElem? (i := 63) rfl)) rfl)⟩
theorem caX12_uleb : CaV yX12_uleb (.code yX12_uleb cX12_uleb 1 (some .long)) 0 := ⟨⟨(wa_mem (tb7 (List.mem_of_getElem? (i := 183) rfl)) rfl), (wa_mem (tb1 (List.mem_of_getElem? (i := 13) rfl)) rfl), by decide +kernel, by decide +kernel, by decide +kernel⟩, (wa_mem (tb7 (List.mem_of_getElem? (i := 182) rfl)) rfl), (wa_mem (tbp (q := (yX12_uleb, 95)) (List.mem_of_getElem? (i := 55) rfl)) rfl)⟩
theorem caX12_unit : CaV yX12_unit (.code yX12_unit cX12_unit 8 none) 2 := ⟨⟨(wa_mem (tb7 (List.mem_of_getElem? (i := 171) rfl)) rfl), (wa_mem (tb1 (List.mem_of_getElem? (i := 13) rfl)) rfl), by decide +kernel, by decide +kernel, by decide +kernel⟩, (wa_mem (tb7 (List.mem_of_getElem? (i := 170) rfl)) rfl), (wa_mem (tbp (q := (yX12_unit, 95)) (List.mem_of_getElem? (i := 52) rfl)) rfl)⟩
theorem caX12_units : CaV yX12_units (.code yX12_units cX12_units 3 none) 0 := ⟨⟨(wa_mem (tb7 (List.mem_of_getElem? (i := 158) rfl)) rfl), (wa_mem (tb1 (List.mem_of_getElem? (i := 13) rfl)) rfl), by decide +kernel, by decide +kernel, by decide +kernel⟩, (wa_mem (tb7 (List.mem_of_getElem? (i := 157) rfl)) rfl), (wa_mem (tbp (q := (yX12_units, 95)) (List.mem_of_getElem? (i := 49) rfl)) rfl)⟩
theorem caX12_value : CaV yX12_value (.code yX12_value cX12_value 10 none) 4 := ⟨⟨(wa_mem (tb7 (List.mem_of_getElem? (i := 219) rfl)) rfl), (wa_mem (tb1 (List.mem_of_getElem? (i := 13) rfl)) rfl), by decide +kernel, by decide +kernel, by decide +kernel⟩, (wa_mem (tb7 (List.mem_of_getElem? (i := 218) rfl)) rfl), (wa_mem (tbp (q := (yX12_value, 95)) (List.mem_of_getElem? (i := 60) rfl)) rfl)⟩
theorem caX12_widthOf : CaS yX12_widthOf (.code yX12_widthOf cX12_widthOf 1 (some .int)) 1 := ⟨⟨(wa_mem (tb7 (List.mem_of_getElem? (i := 231) rfl)) rfl), (wa_mem (tb1 (List.mem_of_getElem? (i := 13) rfl)) rfl), by decide +kernel, by decide +kernel, by decide +kernel⟩, (wa_mem (tb7 (List.mem_of_getElem? (i := 230) rfl)) rfl)⟩
theorem caX1_byteAt : CaV yX1_byteAt (.code yX1_byteAt cX1_byteAt 2 (some .int)) 1 := ⟨⟨(wa_mem (tb2 (List.mem_of_getElem? (i := 217) rfl)) rfl), (wa_mem (tb1 (List.mem_of_getElem? (i := 2) rfl)) rfl), by decide +kernel, by decide +kernel, by decide +kernel⟩, (wa_mem (tb2 (List.mem_of_getElem? (i := 215) rfl)) rfl), (wa_mem (tb2 (List.mem_of_getElem? (i := 216) rfl)) rfl)⟩
theorem caX1_hasLeft : CaV yX1_hasLeft (.code yX1_hasLeft cX1_hasLeft 3 (some .boolean)) 1 := ⟨⟨(wa_mem (tb3 (List.mem_of_getElem? (i := 144) rfl)) rfl), (wa_mem (tb1 (List.mem_of_getElem? (i := 2) rfl)) rfl), by decide +kernel, by decide +kernel, by decide +kernel⟩, (wa_mem (tb3 (List.mem_of_getElem? (i := 142) rfl)) rfl), (wa_mem (tb3 (List.mem_of_getElem? (i := 143) rfl)) rfl)⟩
theorem caX1_number : CaV yX1_number (.code yX1_number cX1_number 4 (some .long)) 1 := ⟨⟨(wa_mem (tb3 (List.mem_of_getElem? (i := 139) rfl)) rfl), (wa_mem (tb1 (List.mem_of_getElem? (i := 2) rfl)) rfl), by decide +kernel, by decide +kernel, by decide +kernel⟩, (wa_mem (tb3 (List.mem_of_getElem? (i := 137) rfl)) rfl), (wa_mem (tb3 (List.mem_of_getElem? (i := 138) rfl)) rfl)⟩
theorem caX1_numberAt : CaV yX1_numberAt (.code yX1_numberAt cX1_numberAt 9 (some .long)) 2 := ⟨⟨(wa_mem (tb2 (List.mem_of_getElem? (i := 225) rfl)) rfl), (wa_mem (tb1 (List.mem_of_getElem? (i := 2) rfl)) rfl), by decide +kernel, by decide +kernel, by decide +kernel⟩, (wa_mem (tb2 (List.mem_of_getElem? (i := 223) rfl)) rfl), (wa_mem (tb2 (List.mem_of_getElem? (i := 224) rfl)) rfl)⟩
theorem caX1_refuse : CaV yX1_refuse (.code yX1_refuse cX1_refuse 3 none) 2 := ⟨⟨(wa_mem (tb2 (List.mem_of_getElem? (i := 221) rfl)) rfl), (wa_mem (tb1 (List.mem_of_getElem? (i := 2) rfl)) rfl), by decide +kernel, by decide +kernel, by decide +kernel⟩, (wa_mem (tb2 (List.mem_of_getElem? (i := 219) rfl)) rfl), (wa_mem (tb2 (List.mem_of_getElem? (i := 220) rfl)) rfl)⟩
theorem caX1_sound : CaV yX1_sound (.code yX1_sound cX1_sound 1 (some .boolean)) 0 := ⟨⟨(wa_mem (tb2 (List.mem_of_getElem? (i := 235) rfl)) rfl), (wa_mem (tb1 (List.mem_of_getElem? (i := 2) rfl)) rfl), by decide +kernel, by decide +kernel, by decide +kernel⟩, (wa_mem (tb2 (List.mem_of_getElem? (i := 233) rfl)) rfl), (wa_mem (tb2 (List.mem_of_getElem? (i := 234) rfl)) rfl)⟩
theorem caX1_textLength : CaV yX1_textLength (.code yX1_textLength cX1_textLength 4 (some .int)) 2 := ⟨⟨(wa_mem (tb3 (List.mem_of_getElem? (i := 19) rfl)) rfl), (wa_mem (tb1 (List.mem_of_getElem? (i := 2) rfl)) rfl), by decide +kernel, by decide +kernel, by decide +kernel⟩, (wa_mem (tb3 (List.mem_of_getElem? (i := 18) rfl)) rfl), (wa_mem (tbp (q := (yX1_textLength, 6)) (List.mem_of_getElem? (i := 4) rfl)) rfl)⟩
theorem caX1_uleb : CaV yX1_uleb (.code yX1_uleb cX1_uleb 5 (some .long)) 0 := ⟨⟨(wa_mem (tb3 (List.mem_of_getElem? (i := 193) rfl)) rfl), (wa_mem (tb1 (List.mem_of_getElem? (i := 2) rfl)) rfl), by decide +kernel, by decide +kernel, by decide +kernel⟩, (wa_mem (tb3 (List.mem_of_getElem? (i := 191) rfl)) rfl), (wa_mem (tb3 (List.mem_of_getElem? (i := 192) rfl)) rfl)⟩
theorem caX1_within : CaV yX1_within (.code yX1_within cX1_within 3 none) 2 := ⟨⟨(wa_mem (tb2 (List.mem_of_getElem? (i := 196) rfl)) rfl), (wa_mem (tb1 (List.mem_of_getElem? (i := 2) rfl)) rfl), by decide +kernel, by decide +kernel, by decide +kernel⟩, (wa_mem (tb2 (List.mem_of_getElem? (i := 194) rfl)) rfl), (wa_mem (tb2 (List.mem_of_getElem? (i := 195) rfl)) rfl)⟩
