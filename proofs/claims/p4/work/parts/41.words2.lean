theorem w97 : (Cond.initialized RX1) ∈ WA := wa_mem (tb1 (List.mem_of_getElem? (i := 2) rfl)) rfl
theorem w98 : (Cond.initialized RX7) ∈ WA := wa_mem (tb1 (List.mem_of_getElem? (i := 3) rfl)) rfl
theorem w99 : (Cond.initialized RX9) ∈ WA := wa_mem (tb1 (List.mem_of_getElem? (i := 4) rfl)) rfl
theorem w100 : (Cond.initialized RX0) ∈ WA := wa_mem (tb1 (List.mem_of_getElem? (i := 5) rfl)) rfl
theorem w101 : (Cond.initialized RX5) ∈ WA := wa_mem (tb1 (List.mem_of_getElem? (i := 6) rfl)) rfl
theorem w102 : (Cond.initialized RX3) ∈ WA := wa_mem (tb1 (List.mem_of_getElem? (i := 7) rfl)) rfl
theorem w103 : (Cond.initialized RX8) ∈ WA := wa_mem (tb1 (List.mem_of_getElem? (i := 8) rfl)) rfl
theorem w104 : (Cond.initialized RX10) ∈ WA := wa_mem (tb1 (List.mem_of_getElem? (i := 9) rfl)) rfl
theorem w105 : (Cond.initialized RX2) ∈ WA := wa_mem (tb1 (List.mem_of_getElem? (i := 10) rfl)) rfl
theorem w106 : (Cond.initialized RX6) ∈ WA := wa_mem (tb1 (List.mem_of_getElem? (i := 11) rfl)) rfl
theorem w107 : (Cond.initialized RX4) ∈ WA := wa_mem (tb1 (List.mem_of_getElem? (i := 12) rfl)) rfl
theorem w120 : (Cond.methodLink RX11 3 objectInit) ∈ WA := wa_mem (tb1 (List.mem_of_getElem? (i := 25) rfl)) rfl
theorem w121 : (Cond.instanceMethod objectInit) ∈ WA := wa_mem (tb1 (List.mem_of_getElem? (i := 26) rfl)) rfl
theorem w122 : (Cond.code objectInit ⟨#[0xb1]⟩ 1 none) ∈ WA := wa_mem (tb1 (List.mem_of_getElem? (i := 27) rfl)) rfl
theorem w123 : (Cond.classLink RX11 16 RX1) ∈ WA := wa_mem (tb1 (List.mem_of_getElem? (i := 28) rfl)) rfl
theorem w124 : (Cond.instantiable RX1 6) ∈ WA := wa_mem (tb1 (List.mem_of_getElem? (i := 29) rfl)) rfl
theorem w125 : (Cond.methodLink RX11 18 yX1_init) ∈ WA := wa_mem (tb1 (List.mem_of_getElem? (i := 30) rfl)) rfl
theorem w128 : (Cond.methodLink RX1 3 objectInit) ∈ WA := wa_mem (tb1 (List.mem_of_getElem? (i := 33) rfl)) rfl
theorem w148 : (Cond.arrayClass .byte) ∈ WA := wa_mem (tb1 (List.mem_of_getElem? (i := 53) rfl)) rfl
theorem w149 : (Cond.classLink RX11 25 RX7) ∈ WA := wa_mem (tb1 (List.mem_of_getElem? (i := 54) rfl)) rfl
theorem w150 : (Cond.instantiable RX7 6) ∈ WA := wa_mem (tb1 (List.mem_of_getElem? (i := 55) rfl)) rfl
theorem w154 : (Cond.methodLink RX7 3 objectInit) ∈ WA := wa_mem (tb1 (List.mem_of_getElem? (i := 59) rfl)) rfl
theorem w174 : (Cond.arrayClass .int) ∈ WA := wa_mem (tb1 (List.mem_of_getElem? (i := 79) rfl)) rfl
theorem w175 : (Cond.classLink RX11 32 RX9) ∈ WA := wa_mem (tb1 (List.mem_of_getElem? (i := 80) rfl)) rfl
theorem w176 : (Cond.instantiable RX9 10) ∈ WA := wa_mem (tb1 (List.mem_of_getElem? (i := 81) rfl)) rfl
theorem w177 : (Cond.methodLink RX11 34 yX9_init) ∈ WA := wa_mem (tb1 (List.mem_of_getElem? (i := 82) rfl)) rfl
theorem w180 : (Cond.methodLink RX9 3 objectInit) ∈ WA := wa_mem (tb1 (List.mem_of_getElem? (i := 85) rfl)) rfl
theorem w181 : (Cond.classLink RX9 9 RX0) ∈ WA := wa_mem (tb1 (List.mem_of_getElem? (i := 86) rfl)) rfl
theorem w182 : (Cond.instantiable RX0 8) ∈ WA := wa_mem (tb1 (List.mem_of_getElem? (i := 87) rfl)) rfl
theorem w186 : (Cond.methodLink RX0 3 objectInit) ∈ WA := wa_mem (tb1 (List.mem_of_getElem? (i := 91) rfl)) rfl
theorem w212 : (Cond.arrayClass .long) ∈ WA := wa_mem (tb1 (List.mem_of_getElem? (i := 117) rfl)) rfl
theorem w244 : (Cond.classLink RX11 41 RX5) ∈ WA := wa_mem (tb1 (List.mem_of_getElem? (i := 149) rfl)) rfl
theorem w245 : (Cond.instantiable RX5 5) ∈ WA := wa_mem (tb1 (List.mem_of_getElem? (i := 150) rfl)) rfl
theorem w249 : (Cond.methodLink RX5 3 objectInit) ∈ WA := wa_mem (tb1 (List.mem_of_getElem? (i := 154) rfl)) rfl
theorem w266 : (Cond.classLink RX11 48 RX3) ∈ WA := wa_mem (tb1 (List.mem_of_getElem? (i := 171) rfl)) rfl
theorem w267 : (Cond.instantiable RX3 6) ∈ WA := wa_mem (tb1 (List.mem_of_getElem? (i := 172) rfl)) rfl
theorem w271 : (Cond.methodLink RX3 3 objectInit) ∈ WA := wa_mem (tb1 (List.mem_of_getElem? (i := 176) rfl)) rfl
theorem w272 : (Cond.classLink RX3 9 RX8) ∈ WA := wa_mem (tb1 (List.mem_of_getElem? (i := 177) rfl)) rfl
theorem w273 : (Cond.instantiable RX8 5) ∈ WA := wa_mem (tb1 (List.mem_of_getElem? (i := 178) rfl)) rfl
theorem w277 : (Cond.methodLink RX8 3 objectInit) ∈ WA := wa_mem (tb1 (List.mem_of_getElem? (i := 182) rfl)) rfl
theorem w294 : (Cond.classLink RX3 18 RX10) ∈ WA := wa_mem (tb1 (List.mem_of_getElem? (i := 199) rfl)) rfl
theorem w295 : (Cond.instantiable RX10 8) ∈ WA := wa_mem (tb1 (List.mem_of_getElem? (i := 200) rfl)) rfl
theorem w299 : (Cond.methodLink RX10 3 objectInit) ∈ WA := wa_mem (tb1 (List.mem_of_getElem? (i := 204) rfl)) rfl
theorem w325 : (Cond.classLink RX3 25 RX2) ∈ WA := wa_mem (tb1 (List.mem_of_getElem? (i := 230) rfl)) rfl
theorem w326 : (Cond.instantiable RX2 11) ∈ WA := wa_mem (tb1 (List.mem_of_getElem? (i := 231) rfl)) rfl
theorem w330 : (Cond.methodLink RX2 3 objectInit) ∈ WA := wa_mem (tb1 (List.mem_of_getElem? (i := 235) rfl)) rfl
theorem w365 : (Cond.classLink RX3 32 RX6) ∈ WA := wa_mem (tb2 (List.mem_of_getElem? (i := 30) rfl)) rfl
theorem w366 : (Cond.instantiable RX6 4) ∈ WA := wa_mem (tb2 (List.mem_of_getElem? (i := 31) rfl)) rfl
theorem w370 : (Cond.methodLink RX6 3 objectInit) ∈ WA := wa_mem (tb2 (List.mem_of_getElem? (i := 35) rfl)) rfl
theorem w384 : (Cond.classLink RX3 39 RX4) ∈ WA := wa_mem (tb2 (List.mem_of_getElem? (i := 49) rfl)) rfl
theorem w385 : (Cond.instantiable RX4 19) ∈ WA := wa_mem (tb2 (List.mem_of_getElem? (i := 50) rfl)) rfl
theorem w389 : (Cond.methodLink RX4 3 objectInit) ∈ WA := wa_mem (tb2 (List.mem_of_getElem? (i := 54) rfl)) rfl
theorem w448 : (Cond.fieldLink RX3 12 "AddressNamer$Image" "symbols" "LAddressNamer$Symbols;") ∈ WA := wa_mem (tb2 (List.mem_of_getElem? (i := 113) rfl)) rfl
theorem w451 : (Cond.fieldLink RX3 21 "AddressNamer$Image" "units" "LAddressNamer$Units;") ∈ WA := wa_mem (tb2 (List.mem_of_getElem? (i := 116) rfl)) rfl
theorem w465 : (Cond.fieldLink RX3 42 "AddressNamer$Image" "lines" "LAddressNamer$Lines;") ∈ WA := wa_mem (tb2 (List.mem_of_getElem? (i := 130) rfl)) rfl
theorem w1366 : (Cond.methodLink RX12 1 objectInit) ∈ WA := wa_mem (tb6 (List.mem_of_getElem? (i := 71) rfl)) rfl
theorem w1653 : (Cond.arrayClass .boolean) ∈ WA := wa_mem (tb7 (List.mem_of_getElem? (i := 118) rfl)) rfl
theorem w151 : (Cond.methodLinkNest RX11 27 yX7_init "AddressNamer") ∈ lw_tbl := (tb1 (List.mem_of_getElem? (i := 56) rfl))
theorem w183 : (Cond.methodLinkNest RX9 11 yX0_init "AddressNamer") ∈ lw_tbl := (tb1 (List.mem_of_getElem? (i := 88) rfl))
theorem w246 : (Cond.methodLinkNest RX11 43 yX5_init "AddressNamer") ∈ lw_tbl := (tb1 (List.mem_of_getElem? (i := 151) rfl))
theorem w268 : (Cond.methodLinkNest RX11 50 yX3_init "AddressNamer") ∈ lw_tbl := (tb1 (List.mem_of_getElem? (i := 173) rfl))
theorem w274 : (Cond.methodLinkNest RX3 11 yX8_init "AddressNamer") ∈ lw_tbl := (tb1 (List.mem_of_getElem? (i := 179) rfl))
theorem w296 : (Cond.methodLinkNest RX3 20 yX10_init "AddressNamer") ∈ lw_tbl := (tb1 (List.mem_of_getElem? (i := 201) rfl))
theorem w327 : (Cond.methodLinkNest RX3 27 yX2_init "AddressNamer") ∈ lw_tbl := (tb1 (List.mem_of_getElem? (i := 232) rfl))
theorem w367 : (Cond.methodLinkNest RX3 34 yX6_init "AddressNamer") ∈ lw_tbl := (tb2 (List.mem_of_getElem? (i := 32) rfl))
theorem w386 : (Cond.methodLinkNest RX3 41 yX4_init "AddressNamer") ∈ lw_tbl := (tb2 (List.mem_of_getElem? (i := 51) rfl))
theorem caX0_init : CaI yX0_init (.code yX0_init cX0_init 1 none) 0 := ⟨⟨(wa_mem (tb1 (List.mem_of_getElem? (i := 90) rfl)) rfl), (wa_mem (tb1 (List.mem_of_getElem? (i := 5) rfl)) rfl), by decide +kernel, by decide +kernel, by decide +kernel⟩, (wa_mem (tb1 (List.mem_of_getElem? (i := 89) rfl)) rfl), rfl⟩
theorem caX10_init : CaI yX10_init (.code yX10_init cX10_init 1 none) 0 := ⟨⟨(wa_mem (tb1 (List.mem_of_getElem? (i := 203) rfl)) rfl), (wa_mem (tb1 (List.mem_of_getElem? (i := 9) rfl)) rfl), by decide +kernel, by decide +kernel, by decide +kernel⟩, (wa_mem (tb1 (List.mem_of_getElem? (i := 202) rfl)) rfl), rfl⟩
theorem caX11_init : CaI yX11_init (.code yX11_init cX11_init 1 none) 0 := ⟨⟨(wa_mem (tb1 (List.mem_of_getElem? (i := 24) rfl)) rfl), (wa_mem (tb1 (List.mem_of_getElem? (i := 1) rfl)) rfl), by decide +kernel, by decide +kernel, by decide +kernel⟩, (wa_mem (tb1 (List.mem_of_getElem? (i := 23) rfl)) rfl), rfl⟩
theorem caX12_init : CaI yX12_init (.code yX12_init cX12_init 1 none) 0 := ⟨⟨(wa_mem (tb6 (List.mem_of_getElem? (i := 70) rfl)) rfl), (wa_mem (tb1 (List.mem_of_getElem? (i := 13) rfl)) rfl), by decide +kernel, by decide +kernel, by decide +kernel⟩, (wa_mem (tb6 (List.mem_of_getElem? (i := 69) rfl)) rfl), rfl⟩
theorem caX1_init : CaI yX1_init (.code yX1_init cX1_init 2 none) 1 := ⟨⟨(wa_mem (tb1 (List.mem_of_getElem? (i := 32) rfl)) rfl), (wa_mem (tb1 (List.mem_of_getElem? (i := 2) rfl)) rfl), by decide +kernel, by decide +kernel, by decide +kernel⟩, (wa_mem (tb1 (List.mem_of_getElem? (i := 31) rfl)) rfl), rfl⟩
theorem caX2_init : CaI yX2_init (.code yX2_init cX2_init 1 none) 0 := ⟨⟨(wa_mem (tb1 (List.mem_of_getElem? (i := 234) rfl)) rfl), (wa_mem (tb1 (List.mem_of_getElem? (i := 10) rfl)) rfl), by decide +kernel, by decide +kernel, by decide +kernel⟩, (wa_mem (tb1 (List.mem_of_getElem? (i := 233) rfl)) rfl), rfl⟩
theorem caX3_init : CaI yX3_init (.code yX3_init cX3_init 1 none) 0 := ⟨⟨(wa_mem (tb1 (List.mem_of_getElem? (i := 175) rfl)) rfl), (wa_mem (tb1 (List.mem_of_getElem? (i := 7) rfl)) rfl), by decide +kernel, by decide +kernel, by decide +kernel⟩, (wa_mem (tb1 (List.mem_of_getElem? (i := 174) rfl)) rfl), rfl⟩
theorem caX4_init : CaI yX4_init (.code yX4_init cX4_init 1 none) 0 := ⟨⟨(wa_mem (tb2 (List.mem_of_getElem? (i := 53) rfl)) rfl), (wa_mem (tb1 (List.mem_of_getElem? (i := 12) rfl)) rfl), by decide +kernel, by decide +kernel, by decide +kernel⟩, (wa_mem (tb2 (List.mem_of_getElem? (i := 52) rfl)) rfl), rfl⟩
theorem caX5_init : CaI yX5_init (.code yX5_init cX5_init 1 none) 0 := ⟨⟨(wa_mem (tb1 (List.mem_of_getElem? (i := 153) rfl)) rfl), (wa_mem (tb1 (List.mem_of_getElem? (i := 6) rfl)) rfl), by decide +kernel, by decide +kernel, by decide +kernel⟩, (wa_mem (tb1 (List.mem_of_getElem? (i := 152) rfl)) rfl), rfl⟩
theorem caX6_init : CaI yX6_init (.code yX6_init cX6_init 1 none) 0 := ⟨⟨(wa_mem (tb2 (List.mem_of_getElem? (i := 34) rfl)) rfl), (wa_mem (tb1 (List.mem_of_getElem? (i := 11) rfl)) rfl), by decide +kernel, by decide +kernel, by decide +kernel⟩, (wa_mem (tb2 (List.mem_of_getElem? (i := 33) rfl)) rfl), rfl⟩
theorem caX7_init : CaI yX7_init (.code yX7_init cX7_init 1 none) 0 := ⟨⟨(wa_mem (tb1 (List.mem_of_getElem? (i := 58) rfl)) rfl), (wa_mem (tb1 (List.mem_of_getElem? (i := 3) rfl)) rfl), by decide +kernel, by decide +kernel, by decide +kernel⟩, (wa_mem (tb1 (List.mem_of_getElem? (i := 57) rfl)) rfl), rfl⟩
theorem caX8_init : CaI yX8_init (.code yX8_init cX8_init 1 none) 0 := ⟨⟨(wa_mem (tb1 (List.mem_of_getElem? (i := 181) rfl)) rfl), (wa_mem (tb1 (List.mem_of_getElem? (i := 8) rfl)) rfl), by decide +kernel, by decide +kernel, by decide +kernel⟩, (wa_mem (tb1 (List.mem_of_getElem? (i := 180) rfl)) rfl), rfl⟩
theorem caX9_init : CaI yX9_init (.code yX9_init cX9_init 3 none) 2 := ⟨⟨(wa_mem (tb1 (List.mem_of_getElem? (i := 84) rfl)) rfl), (wa_mem (tb1 (List.mem_of_getElem? (i := 4) rfl)) rfl), by decide +kernel, by decide +kernel, by decide +kernel⟩, (wa_mem (tb1 (List.mem_of_getElem? (i := 83) rfl)) rfl), rfl⟩
