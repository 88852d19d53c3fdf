section
variable {p : Program} {l : Launch} {e : Env} {s : State} {m : MethodId} {args : Array Value} {below : List Frame} {meth : Method} {c : Code} {D : va_G} {cy : Nat → ClassId} {ad : Nat → Nat}
variable {tk : Nat} {sp : Nat} {nm : Tnm} {tp : Ttp} {kp : Tkp} {cu : Tcu} {se : Tse} {ur : Tur} {ab : Tab} {lo : Tlo} {im : Tim} {sy : Tsy} {un : Tun} {en : Ten} {ra : Tra} {li : Tli} {i2 : Ti2}
def X6_readAll_213 (tp : Ttp) (se : Tse) (un : Tun) (k14 : Tcu → Ten → Tra → Int32 → Option (Tcu × Ten × Tra)) (cu : Tcu) (en : Ten) (ra : Tra) (v5 : Int32) (v6 : Int32) : Option (Tcu × Ten × Tra) := (letq (X2_setRanges en v5 v6 (ra.2.2.1 - v6)) fun q1 => k14 cu q1 ra (v5 + (1 : Int32)))
set_option maxRecDepth 20000 in
theorem bX6_readAll_213 (C : Cx p s m args meth c cX6_readAll 9 none RX6 (.code yX6_readAll cX6_readAll 9 none)) (hI : Apart ad 89) (hK : va_K D vwCl (tysX cy) s) (hN : NW s) {k14 : Tcu → Ten → Tra → Int32 → Option (Tcu × Ten × Tra)} {q : Tcu × Ten × Tra} (hk14 : ∀ {cu : Tcu} {en : Ten} {ra : Tra} {v5 : Int32}, k14 cu en ra v5 = some q → ∀ {ls : Array Slot}, lv_has ls 9 [(0, .ref (ad 45)), (1, .ref (ad 3)), (2, .ref (ad 4)), (3, .ref (ad 21)), (4, .ref (ad 34)), (5, .int v5)] → ∀ {H : Heap} {locs : List Loc}, va_P D vwCl (GX cy ad tk sp nm tp kp cu se ur ab lo im sy un en ra li i2) H → va_S (Ac ad 89) s.heap H locs → W p l e ({ frames := 4, cells := 0, slots := 0, locals := 103 } : Room) s m args below meth c H locs 0 0 (MQ below (QR none D (GX cy ad tk sp nm tp kp q.1 se ur ab lo im sy un q.2.1 q.2.2 li i2) (Ac ad 89)) args s 0 0 (Ac ad 89)) (F0 m 14 ls [])) {v5 : Int32} {v6 : Int32} (h : X6_readAll_213 tp se un k14 cu en ra v5 v6 = some q) {ls : Array Slot} (hl : lv_has ls 9 [(0, .ref (ad 45)), (1, .ref (ad 3)), (2, .ref (ad 4)), (3, .ref (ad 21)), (4, .ref (ad 34)), (5, .int v5), (6, .int v6)]) {H : Heap} {locs : List Loc} (hP : va_P D vwCl (GX cy ad tk sp nm tp kp cu se ur ab lo im sy un en ra li i2) H) (hS : va_S (Ac ad 89) s.heap H locs) : W p l e ({ frames := 4, cells := 0, slots := 0, locals := 103 } : Room) s m args below meth c H locs 0 0 (MQ below (QR none D (GX cy ad tk sp nm tp kp q.1 se ur ab lo im sy un q.2.1 q.2.2 li i2) (Ac ad 89)) args s 0 0 (Ac ad 89)) (F0 m 213 ls []) := by
  obtain ⟨hx, hb, hml, hown, hts, hr, hlk⟩ := id C
  unfold X6_readAll_213 at h
  refine lv_aload hx hb dX6_readAll_213 (lv_at hl 4 rfl) ?_
  refine lv_iload hx hb dX6_readAll_215 (lv_at hl 5 rfl) ?_
  refine lv_iload hx hb dX6_readAll_217 (lv_at hl 6 rfl) ?_
  refine lv_aload_n hx hb dX6_readAll_219 rfl (lv_at hl 0 rfl) ?_
  refine gX45_2 (v := ra.2.2.1) C hK hP rfl w369 dX6_readAll_220 ?_
  refine lv_iload hx hb dX6_readAll_223 (lv_at hl 6 rfl) ?_
  refine lv_isub hx hb dX6_readAll_225 ?_
  obtain ⟨q1, h2, h⟩ := lets h
  refine cRv (run_V (rest := []) C (kX2_setRanges hI h2) caX2_setRanges w966 ⟨rfl, rfl, Nat.le_of_ble_eq_true rfl, Nat.le_of_ble_eq_true rfl⟩ hK hN hP (rX34 hK hP) rfl hl.1 rfl (Nat.le_of_ble_eq_true rfl) dX6_readAll_226 ⟨Nat.zero_le _, Nat.zero_le _⟩) hS (fun H locs hP hS => ?_)
  have hP : va_P D vwCl (GX cy ad tk sp nm tp kp cu se ur ab lo im sy un q1 ra li i2) H := hP
  refine lv_iinc (v := (v5 + (1 : Int32))) (lv' := [(5, .int (v5 + (1 : Int32))), (0, .ref (ad 45)), (1, .ref (ad 3)), (2, .ref (ad 4)), (3, .ref (ad 21)), (4, .ref (ad 34)), (6, .int v6)]) hx hb dX6_readAll_229 hl (k := 5) rfl rfl (by decide) rfl (fun ls hl => ?_)
  refine lv_goto (tgt := 14) hx hb dX6_readAll_232 (by decide) ?_
  exact hk14 h (lv_sub hl [1, 2, 3, 4, 5, 0] rfl) hP hS
def X6_readAll_155 (tp : Ttp) (se : Tse) (un : Tun) (k14 : Tcu → Ten → Tra → Int32 → Option (Tcu × Ten × Tra)) (cu : Tcu) (en : Ten) (ra : Tra) (v5 : Int32) (v6 : Int32) : Option (Tcu × Ten × Tra) := (if (X2_isTold en v5 (4 : Int32)) = 0 then X6_readAll_213 tp se un k14 cu en ra v5 v6 else ((X6_readList tp cu se (ra.1, ra.2.1, ra.2.2.1, (X2_valueOr en (X10_firstEntryOf un (X2_unitOf en v5)) (1 : Int32) (0 : Int64))) (X2_valueOr en v5 (4 : Int32) (0 : Int64)) (X2_placeOf en v5)).bind fun q2 => X6_readAll_213 tp se un k14 q2.1 en q2.2 v5 v6))
set_option maxRecDepth 20000 in
theorem bX6_readAll_155 (C : Cx p s m args meth c cX6_readAll 9 none RX6 (.code yX6_readAll cX6_readAll 9 none)) (hI : Apart ad 89) (hK : va_K D vwCl (tysX cy) s) (hN : NW s) {k14 : Tcu → Ten → Tra → Int32 → Option (Tcu × Ten × Tra)} {q : Tcu × Ten × Tra} (hk14 : ∀ {cu : Tcu} {en : Ten} {ra : Tra} {v5 : Int32}, k14 cu en ra v5 = some q → ∀ {ls : Array Slot}, lv_has ls 9 [(0, .ref (ad 45)), (1, .ref (ad 3)), (2, .ref (ad 4)), (3, .ref (ad 21)), (4, .ref (ad 34)), (5, .int v5)] → ∀ {H : Heap} {locs : List Loc}, va_P D vwCl (GX cy ad tk sp nm tp kp cu se ur ab lo im sy un en ra li i2) H → va_S (Ac ad 89) s.heap H locs → W p l e ({ frames := 4, cells := 0, slots := 0, locals := 103 } : Room) s m args below meth c H locs 0 0 (MQ below (QR none D (GX cy ad tk sp nm tp kp q.1 se ur ab lo im sy un q.2.1 q.2.2 li i2) (Ac ad 89)) args s 0 0 (Ac ad 89)) (F0 m 14 ls [])) {v5 : Int32} {v6 : Int32} (h : X6_readAll_155 tp se un k14 cu en ra v5 v6 = some q) {ls : Array Slot} (hl : lv_has ls 9 [(0, .ref (ad 45)), (1, .ref (ad 3)), (2, .ref (ad 4)), (3, .ref (ad 21)), (4, .ref (ad 34)), (5, .int v5), (6, .int v6)]) {H : Heap} {locs : List Loc} (hP : va_P D vwCl (GX cy ad tk sp nm tp kp cu se ur ab lo im sy un en ra li i2) H) (hS : va_S (Ac ad 89) s.heap H locs) : W p l e ({ frames := 4, cells := 0, slots := 0, locals := 103 } : Room) s m args below meth c H locs 0 0 (MQ below (QR none D (GX cy ad tk sp nm tp kp q.1 se ur ab lo im sy un q.2.1 q.2.2 li i2) (Ac ad 89)) args s 0 0 (Ac ad 89)) (F0 m 155 ls []) := by
  obtain ⟨hx, hb, hml, hown, hts, hr, hlk⟩ := id C
  unfold X6_readAll_155 at h
  refine lv_aload hx hb dX6_readAll_155 (lv_at hl 4 rfl) ?_
  refine lv_iload hx hb dX6_readAll_157 (lv_at hl 5 rfl) ?_
  refine lv_iconst (v := (4 : Int32)) hx hb dX6_readAll_159 (by decide) ?_
  refine cPi (run_V (rest := []) C (kX2_isTold rfl) caX2_isTold w934 ⟨rfl, rfl, Nat.le_of_ble_eq_true rfl, Nat.le_of_ble_eq_true rfl⟩ hK hN hP (rX34 hK hP) rfl hl.1 rfl (Nat.le_of_ble_eq_true rfl) dX6_readAll_160 ⟨Nat.zero_le _, Nat.zero_le _⟩) ?_
  refine lv_if_eq (tgt := 213) hx hb dX6_readAll_163 (by decide) (fun c1 => ?_) (fun c1 => ?_)
  · rw [if_pos c1] at h
    exact bX6_readAll_213 C hI hK hN @hk14 h (lv_sub hl [0, 1, 2, 3, 4, 5, 6] rfl) hP hS
  · rw [if_neg c1] at h
    refine lv_aload_n hx hb dX6_readAll_166 rfl (lv_at hl 0 rfl) ?_
    refine lv_aload hx hb dX6_readAll_167 (lv_at hl 4 rfl) ?_
    refine lv_aload_n hx hb dX6_readAll_169 rfl (lv_at hl 3 rfl) ?_
    refine gX21_1N C hK hP hN w444 dX6_readAll_170 ?_
    refine lv_aload hx hb dX6_readAll_173 (lv_at hl 4 rfl) ?_
    refine lv_iload hx hb dX6_readAll_175 (lv_at hl 5 rfl) ?_
    refine cPi (run_V (rest := [.ref (ad 27), .ref (ad 34), .ref (ad 45)]) C (kX2_unitOf rfl) caX2_unitOf w942 ⟨rfl, rfl, Nat.le_of_ble_eq_true rfl, Nat.le_of_ble_eq_true rfl⟩ hK hN hP (rX34 hK hP) rfl hl.1 rfl (Nat.le_of_ble_eq_true rfl) dX6_readAll_177 ⟨Nat.zero_le _, Nat.zero_le _⟩) ?_
    refine cPi (run_V (rest := [.ref (ad 34), .ref (ad 45)]) C (kX10_firstEntryOf rfl) caX10_firstEntryOf w946 ⟨rfl, rfl, Nat.le_of_ble_eq_true rfl, Nat.le_of_ble_eq_true rfl⟩ hK hN hP (rX27 hK hP) rfl hl.1 rfl (Nat.le_of_ble_eq_true rfl) dX6_readAll_180 ⟨Nat.zero_le _, Nat.zero_le _⟩) ?_
    refine lv_iconst (v := (1 : Int32)) hx hb dX6_readAll_183 (by decide) ?_
    refine lv_lconst (v := (0 : Int64)) hx hb dX6_readAll_184 (by decide) ?_
    refine cPl (run_V (rest := [.ref (ad 45)]) C (kX2_valueOr rfl) caX2_valueOr w933 ⟨rfl, rfl, Nat.le_of_ble_eq_true rfl, Nat.le_of_ble_eq_true rfl⟩ hK hN hP (rX34 hK hP) rfl hl.1 rfl (Nat.le_of_ble_eq_true rfl) dX6_readAll_185 ⟨Nat.zero_le _, Nat.zero_le _⟩) ?_
    refine pX45_3 (v := (X2_valueOr en (X10_firstEntryOf un (X2_unitOf en v5)) (1 : Int32) (0 : Int64))) C hI hK hP hS w370 dX6_readAll_188 (fun H locs hP hS => ?_)
    have hP : va_P D vwCl (GX cy ad tk sp nm tp kp cu se ur ab lo im sy un en (ra.1, ra.2.1, ra.2.2.1, (X2_valueOr en (X10_firstEntryOf un (X2_unitOf en v5)) (1 : Int32) (0 : Int64))) li i2) H := hP
    refine lv_aload_n hx hb dX6_readAll_191 rfl (lv_at hl 0 rfl) ?_
    refine lv_aload_n hx hb dX6_readAll_192 rfl (lv_at hl 1 rfl) ?_
    refine lv_aload_n hx hb dX6_readAll_193 rfl (lv_at hl 2 rfl) ?_
    refine lv_aload hx hb dX6_readAll_194 (lv_at hl 4 rfl) ?_
    refine lv_iload hx hb dX6_readAll_196 (lv_at hl 5 rfl) ?_
    refine lv_iconst (v := (4 : Int32)) hx hb dX6_readAll_198 (by decide) ?_
    refine lv_lconst (v := (0 : Int64)) hx hb dX6_readAll_199 (by decide) ?_
    refine cPl (run_V (rest := [.ref (ad 4), .ref (ad 3), .ref (ad 45)]) C (kX2_valueOr rfl) caX2_valueOr w933 ⟨rfl, rfl, Nat.le_of_ble_eq_true rfl, Nat.le_of_ble_eq_true rfl⟩ hK hN hP (rX34 hK hP) rfl hl.1 rfl (Nat.le_of_ble_eq_true rfl) dX6_readAll_200 ⟨Nat.zero_le _, Nat.zero_le _⟩) ?_
    refine lv_aload hx hb dX6_readAll_203 (lv_at hl 4 rfl) ?_
    refine lv_iload hx hb dX6_readAll_205 (lv_at hl 5 rfl) ?_
    refine cPi (run_V (rest := [.long (X2_valueOr en v5 (4 : Int32) (0 : Int64)), .ref (ad 4), .ref (ad 3), .ref (ad 45)]) C (kX2_placeOf rfl) caX2_placeOf w935 ⟨rfl, rfl, Nat.le_of_ble_eq_true rfl, Nat.le_of_ble_eq_true rfl⟩ hK hN hP (rX34 hK hP) rfl hl.1 rfl (Nat.le_of_ble_eq_true rfl) dX6_readAll_207 ⟨Nat.zero_le _, Nat.zero_le _⟩) ?_
    obtain ⟨q2, h3, h⟩ := bnd h
    refine cRv (run_V (rest := []) C (kX6_readList hI h3) caX6_readList w951 ⟨rfl, rfl, Nat.le_of_ble_eq_true rfl, Nat.le_of_ble_eq_true rfl⟩ hK hN hP (rX45 hK hP) rfl hl.1 rfl (Nat.le_of_ble_eq_true rfl) dX6_readAll_210 ⟨Nat.zero_le _, Nat.zero_le _⟩) hS (fun H locs hP hS => ?_)
    have hP : va_P D vwCl (GX cy ad tk sp nm tp kp q2.1 se ur ab lo im sy un en q2.2 li i2) H := hP
    exact bX6_readAll_213 C hI hK hN @hk14 h (lv_sub hl [0, 1, 2, 3, 4, 5, 6] rfl) hP hS
def X6_readAll_104 (tp : Ttp) (se : Tse) (un : Tun) (k14 : Tcu → Ten → Tra → Int32 → Option (Tcu × Ten × Tra)) (cu : Tcu) (en : Ten) (ra : Tra) (v5 : Int32) (v6 : Int32) (v7 : Int64) : Option (Tcu × Ten × Tra) := (if (X2_isTold en v5 (1 : Int32)) = 0 then X6_readAll_155 tp se un k14 cu en ra v5 v6 else (if (X2_isTold en v5 (3 : Int32)) = 0 then X6_readAll_155 tp se un k14 cu en ra v5 v6 else (letq (X6_add cu ra v7 (v7 + (X2_valueOr en v5 (3 : Int32) (0 : Int64))) (X2_placeOf en v5)) fun q3 => X6_readAll_213 tp se un k14 q3.1 en q3.2 v5 v6)))
set_option maxRecDepth 20000 in
theorem bX6_readAll_104 (C : Cx p s m args meth c cX6_readAll 9 none RX6 (.code yX6_readAll cX6_readAll 9 none)) (hI : Apart ad 89) (hK : va_K D vwCl (tysX cy) s) (hN : NW s) {k14 : Tcu → Ten → Tra → Int32 → Option (Tcu × Ten × Tra)} {q : Tcu × Ten × Tra} (hk14 : ∀ {cu : Tcu} {en : Ten} {ra : Tra} {v5 : Int32}, k14 cu en ra v5 = some q → ∀ {ls : Array Slot}, lv_has ls 9 [(0, .ref (ad 45)), (1, .ref (ad 3)), (2, .ref (ad 4)), (3, .ref (ad 21)), (4, .ref (ad 34)), (5, .int v5)] → ∀ {H : Heap} {locs : List Loc}, va_P D vwCl (GX cy ad tk sp nm tp kp cu se ur ab lo im sy un en ra li i2) H → va_S (Ac ad 89) s.heap H locs → W p l e ({ frames := 4, cells := 0, slots := 0, locals := 103 } : Room) s m args below meth c H locs 0 0 (MQ below (QR none D (GX cy ad tk sp nm tp kp q.1 se ur ab lo im sy un q.2.1 q.2.2 li i2) (Ac ad 89)) args s 0 0 (Ac ad 89)) (F0 m 14 ls [])) {v5 : Int32} {v6 : Int32} {v7 : Int64} (h : X6_readAll_104 tp se un k14 cu en ra v5 v6 v7 = some q) {ls : Array Slot} (hl : lv_has ls 9 [(0, .ref (ad 45)), (1, .ref (ad 3)), (2, .ref (ad 4)), (3, .ref (ad 21)), (4, .ref (ad 34)), (5, .int v5), (6, .int v6), (7, .long v7)]) {H : Heap} {locs : List Loc} (hP : va_P D vwCl (GX cy ad tk sp nm tp kp cu se ur ab lo im sy un en ra li i2) H) (hS : va_S (Ac ad 89) s.heap H locs) : W p l e ({ frames := 4, cells := 0, slots := 0, locals := 103 } : Room) s m args below meth c H locs 0 0 (MQ below (QR none D (GX cy ad tk sp nm tp kp q.1 se ur ab lo im sy un q.2.1 q.2.2 li i2) (Ac ad 89)) args s 0 0 (Ac ad 89)) (F0 m 104 ls []) := by
  obtain ⟨hx, hb, hml, hown, hts, hr, hlk⟩ := id C
  unfold X6_readAll_104 at h
  refine lv_aload hx hb dX6_readAll_104 (lv_at hl 4 rfl) ?_
  refine lv_iload hx hb dX6_readAll_106 (lv_at hl 5 rfl) ?_
  refine lv_iconst (v := (1 : Int32)) hx hb dX6_readAll_108 (by decide) ?_
  refine cPi (run_V (rest := []) C (kX2_isTold rfl) caX2_isTold w934 ⟨rfl, rfl, Nat.le_of_ble_eq_true rfl, Nat.le_of_ble_eq_true rfl⟩ hK hN hP (rX34 hK hP) rfl hl.1 rfl (Nat.le_of_ble_eq_true rfl) dX6_readAll_109 ⟨Nat.zero_le _, Nat.zero_le _⟩) ?_
  refine lv_if_eq (tgt := 155) hx hb dX6_readAll_112 (by decide) (fun c1 => ?_) (fun c1 => ?_)
  · rw [if_pos c1] at h
    exact bX6_readAll_155 C hI hK hN @hk14 h (lv_sub hl [0, 1, 2, 3, 4, 5, 6] rfl) hP hS
  · rw [if_neg c1] at h
    refine lv_aload hx hb dX6_readAll_115 (lv_at hl 4 rfl) ?_
    refine lv_iload hx hb dX6_readAll_117 (lv_at hl 5 rfl) ?_
    refine lv_iconst (v := (3 : Int32)) hx hb dX6_readAll_119 (by decide) ?_
    refine cPi (run_V (rest := []) C (kX2_isTold rfl) caX2_isTold w934 ⟨rfl, rfl, Nat.le_of_ble_eq_true rfl, Nat.le_of_ble_eq_true rfl⟩ hK hN hP (rX34 hK hP) rfl hl.1 rfl (Nat.le_of_ble_eq_true rfl) dX6_readAll_120 ⟨Nat.zero_le _, Nat.zero_le _⟩) ?_
    refine lv_if_eq (tgt := 155) hx hb dX6_readAll_123 (by decide) (fun c2 => ?_) (fun c2 => ?_)
    · rw [if_pos c2] at h
      exact bX6_readAll_155 C hI hK hN @hk14 h (lv_sub hl [0, 1, 2, 3, 4, 5, 6] rfl) hP hS
    · rw [if_neg c2] at h
      refine lv_aload_n hx hb dX6_readAll_126 rfl (lv_at hl 0 rfl) ?_
      refine lv_aload_n hx hb dX6_readAll_127 rfl (lv_at hl 1 rfl) ?_
      refine lv_lload hx hb dX6_readAll_128 (lv_at hl 7 rfl) ?_
      refine lv_lload hx hb dX6_readAll_130 (lv_at hl 7 rfl) ?_
      refine lv_aload hx hb dX6_readAll_132 (lv_at hl 4 rfl) ?_
      refine lv_iload hx hb dX6_readAll_134 (lv_at hl 5 rfl) ?_
      refine lv_iconst (v := (3 : Int32)) hx hb dX6_readAll_136 (by decide) ?_
      refine lv_lconst (v := (0 : Int64)) hx hb dX6_readAll_137 (by decide) ?_
      refine cPl (run_V (rest := [.long v7, .long v7, .ref (ad 3), .ref (ad 45)]) C (kX2_valueOr rfl) caX2_valueOr w933 ⟨rfl, rfl, Nat.le_of_ble_eq_true rfl, Nat.le_of_ble_eq_true rfl⟩ hK hN hP (rX34 hK hP) rfl hl.1 rfl (Nat.le_of_ble_eq_true rfl) dX6_readAll_138 ⟨Nat.zero_le _, Nat.zero_le _⟩) ?_
      refine lv_ladd hx hb dX6_readAll_141 ?_
      refine lv_aload hx hb dX6_readAll_142 (lv_at hl 4 rfl) ?_
      refine lv_iload hx hb dX6_readAll_144 (lv_at hl 5 rfl) ?_
      refine cPi (run_V (rest := [.long (v7 + (X2_valueOr en v5 (3 : Int32) (0 : Int64))), .long v7, .ref (ad 3), .ref (ad 45)]) C (kX2_placeOf rfl) caX2_placeOf w935 ⟨rfl, rfl, Nat.le_of_ble_eq_true rfl, Nat.le_of_ble_eq_true rfl⟩ hK hN hP (rX34 hK hP) rfl hl.1 rfl (Nat.le_of_ble_eq_true rfl) dX6_readAll_146 ⟨Nat.zero_le _, Nat.zero_le _⟩) ?_
      obtain ⟨q3, h4, h⟩ := lets h
      refine cRv (run_V (rest := []) C (kX6_add hI h4) caX6_add w936 ⟨rfl, rfl, Nat.le_of_ble_eq_true rfl, Nat.le_of_ble_eq_true rfl⟩ hK hN hP (rX45 hK hP) rfl hl.1 rfl (Nat.le_of_ble_eq_true rfl) dX6_readAll_149 ⟨Nat.zero_le _, Nat.zero_le _⟩) hS (fun H locs hP hS => ?_)
      have hP : va_P D vwCl (GX cy ad tk sp nm tp kp q3.1 se ur ab lo im sy un en q3.2 li i2) H := hP
      refine lv_goto (tgt := 213) hx hb dX6_readAll_152 (by decide) ?_
      exact bX6_readAll_213 C hI hK hN @hk14 h (lv_sub hl [0, 1, 2, 3, 4, 5, 6] rfl) hP hS
def X6_readAll_14b (tp : Ttp) (se : Tse) (un : Tun)  (k14 : Tcu → Ten → Tra → Int32 → Option (Tcu × Ten × Tra)) (cu : Tcu) (en : Ten) (ra : Tra) (v5 : Int32) : Option (Tcu × Ten × Tra) := (if v5 < (400 : Int32) then (if v5 < (X2_total en) then (if (X1_sound cu) = 0 then some (cu, en, ra) else (if (X2_isTold en v5 (1 : Int32)) = 0 then X6_readAll_104 tp se un k14 cu en ra v5 ra.2.2.1 (X2_valueOr en v5 (1 : Int32) (0 : Int64)) else (if (X2_isTold en v5 (2 : Int32)) = 0 then X6_readAll_104 tp se un k14 cu en ra v5 ra.2.2.1 (X2_valueOr en v5 (1 : Int32) (0 : Int64)) else (letq (X6_add cu ra (X2_valueOr en v5 (1 : Int32) (0 : Int64)) (X2_valueOr en v5 (2 : Int32) (0 : Int64)) (X2_placeOf en v5)) fun q6 => X6_readAll_213 tp se un k14 q6.1 en q6.2 v5 ra.2.2.1)))) else some (cu, en, ra)) else some (cu, en, ra))
def X6_readAll_14 (tp : Ttp) (se : Tse) (un : Tun)  (n : Nat) (st : Tcu × Ten × Tra × Int32) : Option (Tcu × Ten × Tra) := lp (fun rec st => X6_readAll_14b tp se un  (fun a0 a1 a2 a3 => rec (a0, a1, a2, a3)) st.1 st.2.1 st.2.2.1 st.2.2.2) n st
set_option maxRecDepth 20000 in
theorem bX6_readAll_14 (C : Cx p s m args meth c cX6_readAll 9 none RX6 (.code yX6_readAll cX6_readAll 9 none)) (hI : Apart ad 89) (hK : va_K D vwCl (tysX cy) s) (hN : NW s)  {q : Tcu × Ten × Tra}  : ∀ (n : Nat) {cu : Tcu} {en : Ten} {ra : Tra} {v5 : Int32}, X6_readAll_14 tp se un  n (cu, en, ra, v5) = some q → ∀ {ls : Array Slot}, lv_has ls 9 [(0, .ref (ad 45)), (1, .ref (ad 3)), (2, .ref (ad 4)), (3, .ref (ad 21)), (4, .ref (ad 34)), (5, .int v5)] → ∀ {H : Heap} {locs : List Loc}, va_P D vwCl (GX cy ad tk sp nm tp kp cu se ur ab lo im sy un en ra li i2) H → va_S (Ac ad 89) s.heap H locs → W p l e ({ frames := 4, cells := 0, slots := 0, locals := 103 } : Room) s m args below meth c H locs 0 0 (MQ below (QR none D (GX cy ad tk sp nm tp kp q.1 se ur ab lo im sy un q.2.1 q.2.2 li i2) (Ac ad 89)) args s 0 0 (Ac ad 89)) (F0 m 14 ls []) := by
  obtain ⟨hx, hb, hml, hown, hts, hr, hlk⟩ := id C
  intro n
  induction n with
  | zero =>
    intro cu en ra v5 h ls hl H locs hP hS
    have h : (none : Option (Tcu × Ten × Tra)) = some q := h
    cases h
  | succ n ih =>
    intro cu en ra v5 h ls hl H locs hP hS
    have h : X6_readAll_14b tp se un  (fun a0 a1 a2 a3 => X6_readAll_14 tp se un  n (a0, a1, a2, a3)) cu en ra v5 = some q := h
    unfold X6_readAll_14b at h
    refine lv_iload hx hb dX6_readAll_14 (lv_at hl 5 rfl) ?_
    refine lv_sipush (v := (400 : Int32)) hx hb dX6_readAll_16 (by decide) ?_
    refine b_icmp_ge (tgt := 235) hx hb dX6_readAll_19 (by decide) (fun c1 => ?_) (fun c1 => ?_)
    · rw [if_neg c1] at h
      obtain rfl := Option.some.inj h
      exact W.vret hx hb hr (fun t ht _ => ⟨rfl, by rw [ht]; exact hP, hS.F ht⟩) hS.2.2 dX6_readAll_235 hlk
    · rw [if_pos c1] at h
      refine lv_iload hx hb dX6_readAll_22 (lv_at hl 5 rfl) ?_
      refine lv_aload hx hb dX6_readAll_24 (lv_at hl 4 rfl) ?_
      refine cPi (run_V (rest := [.int v5]) C (kX2_total rfl) caX2_total w931 ⟨rfl, rfl, Nat.le_of_ble_eq_true rfl, Nat.le_of_ble_eq_true rfl⟩ hK hN hP (rX34 hK hP) rfl hl.1 rfl (Nat.le_of_ble_eq_true rfl) dX6_readAll_26 ⟨Nat.zero_le _, Nat.zero_le _⟩) ?_
      refine b_icmp_ge (tgt := 235) hx hb dX6_readAll_29 (by decide) (fun c2 => ?_) (fun c2 => ?_)
      · rw [if_neg c2] at h
        obtain rfl := Option.some.inj h
        exact W.vret hx hb hr (fun t ht _ => ⟨rfl, by rw [ht]; exact hP, hS.F ht⟩) hS.2.2 dX6_readAll_235 hlk
      · rw [if_pos c2] at h
        refine lv_aload_n hx hb dX6_readAll_32 rfl (lv_at hl 1 rfl) ?_
        refine cPi (run_V (rest := []) C (kX1_sound rfl) caX1_sound w932 ⟨rfl, rfl, Nat.le_of_ble_eq_true rfl, Nat.le_of_ble_eq_true rfl⟩ hK hN hP (rX3 hK hP) rfl hl.1 rfl (Nat.le_of_ble_eq_true rfl) dX6_readAll_33 ⟨Nat.zero_le _, Nat.zero_le _⟩) ?_
        refine lv_if_eq (tgt := 235) hx hb dX6_readAll_36 (by decide) (fun c3 => ?_) (fun c3 => ?_)
        · rw [if_pos c3] at h
          obtain rfl := Option.some.inj h
          exact W.vret hx hb hr (fun t ht _ => ⟨rfl, by rw [ht]; exact hP, hS.F ht⟩) hS.2.2 dX6_readAll_235 hlk
        · rw [if_neg c3] at h
          refine lv_aload_n hx hb dX6_readAll_39 rfl (lv_at hl 0 rfl) ?_
          refine gX45_2 (v := ra.2.2.1) C hK hP rfl w369 dX6_readAll_40 ?_
          refine lv_istore (lv' := [(6, .int ra.2.2.1), (0, .ref (ad 45)), (1, .ref (ad 3)), (2, .ref (ad 4)), (3, .ref (ad 21)), (4, .ref (ad 34)), (5, .int v5)]) hx hb dX6_readAll_43 hl (by decide) rfl (fun ls hl => ?_)
          refine lv_aload hx hb dX6_readAll_45 (lv_at hl 5 rfl) ?_
          refine lv_iload hx hb dX6_readAll_47 (lv_at hl 6 rfl) ?_
          refine lv_iconst (v := (1 : Int32)) hx hb dX6_readAll_49 (by decide) ?_
          refine lv_lconst (v := (0 : Int64)) hx hb dX6_readAll_50 (by decide) ?_
          refine cPl (run_V (rest := []) C (kX2_valueOr rfl) caX2_valueOr w933 ⟨rfl, rfl, Nat.le_of_ble_eq_true rfl, Nat.le_of_ble_eq_true rfl⟩ hK hN hP (rX34 hK hP) rfl hl.1 rfl (Nat.le_of_ble_eq_true rfl) dX6_readAll_51 ⟨Nat.zero_le _, Nat.zero_le _⟩) ?_
          refine lv_lstore (lv' := [(7, .long (X2_valueOr en v5 (1 : Int32) (0 : Int64))), (6, .int ra.2.2.1), (0, .ref (ad 45)), (1, .ref (ad 3)), (2, .ref (ad 4)), (3, .ref (ad 21)), (4, .ref (ad 34)), (5, .int v5)]) hx hb dX6_readAll_54 hl (by decide) rfl (fun ls hl => ?_)
          refine lv_aload hx hb dX6_readAll_56 (lv_at hl 6 rfl) ?_
          refine lv_iload hx hb dX6_readAll_58 (lv_at hl 7 rfl) ?_
          refine lv_iconst (v := (1 : Int32)) hx hb dX6_readAll_60 (by decide) ?_
          refine cPi (run_V (rest := []) C (kX2_isTold rfl) caX2_isTold w934 ⟨rfl, rfl, Nat.le_of_ble_eq_true rfl, Nat.le_of_ble_eq_true rfl⟩ hK hN hP (rX34 hK hP) rfl hl.1 rfl (Nat.le_of_ble_eq_true rfl) dX6_readAll_61 ⟨Nat.zero_le _, Nat.zero_le _⟩) ?_
          refine lv_if_eq (tgt := 104) hx hb dX6_readAll_64 (by decide) (fun c4 => ?_) (fun c4 => ?_)
          · rw [if_pos c4] at h
            exact bX6_readAll_104 C hI hK hN @ih h (lv_sub hl [2, 3, 4, 5, 6, 7, 1, 0] rfl) hP hS
          · rw [if_neg c4] at h
            refine lv_aload hx hb dX6_readAll_67 (lv_at hl 6 rfl) ?_
            refine lv_iload hx hb dX6_readAll_69 (lv_at hl 7 rfl) ?_
            refine lv_iconst (v := (2 : Int32)) hx hb dX6_readAll_71 (by decide) ?_
            refine cPi (run_V (rest := []) C (kX2_isTold rfl) caX2_isTold w934 ⟨rfl, rfl, Nat.le_of_ble_eq_true rfl, Nat.le_of_ble_eq_true rfl⟩ hK hN hP (rX34 hK hP) rfl hl.1 rfl (Nat.le_of_ble_eq_true rfl) dX6_readAll_72 ⟨Nat.zero_le _, Nat.zero_le _⟩) ?_
            refine lv_if_eq (tgt := 104) hx hb dX6_readAll_75 (by decide) (fun c5 => ?_) (fun c5 => ?_)
            · rw [if_pos c5] at h
              exact bX6_readAll_104 C hI hK hN @ih h (lv_sub hl [2, 3, 4, 5, 6, 7, 1, 0] rfl) hP hS
            · rw [if_neg c5] at h
              refine lv_aload_n hx hb dX6_readAll_78 rfl (lv_at hl 2 rfl) ?_
              refine lv_aload_n hx hb dX6_readAll_79 rfl (lv_at hl 3 rfl) ?_
              refine lv_lload hx hb dX6_readAll_80 (lv_at hl 0 rfl) ?_
              refine lv_aload hx hb dX6_readAll_82 (lv_at hl 6 rfl) ?_
              refine lv_iload hx hb dX6_readAll_84 (lv_at hl 7 rfl) ?_
              refine lv_iconst (v := (2 : Int32)) hx hb dX6_readAll_86 (by decide) ?_
              refine lv_lconst (v := (0 : Int64)) hx hb dX6_readAll_87 (by decide) ?_
              refine cPl (run_V (rest := [.long (X2_valueOr en v5 (1 : Int32) (0 : Int64)), .ref (ad 3), .ref (ad 45)]) C (kX2_valueOr rfl) caX2_valueOr w933 ⟨rfl, rfl, Nat.le_of_ble_eq_true rfl, Nat.le_of_ble_eq_true rfl⟩ hK hN hP (rX34 hK hP) rfl hl.1 rfl (Nat.le_of_ble_eq_true rfl) dX6_readAll_88 ⟨Nat.zero_le _, Nat.zero_le _⟩) ?_
              refine lv_aload hx hb dX6_readAll_91 (lv_at hl 6 rfl) ?_
              refine lv_iload hx hb dX6_readAll_93 (lv_at hl 7 rfl) ?_
              refine cPi (run_V (rest := [.long (X2_valueOr en v5 (2 : Int32) (0 : Int64)), .long (X2_valueOr en v5 (1 : Int32) (0 : Int64)), .ref (ad 3), .ref (ad 45)]) C (kX2_placeOf rfl) caX2_placeOf w935 ⟨rfl, rfl, Nat.le_of_ble_eq_true rfl, Nat.le_of_ble_eq_true rfl⟩ hK hN hP (rX34 hK hP) rfl hl.1 rfl (Nat.le_of_ble_eq_true rfl) dX6_readAll_95 ⟨Nat.zero_le _, Nat.zero_le _⟩) ?_
              obtain ⟨q6, h7, h⟩ := lets h
              refine cRv (run_V (rest := []) C (kX6_add hI h7) caX6_add w936 ⟨rfl, rfl, Nat.le_of_ble_eq_true rfl, Nat.le_of_ble_eq_true rfl⟩ hK hN hP (rX45 hK hP) rfl hl.1 rfl (Nat.le_of_ble_eq_true rfl) dX6_readAll_98 ⟨Nat.zero_le _, Nat.zero_le _⟩) hS (fun H locs hP hS => ?_)
              have hP : va_P D vwCl (GX cy ad tk sp nm tp kp q6.1 se ur ab lo im sy un en q6.2 li i2) H := hP
              refine lv_goto (tgt := 213) hx hb dX6_readAll_101 (by decide) ?_
              exact bX6_readAll_213 C hI hK hN @ih h (lv_sub hl [2, 3, 4, 5, 6, 7, 1] rfl) hP hS
def X6_readAll (tp : Ttp) (cu : Tcu) (se : Tse) (un : Tun) (en : Ten) (ra : Tra)  : Option (Tcu × Ten × Tra) := X6_readAll_14 tp se un FU (cu, en, (ra.1, ra.2.1, (0 : Int32), ra.2.2.2), (0 : Int32))
set_option maxRecDepth 20000 in
theorem bX6_readAll_0 (C : Cx p s m args meth c cX6_readAll 9 none RX6 (.code yX6_readAll cX6_readAll 9 none)) (hI : Apart ad 89) (hK : va_K D vwCl (tysX cy) s) (hN : NW s)  {q : Tcu × Ten × Tra}   (h : X6_readAll tp cu se un en ra = some q) {ls : Array Slot} (hl : lv_has ls 9 [(0, .ref (ad 45)), (1, .ref (ad 3)), (2, .ref (ad 4)), (3, .ref (ad 21))]) {H : Heap} {locs : List Loc} (hP : va_P D vwCl (GX cy ad tk sp nm tp kp cu se ur ab lo im sy un en ra li i2) H) (hS : va_S (Ac ad 89) s.heap H locs) : W p l e ({ frames := 4, cells := 0, slots := 0, locals := 103 } : Room) s m args below meth c H locs 0 0 (MQ below (QR none D (GX cy ad tk sp nm tp kp q.1 se ur ab lo im sy un q.2.1 q.2.2 li i2) (Ac ad 89)) args s 0 0 (Ac ad 89)) (F0 m 0 ls []) := by
  obtain ⟨hx, hb, hml, hown, hts, hr, hlk⟩ := id C
  unfold X6_readAll at h
  refine lv_aload_n hx hb dX6_readAll_0 rfl (lv_at hl 0 rfl) ?_
  refine lv_iconst (v := (0 : Int32)) hx hb dX6_readAll_1 (by decide) ?_
  refine pX45_2 (v := (0 : Int32)) C hI hK hP hS w369 dX6_readAll_2 (fun H locs hP hS => ?_)
  have hP : va_P D vwCl (GX cy ad tk sp nm tp kp cu se ur ab lo im sy un en (ra.1, ra.2.1, (0 : Int32), ra.2.2.2) li i2) H := hP
  refine lv_aload_n hx hb dX6_readAll_5 rfl (lv_at hl 3 rfl) ?_
  refine gX21_2N C hK hP hN w448 dX6_readAll_6 ?_
  refine lv_astore (lv' := [(4, .ref (ad 34)), (0, .ref (ad 45)), (1, .ref (ad 3)), (2, .ref (ad 4)), (3, .ref (ad 21))]) hx hb dX6_readAll_9 hl (by decide) rfl (fun ls hl => ?_)
  refine lv_iconst (v := (0 : Int32)) hx hb dX6_readAll_11 (by decide) ?_
  refine lv_istore (lv' := [(5, .int (0 : Int32)), (4, .ref (ad 34)), (0, .ref (ad 45)), (1, .ref (ad 3)), (2, .ref (ad 4)), (3, .ref (ad 21))]) hx hb dX6_readAll_12 hl (by decide) rfl (fun ls hl => ?_)
  exact bX6_readAll_14 C hI hK hN FU h (lv_sub hl [2, 3, 4, 5, 1, 0] rfl) hP hS
theorem kX6_readAll (hI : Apart ad 89)  {q : Tcu × Ten × Tra} (h : X6_readAll tp cu se un en ra = some q) : Met l yX6_readAll (.code yX6_readAll cX6_readAll 9 none :: WA) ({ frames := 4, cells := 0, slots := 0, locals := 103 } : Room) (va_Pc [.ref (ad 45), .ref (ad 3), .ref (ad 4), .ref (ad 21)] (PR D cy (GX cy ad tk sp nm tp kp cu se ur ab lo im sy un en ra li i2))) (QR none D (GX cy ad tk sp nm tp kp q.1 se ur ab lo im sy un q.2.1 q.2.2 li i2) (Ac ad 89)) 0 0 (Ac ad 89) :=
  met_of (by decide) (Nat.le_of_ble_eq_true rfl) (fun p e s m below meth c ls C hP hK hN hl => bX6_readAll_0 C hI hK hN h hl hP va_S.rf)
def X6_total (ra : Tra)  : Int32 := ra.2.2.1
set_option maxRecDepth 20000 in
theorem bX6_total_0 (C : Cx p s m args meth c cX6_total 1 (some .int) RX6 (.code yX6_total cX6_total 1 (some .int))) (hK : va_K D vwCl (tysX cy) s) (hN : NW s)  {q : Int32}   (h : X6_total ra = q) {ls : Array Slot} (hl : lv_has ls 1 [(0, .ref (ad 45))]) (hP : va_P D vwCl (GX cy ad tk sp nm tp kp cu se ur ab lo im sy un en ra li i2) s.heap) : W p l e ({ frames := 0, cells := 0, slots := 0, locals := 0 } : Room) s m args below meth c s.heap [] 0 0 (MQ below (QP (some (.int q))) args s 0 0 (fun _ => False)) (F0 m 0 ls []) := by
  obtain ⟨hx, hb, hml, hown, hts, hr, hlk⟩ := id C
  unfold X6_total at h
  refine lv_aload_n hx hb dX6_total_0 rfl (lv_at hl 0 rfl) ?_
  refine gX45_2 (v := ra.2.2.1) C hK hP rfl w369 dX6_total_1 ?_
  obtain rfl := h
  exact W.iret hx hb hr (fun t ht _ => ⟨rfl, ht⟩) (fun _ h9 => by cases h9) dX6_total_4 hlk
theorem kX6_total   {q : Int32} (h : X6_total ra = q) : Met l yX6_total (.code yX6_total cX6_total 1 (some .int) :: WA) ({ frames := 0, cells := 0, slots := 0, locals := 0 } : Room) (va_Pc [.ref (ad 45)] (PR D cy (GX cy ad tk sp nm tp kp cu se ur ab lo im sy un en ra li i2))) (QP (some (.int q))) 0 0 (fun _ => False) :=
  met_of (by decide) (Nat.le_of_ble_eq_true rfl) (fun p e s m below meth c ls C hP hK hN hl => bX6_total_0 C hK hN h hl hP)
def X7_readRow_132 (tp : Ttp)  (cu : Tcu) (se : Tse) (z0 : Int32) (z1 : Int32) : Option (Tcu × Tse) := some (cu, (se.1, (put_i 30 se.2.1 z1 z0), se.2.2.1, se.2.2.2.1, se.2.2.2.2.1, se.2.2.2.2.2))
set_option maxRecDepth 20000 in
theorem bX7_readRow_132 (C : Cx p s m args meth c cX7_readRow 11 none RX7 (.code yX7_readRow cX7_readRow 11 none)) (hI : Apart ad 89) (hK : va_K D vwCl (tysX cy) s) (hN : NW s)  {q : Tcu × Tse}  {z0 : Int32} {z1 : Int32} (h : X7_readRow_132 tp cu se z0 z1 = some q) {ls : Array Slot} (hl : lv_has ls 11 []) {H : Heap} {locs : List Loc} (hP : va_P D vwCl (GX cy ad tk sp nm tp kp cu se ur ab lo im sy un en ra li i2) H) (hS : va_S (Ac ad 89) s.heap H locs) : W p l e ({ frames := 1, cells := 0, slots := 0, locals := 28 } : Room) s m args below meth c H locs 0 0 (MQ below (QR none D (GX cy ad tk sp nm tp kp q.1 q.2 ur ab lo im sy un en ra li i2) (Ac ad 89)) args s 0 0 (Ac ad 89)) (F0 m 132 ls [.int z0, .int z1, .ref (ad 6)]) := by
  obtain ⟨hx, hb, hml, hown, hts, hr, hlk⟩ := id C
  unfold X7_readRow_132 at h
  refine xput_i (rest := []) C hK hN hP (GX_D hI) hS eX6 (Nat.le_of_ble_eq_true rfl) w572 hl.1 (Nat.le_of_ble_eq_true rfl) dX7_readRow_132 ⟨Nat.le_of_ble_eq_true rfl, Nat.le_of_ble_eq_true rfl⟩ ⟨Nat.zero_le _, Nat.zero_le _⟩ (fun H locs hP hS => ?_)
  have hP : va_P D vwCl (GX cy ad tk sp nm tp kp cu (se.1, (put_i 30 se.2.1 z1 z0), se.2.2.1, se.2.2.2.1, se.2.2.2.2.1, se.2.2.2.2.2) ur ab lo im sy un en ra li i2) H := hP
  obtain rfl := Option.some.inj h
  exact W.vret hx hb hr (fun t ht _ => ⟨rfl, by rw [ht]; exact hP, hS.F ht⟩) hS.2.2 dX7_readRow_135 hlk
def X7_readRow_109 (tp : Ttp)  (cu : Tcu) (se : Tse) (v2 : Int32) (v6 : Int64) (v8 : Int64) (v10 : Int32) (z0 : Int32) (z1 : Int32) : Option (Tcu × Tse) := (if v10 = 0 then X7_readRow_132 tp cu ((put_i 30 se.1 z1 z0), se.2.1, se.2.2.1, se.2.2.2.1, se.2.2.2.2.1, se.2.2.2.2.2) (((v6 + v8)).toInt32) v2 else X7_readRow_132 tp cu ((put_i 30 se.1 z1 z0), se.2.1, se.2.2.1, se.2.2.2.1, se.2.2.2.2.1, se.2.2.2.2.2) (0 : Int32) v2)
set_option maxRecDepth 20000 in
theorem bX7_readRow_109 (C : Cx p s m args meth c cX7_readRow 11 none RX7 (.code yX7_readRow cX7_readRow 11 none)) (hI : Apart ad 89) (hK : va_K D vwCl (tysX cy) s) (hN : NW s)  {q : Tcu × Tse}  {v2 : Int32} {v6 : Int64} {v8 : Int64} {v10 : Int32} {z0 : Int32} {z1 : Int32} (h : X7_readRow_109 tp cu se v2 v6 v8 v10 z0 z1 = some q) {ls : Array Slot} (hl : lv_has ls 11 [(0, .ref (ad 4)), (2, .int v2), (6, .long v6), (8, .long v8), (10, .int v10)]) {H : Heap} {locs : List Loc} (hP : va_P D vwCl (GX cy ad tk sp nm tp kp cu se ur ab lo im sy un en ra li i2) H) (hS : va_S (Ac ad 89) s.heap H locs) : W p l e ({ frames := 1, cells := 0, slots := 0, locals := 28 } : Room) s m args below meth c H locs 0 0 (MQ below (QR none D (GX cy ad tk sp nm tp kp q.1 q.2 ur ab lo im sy un en ra li i2) (Ac ad 89)) args s 0 0 (Ac ad 89)) (F0 m 109 ls [.int z0, .int z1, .ref (ad 5)]) := by
  obtain ⟨hx, hb, hml, hown, hts, hr, hlk⟩ := id C
  unfold X7_readRow_109 at h
  refine xput_i (rest := []) C hK hN hP (GX_D hI) hS eX5 (Nat.le_of_ble_eq_true rfl) w572 hl.1 (Nat.le_of_ble_eq_true rfl) dX7_readRow_109 ⟨Nat.le_of_ble_eq_true rfl, Nat.le_of_ble_eq_true rfl⟩ ⟨Nat.zero_le _, Nat.zero_le _⟩ (fun H locs hP hS => ?_)
  have hP : va_P D vwCl (GX cy ad tk sp nm tp kp cu ((put_i 30 se.1 z1 z0), se.2.1, se.2.2.1, se.2.2.2.1, se.2.2.2.2.1, se.2.2.2.2.2) ur ab lo im sy un en ra li i2) H := hP
  refine lv_aload_n hx hb dX7_readRow_112 rfl (lv_at hl 0 rfl) ?_
  refine gX4_1 C hK hP w152 dX7_readRow_113 ?_
  refine lv_iload_n hx hb dX7_readRow_116 rfl (lv_at hl 1 rfl) ?_
  refine lv_iload hx hb dX7_readRow_117 (lv_at hl 4 rfl) ?_
  refine lv_if_eq (tgt := 126) hx hb dX7_readRow_119 (by decide) (fun c1 => ?_) (fun c1 => ?_)
  · rw [if_pos c1] at h
    refine lv_lload hx hb dX7_readRow_126 (lv_at hl 2 rfl) ?_
    refine lv_lload hx hb dX7_readRow_128 (lv_at hl 3 rfl) ?_
    refine lv_ladd hx hb dX7_readRow_130 ?_
    refine lv_l2i (v := (((v6 + v8)).toInt32)) hx hb dX7_readRow_131 rfl ?_
    exact bX7_readRow_132 C hI hK hN h (lv_sub hl [] rfl) hP hS
  · rw [if_neg c1] at h
    refine lv_iconst (v := (0 : Int32)) hx hb dX7_readRow_122 (by decide) ?_
    refine lv_goto (tgt := 132) hx hb dX7_readRow_123 (by decide) ?_
    exact bX7_readRow_132 C hI hK hN h (lv_sub hl [] rfl) hP hS
def X7_readRow_92 (tp : Ttp)  (cu : Tcu) (se : Tse) (v2 : Int32) (v6 : Int64) (v8 : Int64) (v10 : Int32) : Option (Tcu × Tse) := (if v10 = 0 then X7_readRow_109 tp cu se v2 v6 v8 v10 ((v6).toInt32) v2 else X7_readRow_109 tp cu se v2 v6 v8 v10 (0 : Int32) v2)
set_option maxRecDepth 20000 in
theorem bX7_readRow_92 (C : Cx p s m args meth c cX7_readRow 11 none RX7 (.code yX7_readRow cX7_readRow 11 none)) (hI : Apart ad 89) (hK : va_K D vwCl (tysX cy) s) (hN : NW s)  {q : Tcu × Tse}  {v2 : Int32} {v6 : Int64} {v8 : Int64} {v10 : Int32} (h : X7_readRow_92 tp cu se v2 v6 v8 v10 = some q) {ls : Array Slot} (hl : lv_has ls 11 [(0, .ref (ad 4)), (2, .int v2), (6, .long v6), (8, .long v8), (10, .int v10)]) {H : Heap} {locs : List Loc} (hP : va_P D vwCl (GX cy ad tk sp nm tp kp cu se ur ab lo im sy un en ra li i2) H) (hS : va_S (Ac ad 89) s.heap H locs) : W p l e ({ frames := 1, cells := 0, slots := 0, locals := 28 } : Room) s m args below meth c H locs 0 0 (MQ below (QR none D (GX cy ad tk sp nm tp kp q.1 q.2 ur ab lo im sy un en ra li i2) (Ac ad 89)) args s 0 0 (Ac ad 89)) (F0 m 92 ls []) := by
  obtain ⟨hx, hb, hml, hown, hts, hr, hlk⟩ := id C
  unfold X7_readRow_92 at h
  refine lv_aload_n hx hb dX7_readRow_92 rfl (lv_at hl 0 rfl) ?_
  refine gX4_0 C hK hP w151 dX7_readRow_93 ?_
  refine lv_iload_n hx hb dX7_readRow_96 rfl (lv_at hl 1 rfl) ?_
  refine lv_iload hx hb dX7_readRow_97 (lv_at hl 4 rfl) ?_
  refine lv_if_eq (tgt := 106) hx hb dX7_readRow_99 (by decide) (fun c1 => ?_) (fun c1 => ?_)
  · rw [if_pos c1] at h
    refine lv_lload hx hb dX7_readRow_106 (lv_at hl 2 rfl) ?_
    refine lv_l2i (v := ((v6).toInt32)) hx hb dX7_readRow_108 rfl ?_
    exact bX7_readRow_109 C hI hK hN h (lv_sub hl [0, 1, 2, 3, 4] rfl) hP hS
  · rw [if_neg c1] at h
    refine lv_iconst (v := (0 : Int32)) hx hb dX7_readRow_102 (by decide) ?_
    refine lv_goto (tgt := 109) hx hb dX7_readRow_103 (by decide) ?_
    exact bX7_readRow_109 C hI hK hN h (lv_sub hl [0, 1, 2, 3, 4] rfl) hP hS
def X7_readRow_65 (tp : Ttp)  (cu : Tcu) (se : Tse) (v2 : Int32) (v3 : Int32) (v6 : Int64) (v8 : Int64) (z0 : Int32) : Option (Tcu × Tse) := (if z0 = 0 then (if (X1_lies cu v6 v8) = 0 then (letq (X1_refuse cu (1 : Int32) v3) fun q3 => X7_readRow_92 tp q3 se v2 v6 v8 (1 : Int32)) else X7_readRow_92 tp cu se v2 v6 v8 z0) else X7_readRow_92 tp cu se v2 v6 v8 z0)
set_option maxRecDepth 20000 in
theorem bX7_readRow_65 (C : Cx p s m args meth c cX7_readRow 11 none RX7 (.code yX7_readRow cX7_readRow 11 none)) (hI : Apart ad 89) (hK : va_K D vwCl (tysX cy) s) (hN : NW s)  {q : Tcu × Tse}  {v2 : Int32} {v3 : Int32} {v6 : Int64} {v8 : Int64} {z0 : Int32} (h : X7_readRow_65 tp cu se v2 v3 v6 v8 z0 = some q) {ls : Array Slot} (hl : lv_has ls 11 [(0, .ref (ad 4)), (1, .ref (ad 3)), (2, .int v2), (3, .int v3), (6, .long v6), (8, .long v8)]) {H : Heap} {locs : List Loc} (hP : va_P D vwCl (GX cy ad tk sp nm tp kp cu se ur ab lo im sy un en ra li i2) H) (hS : va_S (Ac ad 89) s.heap H locs) : W p l e ({ frames := 1, cells := 0, slots := 0, locals := 28 } : Room) s m args below meth c H locs 0 0 (MQ below (QR none D (GX cy ad tk sp nm tp kp q.1 q.2 ur ab lo im sy un en ra li i2) (Ac ad 89)) args s 0 0 (Ac ad 89)) (F0 m 65 ls [.int z0]) := by
  obtain ⟨hx, hb, hml, hown, hts, hr, hlk⟩ := id C
  unfold X7_readRow_65 at h
  refine lv_istore (lv' := [(10, .int z0), (0, .ref (ad 4)), (1, .ref (ad 3)), (2, .int v2), (3, .int v3), (6, .long v6), (8, .long v8)]) hx hb dX7_readRow_65 hl (by decide) rfl (fun ls hl => ?_)
  refine lv_iload hx hb dX7_readRow_67 (lv_at hl 0 rfl) ?_
  refine lv_if_ne (tgt := 92) hx hb dX7_readRow_69 (by decide) (fun c1 => ?_) (fun c1 => ?_)
  · rw [if_neg c1] at h
    exact bX7_readRow_92 C hI hK hN h (lv_sub hl [1, 3, 5, 6, 0] rfl) hP hS
  · rw [if_pos c1] at h
    refine lv_aload_n hx hb dX7_readRow_72 rfl (lv_at hl 2 rfl) ?_
    refine lv_lload hx hb dX7_readRow_73 (lv_at hl 5 rfl) ?_
    refine lv_lload hx hb dX7_readRow_75 (lv_at hl 6 rfl) ?_
    refine cPi (run_V (rest := []) C (kX1_lies rfl) caX1_lies w559 ⟨rfl, rfl, Nat.le_of_ble_eq_true rfl, Nat.le_of_ble_eq_true rfl⟩ hK hN hP (rX3 hK hP) rfl hl.1 rfl (Nat.le_of_ble_eq_true rfl) dX7_readRow_77 ⟨Nat.zero_le _, Nat.zero_le _⟩) ?_
    refine lv_if_ne (tgt := 92) hx hb dX7_readRow_80 (by decide) (fun c2 => ?_) (fun c2 => ?_)
    · rw [if_neg c2] at h
      exact bX7_readRow_92 C hI hK hN h (lv_sub hl [1, 3, 5, 6, 0] rfl) hP hS
    · rw [if_pos c2] at h
      refine lv_aload_n hx hb dX7_readRow_83 rfl (lv_at hl 2 rfl) ?_
      refine lv_iconst (v := (1 : Int32)) hx hb dX7_readRow_84 (by decide) ?_
      refine lv_iload_n hx hb dX7_readRow_85 rfl (lv_at hl 4 rfl) ?_
      obtain ⟨q3, h4, h⟩ := lets h
      refine cRv (run_V (rest := []) C (kX1_refuse hI h4) caX1_refuse w549 ⟨rfl, rfl, Nat.le_of_ble_eq_true rfl, Nat.le_of_ble_eq_true rfl⟩ hK hN hP (rX3 hK hP) rfl hl.1 rfl (Nat.le_of_ble_eq_true rfl) dX7_readRow_86 ⟨Nat.zero_le _, Nat.zero_le _⟩) hS (fun H locs hP hS => ?_)
      have hP : va_P D vwCl (GX cy ad tk sp nm tp kp q3 se ur ab lo im sy un en ra li i2) H := hP
      refine lv_iconst (v := (1 : Int32)) hx hb dX7_readRow_89 (by decide) ?_
      refine lv_istore (lv' := [(10, .int (1 : Int32)), (0, .ref (ad 4)), (1, .ref (ad 3)), (2, .int v2), (3, .int v3), (6, .long v6), (8, .long v8)]) hx hb dX7_readRow_90 hl (by decide) rfl (fun ls hl => ?_)
      exact bX7_readRow_92 C hI hK hN h (lv_sub hl [1, 3, 5, 6, 0] rfl) hP hS
def X7_readRow_60 (tp : Ttp)  (cu : Tcu) (se : Tse) (v2 : Int32) (v3 : Int32) (v6 : Int64) (v8 : Int64) : Option (Tcu × Tse) := X7_readRow_65 tp cu se v2 v3 v6 v8 (1 : Int32)
set_option maxRecDepth 20000 in
theorem bX7_readRow_60 (C : Cx p s m args meth c cX7_readRow 11 none RX7 (.code yX7_readRow cX7_readRow 11 none)) (hI : Apart ad 89) (hK : va_K D vwCl (tysX cy) s) (hN : NW s)  {q : Tcu × Tse}  {v2 : Int32} {v3 : Int32} {v6 : Int64} {v8 : Int64} (h : X7_readRow_60 tp cu se v2 v3 v6 v8 = some q) {ls : Array Slot} (hl : lv_has ls 11 [(0, .ref (ad 4)), (1, .ref (ad 3)), (2, .int v2), (3, .int v3), (6, .long v6), (8, .long v8)]) {H : Heap} {locs : List Loc} (hP : va_P D vwCl (GX cy ad tk sp nm tp kp cu se ur ab lo im sy un en ra li i2) H) (hS : va_S (Ac ad 89) s.heap H locs) : W p l e ({ frames := 1, cells := 0, slots := 0, locals := 28 } : Room) s m args below meth c H locs 0 0 (MQ below (QR none D (GX cy ad tk sp nm tp kp q.1 q.2 ur ab lo im sy un en ra li i2) (Ac ad 89)) args s 0 0 (Ac ad 89)) (F0 m 60 ls []) := by
  obtain ⟨hx, hb, hml, hown, hts, hr, hlk⟩ := id C
  unfold X7_readRow_60 at h
  refine lv_iconst (v := (1 : Int32)) hx hb dX7_readRow_60 (by decide) ?_
  refine lv_goto (tgt := 65) hx hb dX7_readRow_61 (by decide) ?_
  exact bX7_readRow_65 C hI hK hN h (lv_sub hl [0, 1, 2, 3, 4, 5] rfl) hP hS
def X7_readRow (tp : Ttp) (cu : Tcu) (se : Tse) (v2 : Int32) : Option (Tcu × Tse) := ((X1_numberAt tp ((se.2.2.2.2.1 + (v2 * (64 : Int32))) + (4 : Int32)) (4 : Int32)).bind fun q1 => ((X1_numberAt tp ((se.2.2.2.2.1 + (v2 * (64 : Int32))) + (24 : Int32)) (8 : Int32)).bind fun q3 => ((X1_numberAt tp ((se.2.2.2.2.1 + (v2 * (64 : Int32))) + (32 : Int32)) (8 : Int32)).bind fun q5 => (if q1 = (0 : Int64) then X7_readRow_60 tp cu se v2 (se.2.2.2.2.1 + (v2 * (64 : Int32))) q3 q5 else (if q1 = (8 : Int64) then X7_readRow_60 tp cu se v2 (se.2.2.2.2.1 + (v2 * (64 : Int32))) q3 q5 else X7_readRow_65 tp cu se v2 (se.2.2.2.2.1 + (v2 * (64 : Int32))) q3 q5 (0 : Int32))))))
set_option maxRecDepth 20000 in
theorem bX7_readRow_0 (C : Cx p s m args meth c cX7_readRow 11 none RX7 (.code yX7_readRow cX7_readRow 11 none)) (hI : Apart ad 89) (hK : va_K D vwCl (tysX cy) s) (hN : NW s)  {q : Tcu × Tse}  {v2 : Int32} (h : X7_readRow tp cu se v2 = some q) {ls : Array Slot} (hl : lv_has ls 11 [(0, .ref (ad 4)), (1, .ref (ad 3)), (2, .int v2)]) {H : Heap} {locs : List Loc} (hP : va_P D vwCl (GX cy ad tk sp nm tp kp cu se ur ab lo im sy un en ra li i2) H) (hS : va_S (Ac ad 89) s.heap H locs) : W p l e ({ frames := 1, cells := 0, slots := 0, locals := 28 } : Room) s m args below meth c H locs 0 0 (MQ below (QR none D (GX cy ad tk sp nm tp kp q.1 q.2 ur ab lo im sy un en ra li i2) (Ac ad 89)) args s 0 0 (Ac ad 89)) (F0 m 0 ls []) := by
  obtain ⟨hx, hb, hml, hown, hts, hr, hlk⟩ := id C
  unfold X7_readRow at h
  refine lv_aload_n hx hb dX7_readRow_0 rfl (lv_at hl 0 rfl) ?_
  refine gX4_4 (v := se.2.2.2.2.1) C hK hP rfl w155 dX7_readRow_1 ?_
  refine lv_iload_n hx hb dX7_readRow_4 rfl (lv_at hl 2 rfl) ?_
  refine lv_bipush (v := (64 : Int32)) hx hb dX7_readRow_5 (by decide) ?_
  refine lv_imul hx hb dX7_readRow_7 ?_
  refine lv_iadd hx hb dX7_readRow_8 ?_
  refine lv_istore_n (lv' := [(3, .int (se.2.2.2.2.1 + (v2 * (64 : Int32)))), (0, .ref (ad 4)), (1, .ref (ad 3)), (2, .int v2)]) hx hb dX7_readRow_9 rfl hl (by decide) rfl (fun ls hl => ?_)
  refine lv_aload_n hx hb dX7_readRow_10 rfl (lv_at hl 2 rfl) ?_
  refine lv_iload_n hx hb dX7_readRow_11 rfl (lv_at hl 0 rfl) ?_
  refine lv_iconst (v := (4 : Int32)) hx hb dX7_readRow_12 (by decide) ?_
  refine lv_iadd hx hb dX7_readRow_13 ?_
  refine lv_iconst (v := (4 : Int32)) hx hb dX7_readRow_14 (by decide) ?_
  obtain ⟨q1, h2, h⟩ := bnd h
  refine cPl (run_V (rest := []) C (kX1_numberAt h2) caX1_numberAt w553 ⟨rfl, rfl, Nat.le_of_ble_eq_true rfl, Nat.le_of_ble_eq_true rfl⟩ hK hN hP (rX3 hK hP) rfl hl.1 rfl (Nat.le_of_ble_eq_true rfl) dX7_readRow_15 ⟨Nat.zero_le _, Nat.zero_le _⟩) ?_
  refine lv_lstore (lv' := [(4, .long q1), (3, .int (se.2.2.2.2.1 + (v2 * (64 : Int32)))), (0, .ref (ad 4)), (1, .ref (ad 3)), (2, .int v2)]) hx hb dX7_readRow_18 hl (by decide) rfl (fun ls hl => ?_)
  refine lv_aload_n hx hb dX7_readRow_20 rfl (lv_at hl 3 rfl) ?_
  refine lv_iload_n hx hb dX7_readRow_21 rfl (lv_at hl 1 rfl) ?_
  refine lv_bipush (v := (24 : Int32)) hx hb dX7_readRow_22 (by decide) ?_
  refine lv_iadd hx hb dX7_readRow_24 ?_
  refine lv_bipush (v := (8 : Int32)) hx hb dX7_readRow_25 (by decide) ?_
  obtain ⟨q3, h4, h⟩ := bnd h
  refine cPl (run_V (rest := []) C (kX1_numberAt h4) caX1_numberAt w553 ⟨rfl, rfl, Nat.le_of_ble_eq_true rfl, Nat.le_of_ble_eq_true rfl⟩ hK hN hP (rX3 hK hP) rfl hl.1 rfl (Nat.le_of_ble_eq_true rfl) dX7_readRow_27 ⟨Nat.zero_le _, Nat.zero_le _⟩) ?_
  refine lv_lstore (lv' := [(6, .long q3), (4, .long q1), (3, .int (se.2.2.2.2.1 + (v2 * (64 : Int32)))), (0, .ref (ad 4)), (1, .ref (ad 3)), (2, .int v2)]) hx hb dX7_readRow_30 hl (by decide) rfl (fun ls hl => ?_)
  refine lv_aload_n hx hb dX7_readRow_32 rfl (lv_at hl 4 rfl) ?_
  refine lv_iload_n hx hb dX7_readRow_33 rfl (lv_at hl 2 rfl) ?_
  refine lv_bipush (v := (32 : Int32)) hx hb dX7_readRow_34 (by decide) ?_
  refine lv_iadd hx hb dX7_readRow_36 ?_
  refine lv_bipush (v := (8 : Int32)) hx hb dX7_readRow_37 (by decide) ?_
  obtain ⟨q5, h6, h⟩ := bnd h
  refine cPl (run_V (rest := []) C (kX1_numberAt h6) caX1_numberAt w553 ⟨rfl, rfl, Nat.le_of_ble_eq_true rfl, Nat.le_of_ble_eq_true rfl⟩ hK hN hP (rX3 hK hP) rfl hl.1 rfl (Nat.le_of_ble_eq_true rfl) dX7_readRow_39 ⟨Nat.zero_le _, Nat.zero_le _⟩) ?_
  refine lv_lstore (lv' := [(8, .long q5), (6, .long q3), (4, .long q1), (3, .int (se.2.2.2.2.1 + (v2 * (64 : Int32)))), (0, .ref (ad 4)), (1, .ref (ad 3)), (2, .int v2)]) hx hb dX7_readRow_42 hl (by decide) rfl (fun ls hl => ?_)
  refine lv_lload hx hb dX7_readRow_44 (lv_at hl 2 rfl) ?_
  refine lv_lconst (v := (0 : Int64)) hx hb dX7_readRow_46 (by decide) ?_
  refine lc_eq (tgt := 60) hx hb dX7_readRow_47 dX7_readRow_48 (by decide) (fun c7 => ?_) (fun c7 => ?_)
  · rw [if_pos c7] at h
    exact bX7_readRow_60 C hI hK hN h (lv_sub hl [4, 5, 6, 3, 1, 0] rfl) hP hS
  · rw [if_neg c7] at h
    refine lv_lload hx hb dX7_readRow_51 (lv_at hl 2 rfl) ?_
    refine lv_ldc2 (v := (8 : Int64)) hx hb hown (hts _ (List.mem_cons_of_mem _ w571)) dX7_readRow_53 ?_
    refine lc_ne (tgt := 64) hx hb dX7_readRow_56 dX7_readRow_57 (by decide) (fun c8 => ?_) (fun c8 => ?_)
    · rw [if_neg c8] at h
      refine lv_iconst (v := (0 : Int32)) hx hb dX7_readRow_64 (by decide) ?_
      exact bX7_readRow_65 C hI hK hN h (lv_sub hl [4, 5, 6, 3, 1, 0] rfl) hP hS
    · rw [if_pos c8] at h
      exact bX7_readRow_60 C hI hK hN h (lv_sub hl [4, 5, 6, 3, 1, 0] rfl) hP hS
theorem kX7_readRow (hI : Apart ad 89) {v2 : Int32} {q : Tcu × Tse} (h : X7_readRow tp cu se v2 = some q) : Met l yX7_readRow (.code yX7_readRow cX7_readRow 11 none :: WA) ({ frames := 1, cells := 0, slots := 0, locals := 28 } : Room) (va_Pc [.ref (ad 4), .ref (ad 3), .int v2] (PR D cy (GX cy ad tk sp nm tp kp cu se ur ab lo im sy un en ra li i2))) (QR none D (GX cy ad tk sp nm tp kp q.1 q.2 ur ab lo im sy un en ra li i2) (Ac ad 89)) 0 0 (Ac ad 89) :=
  met_of (by decide) (Nat.le_of_ble_eq_true rfl) (fun p e s m below meth c ls C hP hK hN hl => bX7_readRow_0 C hI hK hN h hl hP va_S.rf)
def X7_total (se : Tse)  : Int32 := se.2.2.2.1
set_option maxRecDepth 20000 in
theorem bX7_total_0 (C : Cx p s m args meth c cX7_total 1 (some .int) RX7 (.code yX7_total cX7_total 1 (some .int))) (hK : va_K D vwCl (tysX cy) s) (hN : NW s)  {q : Int32}   (h : X7_total se = q) {ls : Array Slot} (hl : lv_has ls 1 [(0, .ref (ad 4))]) (hP : va_P D vwCl (GX cy ad tk sp nm tp kp cu se ur ab lo im sy un en ra li i2) s.heap) : W p l e ({ frames := 0, cells := 0, slots := 0, locals := 0 } : Room) s m args below meth c s.heap [] 0 0 (MQ below (QP (some (.int q))) args s 0 0 (fun _ => False)) (F0 m 0 ls []) := by
  obtain ⟨hx, hb, hml, hown, hts, hr, hlk⟩ := id C
  unfold X7_total at h
  refine lv_aload_n hx hb dX7_total_0 rfl (lv_at hl 0 rfl) ?_
  refine gX4_3 (v := se.2.2.2.1) C hK hP rfl w154 dX7_total_1 ?_
  obtain rfl := h
  exact W.iret hx hb hr (fun t ht _ => ⟨rfl, ht⟩) (fun _ h9 => by cases h9) dX7_total_4 hlk
theorem kX7_total   {q : Int32} (h : X7_total se = q) : Met l yX7_total (.code yX7_total cX7_total 1 (some .int) :: WA) ({ frames := 0, cells := 0, slots := 0, locals := 0 } : Room) (va_Pc [.ref (ad 4)] (PR D cy (GX cy ad tk sp nm tp kp cu se ur ab lo im sy un en ra li i2))) (QP (some (.int q))) 0 0 (fun _ => False) :=
  met_of (by decide) (Nat.le_of_ble_eq_true rfl) (fun p e s m below meth c ls C hP hK hN hl => bX7_total_0 C hK hN h hl hP)
def X8_readRow_148 (tp : Ttp) (se : Tse)  (cu : Tcu) (sy : Tsy) (v4 : Int64) (v6 : Int64) (v9 : Int64) (v11 : Int32) (v12 : Int32) : Option (Tcu × Tsy) := (if (X1_sound cu) = 0 then some (cu, sy) else some (cu, ((put_l 100 sy.1 sy.2.2.2.2 v4), (put_l 100 sy.2.1 sy.2.2.2.2 v6), (put_i 100 sy.2.2.1 sy.2.2.2.2 (v11 + ((v9).toInt32))), (put_i 100 sy.2.2.2.1 sy.2.2.2.2 v12), (sy.2.2.2.2 + (1 : Int32)))))
set_option maxRecDepth 20000 in
theorem bX8_readRow_148 (C : Cx p s m args meth c cX8_readRow 13 none RX8 (.code yX8_readRow cX8_readRow 13 none)) (hI : Apart ad 89) (hK : va_K D vwCl (tysX cy) s) (hN : NW s)  {q : Tcu × Tsy}  {v4 : Int64} {v6 : Int64} {v9 : Int64} {v11 : Int32} {v12 : Int32} (h : X8_readRow_148 tp se cu sy v4 v6 v9 v11 v12 = some q) {ls : Array Slot} (hl : lv_has ls 13 [(0, .ref (ad 22)), (1, .ref (ad 3)), (4, .long v4), (6, .long v6), (9, .long v9), (11, .int v11), (12, .int v12)]) {H : Heap} {locs : List Loc} (hP : va_P D vwCl (GX cy ad tk sp nm tp kp cu se ur ab lo im sy un en ra li i2) H) (hS : va_S (Ac ad 89) s.heap H locs) : W p l e ({ frames := 2, cells := 0, slots := 0, locals := 49 } : Room) s m args below meth c H locs 0 0 (MQ below (QR none D (GX cy ad tk sp nm tp kp q.1 se ur ab lo im q.2 un en ra li i2) (Ac ad 89)) args s 0 0 (Ac ad 89)) (F0 m 148 ls []) := by
  obtain ⟨hx, hb, hml, hown, hts, hr, hlk⟩ := id C
  unfold X8_readRow_148 at h
  refine lv_aload_n hx hb dX8_readRow_148 rfl (lv_at hl 1 rfl) ?_
  refine cPi (run_V (rest := []) C (kX1_sound rfl) caX1_sound w670 ⟨rfl, rfl, Nat.le_of_ble_eq_true rfl, Nat.le_of_ble_eq_true rfl⟩ hK hN hP (rX3 hK hP) rfl hl.1 rfl (Nat.le_of_ble_eq_true rfl) dX8_readRow_149 ⟨Nat.zero_le _, Nat.zero_le _⟩) ?_
  refine lv_if_ne (tgt := 156) hx hb dX8_readRow_152 (by decide) (fun c1 => ?_) (fun c1 => ?_)
  · rw [if_neg c1] at h
    refine lv_aload_n hx hb dX8_readRow_156 rfl (lv_at hl 0 rfl) ?_
    refine gX22_0 C hK hP w274 dX8_readRow_157 ?_
    refine lv_aload_n hx hb dX8_readRow_160 rfl (lv_at hl 0 rfl) ?_
    refine gX22_4 (v := sy.2.2.2.2) C hK hP rfl w278 dX8_readRow_161 ?_
    refine lv_lload hx hb dX8_readRow_164 (lv_at hl 2 rfl) ?_
    refine xput_l (rest := []) C hK hN hP (GX_D hI) hS eX23 (Nat.le_of_ble_eq_true rfl) w679 hl.1 (Nat.le_of_ble_eq_true rfl) dX8_readRow_166 ⟨Nat.le_of_ble_eq_true rfl, Nat.le_of_ble_eq_true rfl⟩ ⟨Nat.zero_le _, Nat.zero_le _⟩ (fun H locs hP hS => ?_)
    have hP : va_P D vwCl (GX cy ad tk sp nm tp kp cu se ur ab lo im ((put_l 100 sy.1 sy.2.2.2.2 v4), sy.2.1, sy.2.2.1, sy.2.2.2.1, sy.2.2.2.2) un en ra li i2) H := hP
    refine lv_aload_n hx hb dX8_readRow_169 rfl (lv_at hl 0 rfl) ?_
    refine gX22_1 C hK hP w275 dX8_readRow_170 ?_
    refine lv_aload_n hx hb dX8_readRow_173 rfl (lv_at hl 0 rfl) ?_
    refine gX22_4 (v := sy.2.2.2.2) C hK hP rfl w278 dX8_readRow_174 ?_
    refine lv_lload hx hb dX8_readRow_177 (lv_at hl 3 rfl) ?_
    refine xput_l (rest := []) C hK hN hP (GX_D hI) hS eX24 (Nat.le_of_ble_eq_true rfl) w679 hl.1 (Nat.le_of_ble_eq_true rfl) dX8_readRow_179 ⟨Nat.le_of_ble_eq_true rfl, Nat.le_of_ble_eq_true rfl⟩ ⟨Nat.zero_le _, Nat.zero_le _⟩ (fun H locs hP hS => ?_)
    have hP : va_P D vwCl (GX cy ad tk sp nm tp kp cu se ur ab lo im ((put_l 100 sy.1 sy.2.2.2.2 v4), (put_l 100 sy.2.1 sy.2.2.2.2 v6), sy.2.2.1, sy.2.2.2.1, sy.2.2.2.2) un en ra li i2) H := hP
    refine lv_aload_n hx hb dX8_readRow_182 rfl (lv_at hl 0 rfl) ?_
    refine gX22_2 C hK hP w276 dX8_readRow_183 ?_
    refine lv_aload_n hx hb dX8_readRow_186 rfl (lv_at hl 0 rfl) ?_
    refine gX22_4 (v := sy.2.2.2.2) C hK hP rfl w278 dX8_readRow_187 ?_
    refine lv_iload hx hb dX8_readRow_190 (lv_at hl 5 rfl) ?_
    refine lv_lload hx hb dX8_readRow_192 (lv_at hl 4 rfl) ?_
    refine lv_l2i (v := ((v9).toInt32)) hx hb dX8_readRow_194 rfl ?_
    refine lv_iadd hx hb dX8_readRow_195 ?_
    refine xput_i (rest := []) C hK hN hP (GX_D hI) hS eX25 (Nat.le_of_ble_eq_true rfl) w682 hl.1 (Nat.le_of_ble_eq_true rfl) dX8_readRow_196 ⟨Nat.le_of_ble_eq_true rfl, Nat.le_of_ble_eq_true rfl⟩ ⟨Nat.zero_le _, Nat.zero_le _⟩ (fun H locs hP hS => ?_)
    have hP : va_P D vwCl (GX cy ad tk sp nm tp kp cu se ur ab lo im ((put_l 100 sy.1 sy.2.2.2.2 v4), (put_l 100 sy.2.1 sy.2.2.2.2 v6), (put_i 100 sy.2.2.1 sy.2.2.2.2 (v11 + ((v9).toInt32))), sy.2.2.2.1, sy.2.2.2.2) un en ra li i2) H := hP
    refine lv_aload_n hx hb dX8_readRow_199 rfl (lv_at hl 0 rfl) ?_
    refine gX22_3 C hK hP w277 dX8_readRow_200 ?_
    refine lv_aload_n hx hb dX8_readRow_203 rfl (lv_at hl 0 rfl) ?_
    refine gX22_4 (v := sy.2.2.2.2) C hK hP rfl w278 dX8_readRow_204 ?_
    refine lv_iload hx hb dX8_readRow_207 (lv_at hl 6 rfl) ?_
    refine xput_i (rest := []) C hK hN hP (GX_D hI) hS eX26 (Nat.le_of_ble_eq_true rfl) w682 hl.1 (Nat.le_of_ble_eq_true rfl) dX8_readRow_209 ⟨Nat.le_of_ble_eq_true rfl, Nat.le_of_ble_eq_true rfl⟩ ⟨Nat.zero_le _, Nat.zero_le _⟩ (fun H locs hP hS => ?_)
    have hP : va_P D vwCl (GX cy ad tk sp nm tp kp cu se ur ab lo im ((put_l 100 sy.1 sy.2.2.2.2 v4), (put_l 100 sy.2.1 sy.2.2.2.2 v6), (put_i 100 sy.2.2.1 sy.2.2.2.2 (v11 + ((v9).toInt32))), (put_i 100 sy.2.2.2.1 sy.2.2.2.2 v12), sy.2.2.2.2) un en ra li i2) H := hP
    refine lv_aload_n hx hb dX8_readRow_212 rfl (lv_at hl 0 rfl) ?_
    refine lv_dup hx hb dX8_readRow_213 rfl ?_
    refine gX22_4 (v := sy.2.2.2.2) C hK hP rfl w278 dX8_readRow_214 ?_
    refine lv_iconst (v := (1 : Int32)) hx hb dX8_readRow_217 (by decide) ?_
    refine lv_iadd hx hb dX8_readRow_218 ?_
    refine pX22_4 (v := (sy.2.2.2.2 + (1 : Int32))) C hI hK hP hS w278 dX8_readRow_219 (fun H locs hP hS => ?_)
    have hP : va_P D vwCl (GX cy ad tk sp nm tp kp cu se ur ab lo im ((put_l 100 sy.1 sy.2.2.2.2 v4), (put_l 100 sy.2.1 sy.2.2.2.2 v6), (put_i 100 sy.2.2.1 sy.2.2.2.2 (v11 + ((v9).toInt32))), (put_i 100 sy.2.2.2.1 sy.2.2.2.2 v12), (sy.2.2.2.2 + (1 : Int32))) un en ra li i2) H := hP
    obtain rfl := Option.some.inj h
    exact W.vret hx hb hr (fun t ht _ => ⟨rfl, by rw [ht]; exact hP, hS.F ht⟩) hS.2.2 dX8_readRow_222 hlk
  · rw [if_pos c1] at h
    obtain rfl := Option.some.inj h
    exact W.vret hx hb hr (fun t ht _ => ⟨rfl, by rw [ht]; exact hP, hS.F ht⟩) hS.2.2 dX8_readRow_155 hlk
def X8_readRow_102 (tp : Ttp) (se : Tse)  (cu : Tcu) (sy : Tsy) (v3 : Int32) (v4 : Int64) (v6 : Int64) : Option (Tcu × Tsy) := ((X1_numberAt tp v3 (4 : Int32)).bind fun q1 => ((X1_toldText tp cu (X7_beginOf se (1 : Int32)) (X7_stopOf se (1 : Int32)) q1 v3).bind fun q3 => (if sy.2.2.2.2 < (100 : Int32) then X8_readRow_148 tp se q3.2 sy v4 v6 q1 (X7_beginOf se (1 : Int32)) q3.1 else (letq (X1_refuse q3.2 (4 : Int32) v3) fun q6 => X8_readRow_148 tp se q6 sy v4 v6 q1 (X7_beginOf se (1 : Int32)) q3.1))))
set_option maxRecDepth 20000 in
theorem bX8_readRow_102 (C : Cx p s m args meth c cX8_readRow 13 none RX8 (.code yX8_readRow cX8_readRow 13 none)) (hI : Apart ad 89) (hK : va_K D vwCl (tysX cy) s) (hN : NW s)  {q : Tcu × Tsy}  {v3 : Int32} {v4 : Int64} {v6 : Int64} (h : X8_readRow_102 tp se cu sy v3 v4 v6 = some q) {ls : Array Slot} (hl : lv_has ls 13 [(0, .ref (ad 22)), (1, .ref (ad 3)), (2, .ref (ad 4)), (3, .int v3), (4, .long v4), (6, .long v6)]) {H : Heap} {locs : List Loc} (hP : va_P D vwCl (GX cy ad tk sp nm tp kp cu se ur ab lo im sy un en ra li i2) H) (hS : va_S (Ac ad 89) s.heap H locs) : W p l e ({ frames := 2, cells := 0, slots := 0, locals := 49 } : Room) s m args below meth c H locs 0 0 (MQ below (QR none D (GX cy ad tk sp nm tp kp q.1 se ur ab lo im q.2 un en ra li i2) (Ac ad 89)) args s 0 0 (Ac ad 89)) (F0 m 102 ls []) := by
  obtain ⟨hx, hb, hml, hown, hts, hr, hlk⟩ := id C
  unfold X8_readRow_102 at h
  refine lv_aload_n hx hb dX8_readRow_102 rfl (lv_at hl 1 rfl) ?_
  refine lv_iload_n hx hb dX8_readRow_103 rfl (lv_at hl 3 rfl) ?_
  refine lv_iconst (v := (4 : Int32)) hx hb dX8_readRow_104 (by decide) ?_
  obtain ⟨q1, h2, h⟩ := bnd h
  refine cPl (run_V (rest := []) C (kX1_numberAt h2) caX1_numberAt w675 ⟨rfl, rfl, Nat.le_of_ble_eq_true rfl, Nat.le_of_ble_eq_true rfl⟩ hK hN hP (rX3 hK hP) rfl hl.1 rfl (Nat.le_of_ble_eq_true rfl) dX8_readRow_105 ⟨Nat.zero_le _, Nat.zero_le _⟩) ?_
  refine lv_lstore (lv' := [(9, .long q1), (0, .ref (ad 22)), (1, .ref (ad 3)), (2, .ref (ad 4)), (3, .int v3), (4, .long v4), (6, .long v6)]) hx hb dX8_readRow_108 hl (by decide) rfl (fun ls hl => ?_)
  refine lv_aload_n hx hb dX8_readRow_110 rfl (lv_at hl 3 rfl) ?_
  refine lv_iconst (v := (1 : Int32)) hx hb dX8_readRow_111 (by decide) ?_
  refine cPi (run_V (rest := []) C (kX7_beginOf rfl) caX7_beginOf w662 ⟨rfl, rfl, Nat.le_of_ble_eq_true rfl, Nat.le_of_ble_eq_true rfl⟩ hK hN hP (rX4 hK hP) rfl hl.1 rfl (Nat.le_of_ble_eq_true rfl) dX8_readRow_112 ⟨Nat.zero_le _, Nat.zero_le _⟩) ?_
  refine lv_istore (lv' := [(11, .int (X7_beginOf se (1 : Int32))), (9, .long q1), (0, .ref (ad 22)), (1, .ref (ad 3)), (2, .ref (ad 4)), (3, .int v3), (4, .long v4), (6, .long v6)]) hx hb dX8_readRow_115 hl (by decide) rfl (fun ls hl => ?_)
  refine lv_aload_n hx hb dX8_readRow_117 rfl (lv_at hl 3 rfl) ?_
  refine lv_iload hx hb dX8_readRow_118 (lv_at hl 0 rfl) ?_
  refine lv_aload_n hx hb dX8_readRow_120 rfl (lv_at hl 4 rfl) ?_
  refine lv_iconst (v := (1 : Int32)) hx hb dX8_readRow_121 (by decide) ?_
  refine cPi (run_V (rest := [.int (X7_beginOf se (1 : Int32)), .ref (ad 3)]) C (kX7_stopOf rfl) caX7_stopOf w666 ⟨rfl, rfl, Nat.le_of_ble_eq_true rfl, Nat.le_of_ble_eq_true rfl⟩ hK hN hP (rX4 hK hP) rfl hl.1 rfl (Nat.le_of_ble_eq_true rfl) dX8_readRow_122 ⟨Nat.zero_le _, Nat.zero_le _⟩) ?_
  refine lv_lload hx hb dX8_readRow_125 (lv_at hl 1 rfl) ?_
  refine lv_iload_n hx hb dX8_readRow_127 rfl (lv_at hl 5 rfl) ?_
  obtain ⟨q3, h4, h⟩ := bnd h
  refine cRi (run_V (rest := []) C (kX1_toldText hI h4) caX1_toldText w678 ⟨rfl, rfl, Nat.le_of_ble_eq_true rfl, Nat.le_of_ble_eq_true rfl⟩ hK hN hP (rX3 hK hP) rfl hl.1 rfl (Nat.le_of_ble_eq_true rfl) dX8_readRow_128 ⟨Nat.zero_le _, Nat.zero_le _⟩) hS (fun H locs hP hS => ?_)
  have hP : va_P D vwCl (GX cy ad tk sp nm tp kp q3.2 se ur ab lo im sy un en ra li i2) H := hP
  refine lv_istore (lv' := [(12, .int q3.1), (11, .int (X7_beginOf se (1 : Int32))), (9, .long q1), (0, .ref (ad 22)), (1, .ref (ad 3)), (2, .ref (ad 4)), (3, .int v3), (4, .long v4), (6, .long v6)]) hx hb dX8_readRow_131 hl (by decide) rfl (fun ls hl => ?_)
  refine lv_aload_n hx hb dX8_readRow_133 rfl (lv_at hl 3 rfl) ?_
  refine gX22_4 (v := sy.2.2.2.2) C hK hP rfl w278 dX8_readRow_134 ?_
  refine lv_bipush (v := (100 : Int32)) hx hb dX8_readRow_137 (by decide) ?_
  refine lv_icmp_lt (tgt := 148) hx hb dX8_readRow_139 (by decide) (fun c5 => ?_) (fun c5 => ?_)
  · rw [if_pos c5] at h
    exact bX8_readRow_148 C hI hK hN h (lv_sub hl [3, 4, 7, 8, 2, 1, 0] rfl) hP hS
  · rw [if_neg c5] at h
    refine lv_aload_n hx hb dX8_readRow_142 rfl (lv_at hl 4 rfl) ?_
    refine lv_iconst (v := (4 : Int32)) hx hb dX8_readRow_143 (by decide) ?_
    refine lv_iload_n hx hb dX8_readRow_144 rfl (lv_at hl 6 rfl) ?_
    obtain ⟨q6, h7, h⟩ := lets h
    refine cRv (run_V (rest := []) C (kX1_refuse hI h7) caX1_refuse w677 ⟨rfl, rfl, Nat.le_of_ble_eq_true rfl, Nat.le_of_ble_eq_true rfl⟩ hK hN hP (rX3 hK hP) rfl hl.1 rfl (Nat.le_of_ble_eq_true rfl) dX8_readRow_145 ⟨Nat.zero_le _, Nat.zero_le _⟩) hS (fun H locs hP hS => ?_)
    have hP : va_P D vwCl (GX cy ad tk sp nm tp kp q6 se ur ab lo im sy un en ra li i2) H := hP
    exact bX8_readRow_148 C hI hK hN h (lv_sub hl [3, 4, 7, 8, 2, 1, 0] rfl) hP hS
def X8_readRow_96 (tp : Ttp) (se : Tse)  (cu : Tcu) (sy : Tsy) (v3 : Int32) (v4 : Int64) (v6 : Int64) : Option (Tcu × Tsy) := (letq (X1_refuse cu (2 : Int32) v3) fun q1 => X8_readRow_102 tp se q1 sy v3 v4 v6)
set_option maxRecDepth 20000 in
theorem bX8_readRow_96 (C : Cx p s m args meth c cX8_readRow 13 none RX8 (.code yX8_readRow cX8_readRow 13 none)) (hI : Apart ad 89) (hK : va_K D vwCl (tysX cy) s) (hN : NW s)  {q : Tcu × Tsy}  {v3 : Int32} {v4 : Int64} {v6 : Int64} (h : X8_readRow_96 tp se cu sy v3 v4 v6 = some q) {ls : Array Slot} (hl : lv_has ls 13 [(0, .ref (ad 22)), (1, .ref (ad 3)), (2, .ref (ad 4)), (3, .int v3), (4, .long v4), (6, .long v6)]) {H : Heap} {locs : List Loc} (hP : va_P D vwCl (GX cy ad tk sp nm tp kp cu se ur ab lo im sy un en ra li i2) H) (hS : va_S (Ac ad 89) s.heap H locs) : W p l e ({ frames := 2, cells := 0, slots := 0, locals := 49 } : Room) s m args below meth c H locs 0 0 (MQ below (QR none D (GX cy ad tk sp nm tp kp q.1 se ur ab lo im q.2 un en ra li i2) (Ac ad 89)) args s 0 0 (Ac ad 89)) (F0 m 96 ls []) := by
  obtain ⟨hx, hb, hml, hown, hts, hr, hlk⟩ := id C
  unfold X8_readRow_96 at h
  refine lv_aload_n hx hb dX8_readRow_96 rfl (lv_at hl 1 rfl) ?_
  refine lv_iconst (v := (2 : Int32)) hx hb dX8_readRow_97 (by decide) ?_
  refine lv_iload_n hx hb dX8_readRow_98 rfl (lv_at hl 3 rfl) ?_
  obtain ⟨q1, h2, h⟩ := lets h
  refine cRv (run_V (rest := []) C (kX1_refuse hI h2) caX1_refuse w677 ⟨rfl, rfl, Nat.le_of_ble_eq_true rfl, Nat.le_of_ble_eq_true rfl⟩ hK hN hP (rX3 hK hP) rfl hl.1 rfl (Nat.le_of_ble_eq_true rfl) dX8_readRow_99 ⟨Nat.zero_le _, Nat.zero_le _⟩) hS (fun H locs hP hS => ?_)
  have hP : va_P D vwCl (GX cy ad tk sp nm tp kp q1 se ur ab lo im sy un en ra li i2) H := hP
  exact bX8_readRow_102 C hI hK hN h (lv_sub hl [0, 1, 2, 3, 4, 5] rfl) hP hS
def X8_readRow_43 (tp : Ttp) (se : Tse)  (cu : Tcu) (sy : Tsy) (v3 : Int32) (v4 : Int64) (v6 : Int64) (z0 : Int32) : Option (Tcu × Tsy) := (if z0 = 0 then some (cu, sy) else ((X1_numberAt tp (v3 + (6 : Int32)) (2 : Int32)).bind fun q2 => (if q2 = (0 : Int64) then some (cu, sy) else (if v6 = (0 : Int64) then some (cu, sy) else (if v4 < (0 : Int64) then X8_readRow_96 tp se cu sy v3 v4 v6 else (if v6 < (0 : Int64) then X8_readRow_96 tp se cu sy v3 v4 v6 else (if (v4 + v6) < (0 : Int64) then X8_readRow_96 tp se cu sy v3 v4 v6 else X8_readRow_102 tp se cu sy v3 v4 v6)))))))
set_option maxRecDepth 20000 in
theorem bX8_readRow_43 (C : Cx p s m args meth c cX8_readRow 13 none RX8 (.code yX8_readRow cX8_readRow 13 none)) (hI : Apart ad 89) (hK : va_K D vwCl (tysX cy) s) (hN : NW s)  {q : Tcu × Tsy}  {v3 : Int32} {v4 : Int64} {v6 : Int64} {z0 : Int32} (h : X8_readRow_43 tp se cu sy v3 v4 v6 z0 = some q) {ls : Array Slot} (hl : lv_has ls 13 [(0, .ref (ad 22)), (1, .ref (ad 3)), (2, .ref (ad 4)), (3, .int v3), (4, .long v4), (6, .long v6)]) {H : Heap} {locs : List Loc} (hP : va_P D vwCl (GX cy ad tk sp nm tp kp cu se ur ab lo im sy un en ra li i2) H) (hS : va_S (Ac ad 89) s.heap H locs) : W p l e ({ frames := 2, cells := 0, slots := 0, locals := 49 } : Room) s m args below meth c H locs 0 0 (MQ below (QR none D (GX cy ad tk sp nm tp kp q.1 se ur ab lo im q.2 un en ra li i2) (Ac ad 89)) args s 0 0 (Ac ad 89)) (F0 m 43 ls [.int z0]) := by
  obtain ⟨hx, hb, hml, hown, hts, hr, hlk⟩ := id C
  unfold X8_readRow_43 at h
  refine lv_istore (lv' := [(8, .int z0), (0, .ref (ad 22)), (1, .ref (ad 3)), (2, .ref (ad 4)), (3, .int v3), (4, .long v4), (6, .long v6)]) hx hb dX8_readRow_43 hl (by decide) rfl (fun ls hl => ?_)
  refine lv_iload hx hb dX8_readRow_45 (lv_at hl 0 rfl) ?_
  refine lv_if_eq (tgt := 71) hx hb dX8_readRow_47 (by decide) (fun c1 => ?_) (fun c1 => ?_)
  · rw [if_pos c1] at h
    obtain rfl := Option.some.inj h
    exact W.vret hx hb hr (fun t ht _ => ⟨rfl, by rw [ht]; exact hP, hS.F ht⟩) hS.2.2 dX8_readRow_71 hlk
  · rw [if_neg c1] at h
    refine lv_aload_n hx hb dX8_readRow_50 rfl (lv_at hl 2 rfl) ?_
    refine lv_iload_n hx hb dX8_readRow_51 rfl (lv_at hl 4 rfl) ?_
    refine lv_bipush (v := (6 : Int32)) hx hb dX8_readRow_52 (by decide) ?_
    refine lv_iadd hx hb dX8_readRow_54 ?_
    refine lv_iconst (v := (2 : Int32)) hx hb dX8_readRow_55 (by decide) ?_
    obtain ⟨q2, h3, h⟩ := bnd h
    refine cPl (run_V (rest := []) C (kX1_numberAt h3) caX1_numberAt w675 ⟨rfl, rfl, Nat.le_of_ble_eq_true rfl, Nat.le_of_ble_eq_true rfl⟩ hK hN hP (rX3 hK hP) rfl hl.1 rfl (Nat.le_of_ble_eq_true rfl) dX8_readRow_56 ⟨Nat.zero_le _, Nat.zero_le _⟩) ?_
    refine lv_lconst (v := (0 : Int64)) hx hb dX8_readRow_59 (by decide) ?_
    refine lc_eq (tgt := 71) hx hb dX8_readRow_60 dX8_readRow_61 (by decide) (fun c4 => ?_) (fun c4 => ?_)
    · rw [if_pos c4] at h
      obtain rfl := Option.some.inj h
      exact W.vret hx hb hr (fun t ht _ => ⟨rfl, by rw [ht]; exact hP, hS.F ht⟩) hS.2.2 dX8_readRow_71 hlk
    · rw [if_neg c4] at h
      refine lv_lload hx hb dX8_readRow_64 (lv_at hl 6 rfl) ?_
      refine lv_lconst (v := (0 : Int64)) hx hb dX8_readRow_66 (by decide) ?_
      refine lc_ne (tgt := 72) hx hb dX8_readRow_67 dX8_readRow_68 (by decide) (fun c5 => ?_) (fun c5 => ?_)
      · rw [if_neg c5] at h
        refine lv_lload hx hb dX8_readRow_72 (lv_at hl 5 rfl) ?_
        refine lv_lconst (v := (0 : Int64)) hx hb dX8_readRow_74 (by decide) ?_
        refine lc_lt (tgt := 96) hx hb dX8_readRow_75 dX8_readRow_76 (by decide) (fun c6 => ?_) (fun c6 => ?_)
        · rw [if_pos c6] at h
          exact bX8_readRow_96 C hI hK hN h (lv_sub hl [1, 2, 3, 4, 5, 6] rfl) hP hS
        · rw [if_neg c6] at h
          refine lv_lload hx hb dX8_readRow_79 (lv_at hl 6 rfl) ?_
          refine lv_lconst (v := (0 : Int64)) hx hb dX8_readRow_81 (by decide) ?_
          refine lc_lt (tgt := 96) hx hb dX8_readRow_82 dX8_readRow_83 (by decide) (fun c7 => ?_) (fun c7 => ?_)
          · rw [if_pos c7] at h
            exact bX8_readRow_96 C hI hK hN h (lv_sub hl [1, 2, 3, 4, 5, 6] rfl) hP hS
          · rw [if_neg c7] at h
            refine lv_lload hx hb dX8_readRow_86 (lv_at hl 5 rfl) ?_
            refine lv_lload hx hb dX8_readRow_88 (lv_at hl 6 rfl) ?_
            refine lv_ladd hx hb dX8_readRow_90 ?_
            refine lv_lconst (v := (0 : Int64)) hx hb dX8_readRow_91 (by decide) ?_
            refine lc_ge (tgt := 102) hx hb dX8_readRow_92 dX8_readRow_93 (by decide) (fun c8 => ?_) (fun c8 => ?_)
            · rw [if_neg c8] at h
              exact bX8_readRow_102 C hI hK hN h (lv_sub hl [1, 2, 3, 4, 5, 6] rfl) hP hS
            · rw [if_pos c8] at h
              exact bX8_readRow_96 C hI hK hN h (lv_sub hl [1, 2, 3, 4, 5, 6] rfl) hP hS
      · rw [if_pos c5] at h
        obtain rfl := Option.some.inj h
        exact W.vret hx hb hr (fun t ht _ => ⟨rfl, by rw [ht]; exact hP, hS.F ht⟩) hS.2.2 dX8_readRow_71 hlk
def X8_readRow (tp : Ttp) (cu : Tcu) (se : Tse) (sy : Tsy) (v3 : Int32) : Option (Tcu × Tsy) := ((X1_numberAt tp (v3 + (8 : Int32)) (8 : Int32)).bind fun q1 => ((X1_numberAt tp (v3 + (16 : Int32)) (8 : Int32)).bind fun q3 => ((X1_byteAt tp (v3 + (4 : Int32))).bind fun q5 => (if (q5 - q5 / (16 : Int32) * (16 : Int32)) = (2 : Int32) then X8_readRow_43 tp se cu sy v3 q1 q3 (1 : Int32) else X8_readRow_43 tp se cu sy v3 q1 q3 (0 : Int32)))))
set_option maxRecDepth 20000 in
theorem bX8_readRow_0 (C : Cx p s m args meth c cX8_readRow 13 none RX8 (.code yX8_readRow cX8_readRow 13 none)) (hI : Apart ad 89) (hK : va_K D vwCl (tysX cy) s) (hN : NW s)  {q : Tcu × Tsy}  {v3 : Int32} (h : X8_readRow tp cu se sy v3 = some q) {ls : Array Slot} (hl : lv_has ls 13 [(0, .ref (ad 22)), (1, .ref (ad 3)), (2, .ref (ad 4)), (3, .int v3)]) {H : Heap} {locs : List Loc} (hP : va_P D vwCl (GX cy ad tk sp nm tp kp cu se ur ab lo im sy un en ra li i2) H) (hS : va_S (Ac ad 89) s.heap H locs) : W p l e ({ frames := 2, cells := 0, slots := 0, locals := 49 } : Room) s m args below meth c H locs 0 0 (MQ below (QR none D (GX cy ad tk sp nm tp kp q.1 se ur ab lo im q.2 un en ra li i2) (Ac ad 89)) args s 0 0 (Ac ad 89)) (F0 m 0 ls []) := by
  obtain ⟨hx, hb, hml, hown, hts, hr, hlk⟩ := id C
  unfold X8_readRow at h
  refine lv_aload_n hx hb dX8_readRow_0 rfl (lv_at hl 1 rfl) ?_
  refine lv_iload_n hx hb dX8_readRow_1 rfl (lv_at hl 3 rfl) ?_
  refine lv_bipush (v := (8 : Int32)) hx hb dX8_readRow_2 (by decide) ?_
  refine lv_iadd hx hb dX8_readRow_4 ?_
  refine lv_bipush (v := (8 : Int32)) hx hb dX8_readRow_5 (by decide) ?_
  obtain ⟨q1, h2, h⟩ := bnd h
  refine cPl (run_V (rest := []) C (kX1_numberAt h2) caX1_numberAt w675 ⟨rfl, rfl, Nat.le_of_ble_eq_true rfl, Nat.le_of_ble_eq_true rfl⟩ hK hN hP (rX3 hK hP) rfl hl.1 rfl (Nat.le_of_ble_eq_true rfl) dX8_readRow_7 ⟨Nat.zero_le _, Nat.zero_le _⟩) ?_
  refine lv_lstore (lv' := [(4, .long q1), (0, .ref (ad 22)), (1, .ref (ad 3)), (2, .ref (ad 4)), (3, .int v3)]) hx hb dX8_readRow_10 hl (by decide) rfl (fun ls hl => ?_)
  refine lv_aload_n hx hb dX8_readRow_12 rfl (lv_at hl 2 rfl) ?_
  refine lv_iload_n hx hb dX8_readRow_13 rfl (lv_at hl 4 rfl) ?_
  refine lv_bipush (v := (16 : Int32)) hx hb dX8_readRow_14 (by decide) ?_
  refine lv_iadd hx hb dX8_readRow_16 ?_
  refine lv_bipush (v := (8 : Int32)) hx hb dX8_readRow_17 (by decide) ?_
  obtain ⟨q3, h4, h⟩ := bnd h
  refine cPl (run_V (rest := []) C (kX1_numberAt h4) caX1_numberAt w675 ⟨rfl, rfl, Nat.le_of_ble_eq_true rfl, Nat.le_of_ble_eq_true rfl⟩ hK hN hP (rX3 hK hP) rfl hl.1 rfl (Nat.le_of_ble_eq_true rfl) dX8_readRow_19 ⟨Nat.zero_le _, Nat.zero_le _⟩) ?_
  refine lv_lstore (lv' := [(6, .long q3), (4, .long q1), (0, .ref (ad 22)), (1, .ref (ad 3)), (2, .ref (ad 4)), (3, .int v3)]) hx hb dX8_readRow_22 hl (by decide) rfl (fun ls hl => ?_)
  refine lv_aload_n hx hb dX8_readRow_24 rfl (lv_at hl 3 rfl) ?_
  refine lv_iload_n hx hb dX8_readRow_25 rfl (lv_at hl 5 rfl) ?_
  refine lv_iconst (v := (4 : Int32)) hx hb dX8_readRow_26 (by decide) ?_
  refine lv_iadd hx hb dX8_readRow_27 ?_
  obtain ⟨q5, h6, h⟩ := bnd h
  refine cPi (run_V (rest := []) C (kX1_byteAt h6) caX1_byteAt w676 ⟨rfl, rfl, Nat.le_of_ble_eq_true rfl, Nat.le_of_ble_eq_true rfl⟩ hK hN hP (rX3 hK hP) rfl hl.1 rfl (Nat.le_of_ble_eq_true rfl) dX8_readRow_28 ⟨Nat.zero_le _, Nat.zero_le _⟩) ?_
  refine lv_bipush (v := (16 : Int32)) hx hb dX8_readRow_31 (by decide) ?_
  refine lv_irem hx hb dX8_readRow_33 (by decide) ?_
  refine lv_iconst (v := (2 : Int32)) hx hb dX8_readRow_34 (by decide) ?_
  refine lv_icmp_ne (tgt := 42) hx hb dX8_readRow_35 (by decide) (fun c7 => ?_) (fun c7 => ?_)
  · rw [if_neg c7] at h
    refine lv_iconst (v := (0 : Int32)) hx hb dX8_readRow_42 (by decide) ?_
    exact bX8_readRow_43 C hI hK hN h (lv_sub hl [2, 3, 4, 5, 1, 0] rfl) hP hS
  · rw [if_pos c7] at h
    refine lv_iconst (v := (1 : Int32)) hx hb dX8_readRow_38 (by decide) ?_
    refine lv_goto (tgt := 43) hx hb dX8_readRow_39 (by decide) ?_
    exact bX8_readRow_43 C hI hK hN h (lv_sub hl [2, 3, 4, 5, 1, 0] rfl) hP hS
theorem kX8_readRow (hI : Apart ad 89) {v3 : Int32} {q : Tcu × Tsy} (h : X8_readRow tp cu se sy v3 = some q) : Met l yX8_readRow (.code yX8_readRow cX8_readRow 13 none :: WA) ({ frames := 2, cells := 0, slots := 0, locals := 49 } : Room) (va_Pc [.ref (ad 22), .ref (ad 3), .ref (ad 4), .int v3] (PR D cy (GX cy ad tk sp nm tp kp cu se ur ab lo im sy un en ra li i2))) (QR none D (GX cy ad tk sp nm tp kp q.1 se ur ab lo im q.2 un en ra li i2) (Ac ad 89)) 0 0 (Ac ad 89) :=
  met_of (by decide) (Nat.le_of_ble_eq_true rfl) (fun p e s m below meth c ls C hP hK hN hl => bX8_readRow_0 C hI hK hN h hl hP va_S.rf)
def X8_read_63 (tp : Ttp) (se : Tse)  (cu : Tcu) (sy : Tsy) (v3 : Int32) (v4 : Int32) (v5 : Int32) : Option (Tcu × Tsy) := (if (v3 + (v5 * (24 : Int32))) < v4 then (letq (X1_refuse cu (1 : Int32) (v3 + (v5 * (24 : Int32)))) fun q2 => some (q2, sy)) else some (cu, sy))
set_option maxRecDepth 20000 in
theorem bX8_read_63 (C : Cx p s m args meth c cX8_read 7 none RX8 (.code yX8_read cX8_read 7 none)) (hI : Apart ad 89) (hK : va_K D vwCl (tysX cy) s) (hN : NW s)  {q : Tcu × Tsy}  {v3 : Int32} {v4 : Int32} {v5 : Int32} (h : X8_read_63 tp se cu sy v3 v4 v5 = some q) {ls : Array Slot} (hl : lv_has ls 7 [(1, .ref (ad 3)), (3, .int v3), (4, .int v4), (5, .int v5)]) {H : Heap} {locs : List Loc} (hP : va_P D vwCl (GX cy ad tk sp nm tp kp cu se ur ab lo im sy un en ra li i2) H) (hS : va_S (Ac ad 89) s.heap H locs) : W p l e ({ frames := 3, cells := 0, slots := 0, locals := 81 } : Room) s m args below meth c H locs 0 0 (MQ below (QR none D (GX cy ad tk sp nm tp kp q.1 se ur ab lo im q.2 un en ra li i2) (Ac ad 89)) args s 0 0 (Ac ad 89)) (F0 m 63 ls []) := by
  obtain ⟨hx, hb, hml, hown, hts, hr, hlk⟩ := id C
  unfold X8_read_63 at h
  refine lv_iload_n hx hb dX8_read_63 rfl (lv_at hl 1 rfl) ?_
  refine lv_iload hx hb dX8_read_64 (lv_at hl 3 rfl) ?_
  refine lv_bipush (v := (24 : Int32)) hx hb dX8_read_66 (by decide) ?_
  refine lv_imul hx hb dX8_read_68 ?_
  refine lv_iadd hx hb dX8_read_69 ?_
  refine lv_istore (lv' := [(6, .int (v3 + (v5 * (24 : Int32)))), (1, .ref (ad 3)), (3, .int v3), (4, .int v4), (5, .int v5)]) hx hb dX8_read_70 hl (by decide) rfl (fun ls hl => ?_)
  refine lv_iload hx hb dX8_read_72 (lv_at hl 0 rfl) ?_
  refine lv_iload hx hb dX8_read_74 (lv_at hl 3 rfl) ?_
  refine b_icmp_ge (tgt := 86) hx hb dX8_read_76 (by decide) (fun c1 => ?_) (fun c1 => ?_)
  · rw [if_neg c1] at h
    obtain rfl := Option.some.inj h
    exact W.vret hx hb hr (fun t ht _ => ⟨rfl, by rw [ht]; exact hP, hS.F ht⟩) hS.2.2 dX8_read_86 hlk
  · rw [if_pos c1] at h
    refine lv_aload_n hx hb dX8_read_79 rfl (lv_at hl 1 rfl) ?_
    refine lv_iconst (v := (1 : Int32)) hx hb dX8_read_80 (by decide) ?_
    refine lv_iload hx hb dX8_read_81 (lv_at hl 0 rfl) ?_
    obtain ⟨q2, h3, h⟩ := lets h
    refine cRv (run_V (rest := []) C (kX1_refuse hI h3) caX1_refuse w677 ⟨rfl, rfl, Nat.le_of_ble_eq_true rfl, Nat.le_of_ble_eq_true rfl⟩ hK hN hP (rX3 hK hP) rfl hl.1 rfl (Nat.le_of_ble_eq_true rfl) dX8_read_83 ⟨Nat.zero_le _, Nat.zero_le _⟩) hS (fun H locs hP hS => ?_)
    have hP : va_P D vwCl (GX cy ad tk sp nm tp kp q2 se ur ab lo im sy un en ra li i2) H := hP
    obtain rfl := Option.some.inj h
    exact W.vret hx hb hr (fun t ht _ => ⟨rfl, by rw [ht]; exact hP, hS.F ht⟩) hS.2.2 dX8_read_86 hlk
def X8_read_30b (tp : Ttp) (se : Tse)  (k30 : Tcu → Tsy → Int32 → Int32 → Int32 → Int32 → Option (Tcu × Tsy)) (cu : Tcu) (sy : Tsy) (v3 : Int32) (v4 : Int32) (v5 : Int32) (v6 : Int32) : Option (Tcu × Tsy) := (if v6 < v5 then (if (X1_sound cu) = 0 then X8_read_63 tp se cu sy v3 v4 v5 else ((X8_readRow tp cu se sy (v3 + (v6 * (24 : Int32)))).bind fun q3 => k30 q3.1 q3.2 v3 v4 v5 (v6 + (1 : Int32)))) else X8_read_63 tp se cu sy v3 v4 v5)
def X8_read_30 (tp : Ttp) (se : Tse)  (n : Nat) (st : Tcu × Tsy × Int32 × Int32 × Int32 × Int32) : Option (Tcu × Tsy) := lp (fun rec st => X8_read_30b tp se  (fun a0 a1 a2 a3 a4 a5 => rec (a0, a1, a2, a3, a4, a5)) st.1 st.2.1 st.2.2.1 st.2.2.2.1 st.2.2.2.2.1 st.2.2.2.2.2) n st
set_option maxRecDepth 20000 in
theorem bX8_read_30 (C : Cx p s m args meth c cX8_read 7 none RX8 (.code yX8_read cX8_read 7 none)) (hI : Apart ad 89) (hK : va_K D vwCl (tysX cy) s) (hN : NW s)  {q : Tcu × Tsy}  : ∀ (n : Nat) {cu : Tcu} {sy : Tsy} {v3 : Int32} {v4 : Int32} {v5 : Int32} {v6 : Int32}, X8_read_30 tp se  n (cu, sy, v3, v4, v5, v6) = some q → ∀ {ls : Array Slot}, lv_has ls 7 [(0, .ref (ad 22)), (1, .ref (ad 3)), (2, .ref (ad 4)), (3, .int v3), (4, .int v4), (5, .int v5), (6, .int v6)] → ∀ {H : Heap} {locs : List Loc}, va_P D vwCl (GX cy ad tk sp nm tp kp cu se ur ab lo im sy un en ra li i2) H → va_S (Ac ad 89) s.heap H locs → W p l e ({ frames := 3, cells := 0, slots := 0, locals := 81 } : Room) s m args below meth c H locs 0 0 (MQ below (QR none D (GX cy ad tk sp nm tp kp q.1 se ur ab lo im q.2 un en ra li i2) (Ac ad 89)) args s 0 0 (Ac ad 89)) (F0 m 30 ls []) := by
  obtain ⟨hx, hb, hml, hown, hts, hr, hlk⟩ := id C
  intro n
  induction n with
  | zero =>
    intro cu sy v3 v4 v5 v6 h ls hl H locs hP hS
    have h : (none : Option (Tcu × Tsy)) = some q := h
    cases h
  | succ n ih =>
    intro cu sy v3 v4 v5 v6 h ls hl H locs hP hS
    have h : X8_read_30b tp se  (fun a0 a1 a2 a3 a4 a5 => X8_read_30 tp se  n (a0, a1, a2, a3, a4, a5)) cu sy v3 v4 v5 v6 = some q := h
    unfold X8_read_30b at h
    refine lv_iload hx hb dX8_read_30 (lv_at hl 6 rfl) ?_
    refine lv_iload hx hb dX8_read_32 (lv_at hl 5 rfl) ?_
    refine b_icmp_ge (tgt := 63) hx hb dX8_read_34 (by decide) (fun c1 => ?_) (fun c1 => ?_)
    · rw [if_neg c1] at h
      exact bX8_read_63 C hI hK hN h (lv_sub hl [1, 3, 4, 5] rfl) hP hS
    · rw [if_pos c1] at h
      refine lv_aload_n hx hb dX8_read_37 rfl (lv_at hl 1 rfl) ?_
      refine cPi (run_V (rest := []) C (kX1_sound rfl) caX1_sound w670 ⟨rfl, rfl, Nat.le_of_ble_eq_true rfl, Nat.le_of_ble_eq_true rfl⟩ hK hN hP (rX3 hK hP) rfl hl.1 rfl (Nat.le_of_ble_eq_true rfl) dX8_read_38 ⟨Nat.zero_le _, Nat.zero_le _⟩) ?_
      refine lv_if_eq (tgt := 63) hx hb dX8_read_41 (by decide) (fun c2 => ?_) (fun c2 => ?_)
      · rw [if_pos c2] at h
        exact bX8_read_63 C hI hK hN h (lv_sub hl [1, 3, 4, 5] rfl) hP hS
      · rw [if_neg c2] at h
        refine lv_aload_n hx hb dX8_read_44 rfl (lv_at hl 0 rfl) ?_
        refine lv_aload_n hx hb dX8_read_45 rfl (lv_at hl 1 rfl) ?_
        refine lv_aload_n hx hb dX8_read_46 rfl (lv_at hl 2 rfl) ?_
        refine lv_iload_n hx hb dX8_read_47 rfl (lv_at hl 3 rfl) ?_
        refine lv_iload hx hb dX8_read_48 (lv_at hl 6 rfl) ?_
        refine lv_bipush (v := (24 : Int32)) hx hb dX8_read_50 (by decide) ?_
        refine lv_imul hx hb dX8_read_52 ?_
        refine lv_iadd hx hb dX8_read_53 ?_
        obtain ⟨q3, h4, h⟩ := bnd h
        refine cRv (run_V (rest := []) C (kX8_readRow hI h4) caX8_readRow w671 ⟨rfl, rfl, Nat.le_of_ble_eq_true rfl, Nat.le_of_ble_eq_true rfl⟩ hK hN hP (rX22 hK hP) rfl hl.1 rfl (Nat.le_of_ble_eq_true rfl) dX8_read_54 ⟨Nat.zero_le _, Nat.zero_le _⟩) hS (fun H locs hP hS => ?_)
        have hP : va_P D vwCl (GX cy ad tk sp nm tp kp q3.1 se ur ab lo im q3.2 un en ra li i2) H := hP
        refine lv_iinc (v := (v6 + (1 : Int32))) (lv' := [(6, .int (v6 + (1 : Int32))), (0, .ref (ad 22)), (1, .ref (ad 3)), (2, .ref (ad 4)), (3, .int v3), (4, .int v4), (5, .int v5)]) hx hb dX8_read_57 hl (k := 6) rfl rfl (by decide) rfl (fun ls hl => ?_)
        refine lv_goto (tgt := 30) hx hb dX8_read_60 (by decide) ?_
        exact ih h (lv_sub hl [1, 2, 3, 4, 5, 6, 0] rfl) hP hS
def X8_read (tp : Ttp) (cu : Tcu) (se : Tse) (sy : Tsy)  : Option (Tcu × Tsy) := X8_read_30 tp se FU (cu, (sy.1, sy.2.1, sy.2.2.1, sy.2.2.2.1, (0 : Int32)), (X7_beginOf se (0 : Int32)), (X7_stopOf se (0 : Int32)), (((X7_stopOf se (0 : Int32)) - (X7_beginOf se (0 : Int32))) / (24 : Int32)), (0 : Int32))
set_option maxRecDepth 20000 in
theorem bX8_read_0 (C : Cx p s m args meth c cX8_read 7 none RX8 (.code yX8_read cX8_read 7 none)) (hI : Apart ad 89) (hK : va_K D vwCl (tysX cy) s) (hN : NW s)  {q : Tcu × Tsy}   (h : X8_read tp cu se sy = some q) {ls : Array Slot} (hl : lv_has ls 7 [(0, .ref (ad 22)), (1, .ref (ad 3)), (2, .ref (ad 4))]) {H : Heap} {locs : List Loc} (hP : va_P D vwCl (GX cy ad tk sp nm tp kp cu se ur ab lo im sy un en ra li i2) H) (hS : va_S (Ac ad 89) s.heap H locs) : W p l e ({ frames := 3, cells := 0, slots := 0, locals := 81 } : Room) s m args below meth c H locs 0 0 (MQ below (QR none D (GX cy ad tk sp nm tp kp q.1 se ur ab lo im q.2 un en ra li i2) (Ac ad 89)) args s 0 0 (Ac ad 89)) (F0 m 0 ls []) := by
  obtain ⟨hx, hb, hml, hown, hts, hr, hlk⟩ := id C
  unfold X8_read at h
  refine lv_aload_n hx hb dX8_read_0 rfl (lv_at hl 0 rfl) ?_
  refine lv_iconst (v := (0 : Int32)) hx hb dX8_read_1 (by decide) ?_
  refine pX22_4 (v := (0 : Int32)) C hI hK hP hS w278 dX8_read_2 (fun H locs hP hS => ?_)
  have hP : va_P D vwCl (GX cy ad tk sp nm tp kp cu se ur ab lo im (sy.1, sy.2.1, sy.2.2.1, sy.2.2.2.1, (0 : Int32)) un en ra li i2) H := hP
  refine lv_aload_n hx hb dX8_read_5 rfl (lv_at hl 2 rfl) ?_
  refine lv_iconst (v := (0 : Int32)) hx hb dX8_read_6 (by decide) ?_
  refine cPi (run_V (rest := []) C (kX7_beginOf rfl) caX7_beginOf w662 ⟨rfl, rfl, Nat.le_of_ble_eq_true rfl, Nat.le_of_ble_eq_true rfl⟩ hK hN hP (rX4 hK hP) rfl hl.1 rfl (Nat.le_of_ble_eq_true rfl) dX8_read_7 ⟨Nat.zero_le _, Nat.zero_le _⟩) ?_
  refine lv_istore_n (lv' := [(3, .int (X7_beginOf se (0 : Int32))), (0, .ref (ad 22)), (1, .ref (ad 3)), (2, .ref (ad 4))]) hx hb dX8_read_10 rfl hl (by decide) rfl (fun ls hl => ?_)
  refine lv_aload_n hx hb dX8_read_11 rfl (lv_at hl 3 rfl) ?_
  refine lv_iconst (v := (0 : Int32)) hx hb dX8_read_12 (by decide) ?_
  refine cPi (run_V (rest := []) C (kX7_stopOf rfl) caX7_stopOf w666 ⟨rfl, rfl, Nat.le_of_ble_eq_true rfl, Nat.le_of_ble_eq_true rfl⟩ hK hN hP (rX4 hK hP) rfl hl.1 rfl (Nat.le_of_ble_eq_true rfl) dX8_read_13 ⟨Nat.zero_le _, Nat.zero_le _⟩) ?_
  refine lv_istore (lv' := [(4, .int (X7_stopOf se (0 : Int32))), (3, .int (X7_beginOf se (0 : Int32))), (0, .ref (ad 22)), (1, .ref (ad 3)), (2, .ref (ad 4))]) hx hb dX8_read_16 hl (by decide) rfl (fun ls hl => ?_)
  refine lv_iload hx hb dX8_read_18 (lv_at hl 0 rfl) ?_
  refine lv_iload_n hx hb dX8_read_20 rfl (lv_at hl 1 rfl) ?_
  refine lv_isub hx hb dX8_read_21 ?_
  refine lv_bipush (v := (24 : Int32)) hx hb dX8_read_22 (by decide) ?_
  refine lv_idiv hx hb dX8_read_24 (by decide) ?_
  refine lv_istore (lv' := [(5, .int (((X7_stopOf se (0 : Int32)) - (X7_beginOf se (0 : Int32))) / (24 : Int32))), (4, .int (X7_stopOf se (0 : Int32))), (3, .int (X7_beginOf se (0 : Int32))), (0, .ref (ad 22)), (1, .ref (ad 3)), (2, .ref (ad 4))]) hx hb dX8_read_25 hl (by decide) rfl (fun ls hl => ?_)
  refine lv_iconst (v := (0 : Int32)) hx hb dX8_read_27 (by decide) ?_
  refine lv_istore (lv' := [(6, .int (0 : Int32)), (5, .int (((X7_stopOf se (0 : Int32)) - (X7_beginOf se (0 : Int32))) / (24 : Int32))), (4, .int (X7_stopOf se (0 : Int32))), (3, .int (X7_beginOf se (0 : Int32))), (0, .ref (ad 22)), (1, .ref (ad 3)), (2, .ref (ad 4))]) hx hb dX8_read_28 hl (by decide) rfl (fun ls hl => ?_)
  exact bX8_read_30 C hI hK hN FU h (lv_sub hl [4, 5, 6, 3, 2, 1, 0] rfl) hP hS
theorem kX8_read (hI : Apart ad 89)  {q : Tcu × Tsy} (h : X8_read tp cu se sy = some q) : Met l yX8_read (.code yX8_read cX8_read 7 none :: WA) ({ frames := 3, cells := 0, slots := 0, locals := 81 } : Room) (va_Pc [.ref (ad 22), .ref (ad 3), .ref (ad 4)] (PR D cy (GX cy ad tk sp nm tp kp cu se ur ab lo im sy un en ra li i2))) (QR none D (GX cy ad tk sp nm tp kp q.1 se ur ab lo im q.2 un en ra li i2) (Ac ad 89)) 0 0 (Ac ad 89) :=
  met_of (by decide) (Nat.le_of_ble_eq_true rfl) (fun p e s m below meth c ls C hP hK hN hl => bX8_read_0 C hI hK hN h hl hP va_S.rf)
def X8_total (sy : Tsy)  : Int32 := sy.2.2.2.2
set_option maxRecDepth 20000 in
theorem bX8_total_0 (C : Cx p s m args meth c cX8_total 1 (some .int) RX8 (.code yX8_total cX8_total 1 (some .int))) (hK : va_K D vwCl (tysX cy) s) (hN : NW s)  {q : Int32}   (h : X8_total sy = q) {ls : Array Slot} (hl : lv_has ls 1 [(0, .ref (ad 22))]) (hP : va_P D vwCl (GX cy ad tk sp nm tp kp cu se ur ab lo im sy un en ra li i2) s.heap) : W p l e ({ frames := 0, cells := 0, slots := 0, locals := 0 } : Room) s m args below meth c s.heap [] 0 0 (MQ below (QP (some (.int q))) args s 0 0 (fun _ => False)) (F0 m 0 ls []) := by
  obtain ⟨hx, hb, hml, hown, hts, hr, hlk⟩ := id C
  unfold X8_total at h
  refine lv_aload_n hx hb dX8_total_0 rfl (lv_at hl 0 rfl) ?_
  refine gX22_4 (v := sy.2.2.2.2) C hK hP rfl w278 dX8_total_1 ?_
  obtain rfl := h
  exact W.iret hx hb hr (fun t ht _ => ⟨rfl, ht⟩) (fun _ h9 => by cases h9) dX8_total_4 hlk
theorem kX8_total   {q : Int32} (h : X8_total sy = q) : Met l yX8_total (.code yX8_total cX8_total 1 (some .int) :: WA) ({ frames := 0, cells := 0, slots := 0, locals := 0 } : Room) (va_Pc [.ref (ad 22)] (PR D cy (GX cy ad tk sp nm tp kp cu se ur ab lo im sy un en ra li i2))) (QP (some (.int q))) 0 0 (fun _ => False) :=
  met_of (by decide) (Nat.le_of_ble_eq_true rfl) (fun p e s m below meth c ls C hP hK hN hl => bX8_total_0 C hK hN h hl hP)
def X8_namePlaceOf (sy : Tsy) (v1 : Int32) : Int32 := (if v1 < 0 then (-1 : Int32) else (if v1 < sy.2.2.2.2 then (at_i 100 sy.2.2.1 v1) else (-1 : Int32)))
set_option maxRecDepth 20000 in
theorem bX8_namePlaceOf_0 (C : Cx p s m args meth c cX8_namePlaceOf 2 (some .int) RX8 (.code yX8_namePlaceOf cX8_namePlaceOf 2 (some .int))) (hK : va_K D vwCl (tysX cy) s) (hN : NW s)  {q : Int32}  {v1 : Int32} (h : X8_namePlaceOf sy v1 = q) {ls : Array Slot} (hl : lv_has ls 2 [(0, .ref (ad 22)), (1, .int v1)]) (hP : va_P D vwCl (GX cy ad tk sp nm tp kp cu se ur ab lo im sy un en ra li i2) s.heap) : W p l e ({ frames := 1, cells := 0, slots := 0, locals := 21 } : Room) s m args below meth c s.heap [] 0 0 (MQ below (QP (some (.int q))) args s 0 0 (fun _ => False)) (F0 m 0 ls []) := by
  obtain ⟨hx, hb, hml, hown, hts, hr, hlk⟩ := id C
  unfold X8_namePlaceOf at h
  refine lv_iload_n hx hb dX8_namePlaceOf_0 rfl (lv_at hl 1 rfl) ?_
  refine lv_if_lt (tgt := 23) hx hb dX8_namePlaceOf_1 (by decide) (fun c1 => ?_) (fun c1 => ?_)
  · rw [if_pos c1] at h
    refine lv_iconst (v := (-1 : Int32)) hx hb dX8_namePlaceOf_23 (by decide) ?_
    obtain rfl := h
    exact W.iret hx hb hr (fun t ht _ => ⟨rfl, ht⟩) (fun _ h9 => by cases h9) dX8_namePlaceOf_24 hlk
  · rw [if_neg c1] at h
    refine lv_iload_n hx hb dX8_namePlaceOf_4 rfl (lv_at hl 1 rfl) ?_
    refine lv_aload_n hx hb dX8_namePlaceOf_5 rfl (lv_at hl 0 rfl) ?_
    refine gX22_4 (v := sy.2.2.2.2) C hK hP rfl w278 dX8_namePlaceOf_6 ?_
    refine b_icmp_ge (tgt := 23) hx hb dX8_namePlaceOf_9 (by decide) (fun c2 => ?_) (fun c2 => ?_)
    · rw [if_neg c2] at h
      refine lv_iconst (v := (-1 : Int32)) hx hb dX8_namePlaceOf_23 (by decide) ?_
      obtain rfl := h
      exact W.iret hx hb hr (fun t ht _ => ⟨rfl, ht⟩) (fun _ h9 => by cases h9) dX8_namePlaceOf_24 hlk
    · rw [if_pos c2] at h
      refine lv_aload_n hx hb dX8_namePlaceOf_12 rfl (lv_at hl 0 rfl) ?_
      refine gX22_2 C hK hP w276 dX8_namePlaceOf_13 ?_
      refine lv_iload_n hx hb dX8_namePlaceOf_16 rfl (lv_at hl 1 rfl) ?_
      refine xat_i (rest := []) C hK hN hP eX25 (Nat.le_of_ble_eq_true rfl) w1284 hl.1 (Nat.le_of_ble_eq_true rfl) dX8_namePlaceOf_17 ⟨Nat.le_of_ble_eq_true rfl, Nat.le_of_ble_eq_true rfl⟩ ⟨Nat.zero_le _, Nat.zero_le _⟩ ?_
      refine lv_goto (tgt := 24) hx hb dX8_namePlaceOf_20 (by decide) ?_
      obtain rfl := h
      exact W.iret hx hb hr (fun t ht _ => ⟨rfl, ht⟩) (fun _ h9 => by cases h9) dX8_namePlaceOf_24 hlk
theorem kX8_namePlaceOf  {v1 : Int32} {q : Int32} (h : X8_namePlaceOf sy v1 = q) : Met l yX8_namePlaceOf (.code yX8_namePlaceOf cX8_namePlaceOf 2 (some .int) :: WA) ({ frames := 1, cells := 0, slots := 0, locals := 21 } : Room) (va_Pc [.ref (ad 22), .int v1] (PR D cy (GX cy ad tk sp nm tp kp cu se ur ab lo im sy un en ra li i2))) (QP (some (.int q))) 0 0 (fun _ => False) :=
  met_of (by decide) (Nat.le_of_ble_eq_true rfl) (fun p e s m below meth c ls C hP hK hN hl => bX8_namePlaceOf_0 C hK hN h hl hP)
def X8_nameLengthOf (sy : Tsy) (v1 : Int32) : Int32 := (if v1 < 0 then (-1 : Int32) else (if v1 < sy.2.2.2.2 then (at_i 100 sy.2.2.2.1 v1) else (-1 : Int32)))
set_option maxRecDepth 20000 in
theorem bX8_nameLengthOf_0 (C : Cx p s m args meth c cX8_nameLengthOf 2 (some .int) RX8 (.code yX8_nameLengthOf cX8_nameLengthOf 2 (some .int))) (hK : va_K D vwCl (tysX cy) s) (hN : NW s)  {q : Int32}  {v1 : Int32} (h : X8_nameLengthOf sy v1 = q) {ls : Array Slot} (hl : lv_has ls 2 [(0, .ref (ad 22)), (1, .int v1)]) (hP : va_P D vwCl (GX cy ad tk sp nm tp kp cu se ur ab lo im sy un en ra li i2) s.heap) : W p l e ({ frames := 1, cells := 0, slots := 0, locals := 21 } : Room) s m args below meth c s.heap [] 0 0 (MQ below (QP (some (.int q))) args s 0 0 (fun _ => False)) (F0 m 0 ls []) := by
  obtain ⟨hx, hb, hml, hown, hts, hr, hlk⟩ := id C
  unfold X8_nameLengthOf at h
  refine lv_iload_n hx hb dX8_nameLengthOf_0 rfl (lv_at hl 1 rfl) ?_
  refine lv_if_lt (tgt := 23) hx hb dX8_nameLengthOf_1 (by decide) (fun c1 => ?_) (fun c1 => ?_)
  · rw [if_pos c1] at h
    refine lv_iconst (v := (-1 : Int32)) hx hb dX8_nameLengthOf_23 (by decide) ?_
    obtain rfl := h
    exact W.iret hx hb hr (fun t ht _ => ⟨rfl, ht⟩) (fun _ h9 => by cases h9) dX8_nameLengthOf_24 hlk
  · rw [if_neg c1] at h
    refine lv_iload_n hx hb dX8_nameLengthOf_4 rfl (lv_at hl 1 rfl) ?_
    refine lv_aload_n hx hb dX8_nameLengthOf_5 rfl (lv_at hl 0 rfl) ?_
    refine gX22_4 (v := sy.2.2.2.2) C hK hP rfl w278 dX8_nameLengthOf_6 ?_
    refine b_icmp_ge (tgt := 23) hx hb dX8_nameLengthOf_9 (by decide) (fun c2 => ?_) (fun c2 => ?_)
    · rw [if_neg c2] at h
      refine lv_iconst (v := (-1 : Int32)) hx hb dX8_nameLengthOf_23 (by decide) ?_
      obtain rfl := h
      exact W.iret hx hb hr (fun t ht _ => ⟨rfl, ht⟩) (fun _ h9 => by cases h9) dX8_nameLengthOf_24 hlk
    · rw [if_pos c2] at h
      refine lv_aload_n hx hb dX8_nameLengthOf_12 rfl (lv_at hl 0 rfl) ?_
      refine gX22_3 C hK hP w277 dX8_nameLengthOf_13 ?_
      refine lv_iload_n hx hb dX8_nameLengthOf_16 rfl (lv_at hl 1 rfl) ?_
      refine xat_i (rest := []) C hK hN hP eX26 (Nat.le_of_ble_eq_true rfl) w1284 hl.1 (Nat.le_of_ble_eq_true rfl) dX8_nameLengthOf_17 ⟨Nat.le_of_ble_eq_true rfl, Nat.le_of_ble_eq_true rfl⟩ ⟨Nat.zero_le _, Nat.zero_le _⟩ ?_
      refine lv_goto (tgt := 24) hx hb dX8_nameLengthOf_20 (by decide) ?_
      obtain rfl := h
      exact W.iret hx hb hr (fun t ht _ => ⟨rfl, ht⟩) (fun _ h9 => by cases h9) dX8_nameLengthOf_24 hlk
theorem kX8_nameLengthOf  {v1 : Int32} {q : Int32} (h : X8_nameLengthOf sy v1 = q) : Met l yX8_nameLengthOf (.code yX8_nameLengthOf cX8_nameLengthOf 2 (some .int) :: WA) ({ frames := 1, cells := 0, slots := 0, locals := 21 } : Room) (va_Pc [.ref (ad 22), .int v1] (PR D cy (GX cy ad tk sp nm tp kp cu se ur ab lo im sy un en ra li i2))) (QP (some (.int q))) 0 0 (fun _ => False) :=
  met_of (by decide) (Nat.le_of_ble_eq_true rfl) (fun p e s m below meth c ls C hP hK hN hl => bX8_nameLengthOf_0 C hK hN h hl hP)
def X10_add (un : Tun) (v1 : Int32) (v2 : Int32) : Int32 × Tun := (if un.2.2.2.2.2.2.1 < (20 : Int32) then (((un.2.2.2.2.2.2.1 + (1 : Int32)) - (1 : Int32)), ((put_i 20 un.1 un.2.2.2.2.2.2.1 v1), (put_i 20 un.2.1 un.2.2.2.2.2.2.1 v2), (put_i 20 un.2.2.1 un.2.2.2.2.2.2.1 (0 : Int32)), (put_i 20 un.2.2.2.1 un.2.2.2.2.2.2.1 (0 : Int32)), un.2.2.2.2.1, un.2.2.2.2.2.1, (un.2.2.2.2.2.2.1 + (1 : Int32)), un.2.2.2.2.2.2.2)) else ((-1 : Int32), un))
set_option maxRecDepth 20000 in
theorem bX10_add_0 (C : Cx p s m args meth c cX10_add 3 (some .int) RX10 (.code yX10_add cX10_add 3 (some .int))) (hI : Apart ad 89) (hK : va_K D vwCl (tysX cy) s) (hN : NW s)  {q : Int32 × Tun}  {v1 : Int32} {v2 : Int32} (h : X10_add un v1 v2 = q) {ls : Array Slot} (hl : lv_has ls 3 [(0, .ref (ad 27)), (1, .int v1), (2, .int v2)]) {H : Heap} {locs : List Loc} (hP : va_P D vwCl (GX cy ad tk sp nm tp kp cu se ur ab lo im sy un en ra li i2) H) (hS : va_S (Ac ad 89) s.heap H locs) : W p l e ({ frames := 1, cells := 0, slots := 0, locals := 22 } : Room) s m args below meth c H locs 0 0 (MQ below (QR (some (.int q.1)) D (GX cy ad tk sp nm tp kp cu se ur ab lo im sy q.2 en ra li i2) (Ac ad 89)) args s 0 0 (Ac ad 89)) (F0 m 0 ls []) := by
  obtain ⟨hx, hb, hml, hown, hts, hr, hlk⟩ := id C
  unfold X10_add at h
  refine lv_aload_n hx hb dX10_add_0 rfl (lv_at hl 0 rfl) ?_
  refine gX27_6 (v := un.2.2.2.2.2.2.1) C hK hP rfl w302 dX10_add_1 ?_
  refine lv_bipush (v := (20 : Int32)) hx hb dX10_add_4 (by decide) ?_
  refine lv_icmp_lt (tgt := 11) hx hb dX10_add_6 (by decide) (fun c1 => ?_) (fun c1 => ?_)
  · rw [if_pos c1] at h
    refine lv_aload_n hx hb dX10_add_11 rfl (lv_at hl 0 rfl) ?_
    refine gX27_0 C hK hP w296 dX10_add_12 ?_
    refine lv_aload_n hx hb dX10_add_15 rfl (lv_at hl 0 rfl) ?_
    refine gX27_6 (v := un.2.2.2.2.2.2.1) C hK hP rfl w302 dX10_add_16 ?_
    refine lv_iload_n hx hb dX10_add_19 rfl (lv_at hl 1 rfl) ?_
    refine xput_i (rest := []) C hK hN hP (GX_D hI) hS eX28 (Nat.le_of_ble_eq_true rfl) w750 hl.1 (Nat.le_of_ble_eq_true rfl) dX10_add_20 ⟨Nat.le_of_ble_eq_true rfl, Nat.le_of_ble_eq_true rfl⟩ ⟨Nat.zero_le _, Nat.zero_le _⟩ (fun H locs hP hS => ?_)
    have hP : va_P D vwCl (GX cy ad tk sp nm tp kp cu se ur ab lo im sy ((put_i 20 un.1 un.2.2.2.2.2.2.1 v1), un.2.1, un.2.2.1, un.2.2.2.1, un.2.2.2.2.1, un.2.2.2.2.2.1, un.2.2.2.2.2.2.1, un.2.2.2.2.2.2.2) en ra li i2) H := hP
    refine lv_aload_n hx hb dX10_add_23 rfl (lv_at hl 0 rfl) ?_
    refine gX27_1 C hK hP w297 dX10_add_24 ?_
    refine lv_aload_n hx hb dX10_add_27 rfl (lv_at hl 0 rfl) ?_
    refine gX27_6 (v := un.2.2.2.2.2.2.1) C hK hP rfl w302 dX10_add_28 ?_
    refine lv_iload_n hx hb dX10_add_31 rfl (lv_at hl 2 rfl) ?_
    refine xput_i (rest := []) C hK hN hP (GX_D hI) hS eX29 (Nat.le_of_ble_eq_true rfl) w750 hl.1 (Nat.le_of_ble_eq_true rfl) dX10_add_32 ⟨Nat.le_of_ble_eq_true rfl, Nat.le_of_ble_eq_true rfl⟩ ⟨Nat.zero_le _, Nat.zero_le _⟩ (fun H locs hP hS => ?_)
    have hP : va_P D vwCl (GX cy ad tk sp nm tp kp cu se ur ab lo im sy ((put_i 20 un.1 un.2.2.2.2.2.2.1 v1), (put_i 20 un.2.1 un.2.2.2.2.2.2.1 v2), un.2.2.1, un.2.2.2.1, un.2.2.2.2.1, un.2.2.2.2.2.1, un.2.2.2.2.2.2.1, un.2.2.2.2.2.2.2) en ra li i2) H := hP
    refine lv_aload_n hx hb dX10_add_35 rfl (lv_at hl 0 rfl) ?_
    refine gX27_2 C hK hP w298 dX10_add_36 ?_
    refine lv_aload_n hx hb dX10_add_39 rfl (lv_at hl 0 rfl) ?_
    refine gX27_6 (v := un.2.2.2.2.2.2.1) C hK hP rfl w302 dX10_add_40 ?_
    refine lv_iconst (v := (0 : Int32)) hx hb dX10_add_43 (by decide) ?_
    refine xput_i (rest := []) C hK hN hP (GX_D hI) hS eX30 (Nat.le_of_ble_eq_true rfl) w750 hl.1 (Nat.le_of_ble_eq_true rfl) dX10_add_44 ⟨Nat.le_of_ble_eq_true rfl, Nat.le_of_ble_eq_true rfl⟩ ⟨Nat.zero_le _, Nat.zero_le _⟩ (fun H locs hP hS => ?_)
    have hP : va_P D vwCl (GX cy ad tk sp nm tp kp cu se ur ab lo im sy ((put_i 20 un.1 un.2.2.2.2.2.2.1 v1), (put_i 20 un.2.1 un.2.2.2.2.2.2.1 v2), (put_i 20 un.2.2.1 un.2.2.2.2.2.2.1 (0 : Int32)), un.2.2.2.1, un.2.2.2.2.1, un.2.2.2.2.2.1, un.2.2.2.2.2.2.1, un.2.2.2.2.2.2.2) en ra li i2) H := hP
    refine lv_aload_n hx hb dX10_add_47 rfl (lv_at hl 0 rfl) ?_
    refine gX27_3 C hK hP w299 dX10_add_48 ?_
    refine lv_aload_n hx hb dX10_add_51 rfl (lv_at hl 0 rfl) ?_
    refine gX27_6 (v := un.2.2.2.2.2.2.1) C hK hP rfl w302 dX10_add_52 ?_
    refine lv_iconst (v := (0 : Int32)) hx hb dX10_add_55 (by decide) ?_
    refine xput_i (rest := []) C hK hN hP (GX_D hI) hS eX31 (Nat.le_of_ble_eq_true rfl) w750 hl.1 (Nat.le_of_ble_eq_true rfl) dX10_add_56 ⟨Nat.le_of_ble_eq_true rfl, Nat.le_of_ble_eq_true rfl⟩ ⟨Nat.zero_le _, Nat.zero_le _⟩ (fun H locs hP hS => ?_)
    have hP : va_P D vwCl (GX cy ad tk sp nm tp kp cu se ur ab lo im sy ((put_i 20 un.1 un.2.2.2.2.2.2.1 v1), (put_i 20 un.2.1 un.2.2.2.2.2.2.1 v2), (put_i 20 un.2.2.1 un.2.2.2.2.2.2.1 (0 : Int32)), (put_i 20 un.2.2.2.1 un.2.2.2.2.2.2.1 (0 : Int32)), un.2.2.2.2.1, un.2.2.2.2.2.1, un.2.2.2.2.2.2.1, un.2.2.2.2.2.2.2) en ra li i2) H := hP
    refine lv_aload_n hx hb dX10_add_59 rfl (lv_at hl 0 rfl) ?_
    refine lv_dup hx hb dX10_add_60 rfl ?_
    refine gX27_6 (v := un.2.2.2.2.2.2.1) C hK hP rfl w302 dX10_add_61 ?_
    refine lv_iconst (v := (1 : Int32)) hx hb dX10_add_64 (by decide) ?_
    refine lv_iadd hx hb dX10_add_65 ?_
    refine pX27_6 (v := (un.2.2.2.2.2.2.1 + (1 : Int32))) C hI hK hP hS w302 dX10_add_66 (fun H locs hP hS => ?_)
    have hP : va_P D vwCl (GX cy ad tk sp nm tp kp cu se ur ab lo im sy ((put_i 20 un.1 un.2.2.2.2.2.2.1 v1), (put_i 20 un.2.1 un.2.2.2.2.2.2.1 v2), (put_i 20 un.2.2.1 un.2.2.2.2.2.2.1 (0 : Int32)), (put_i 20 un.2.2.2.1 un.2.2.2.2.2.2.1 (0 : Int32)), un.2.2.2.2.1, un.2.2.2.2.2.1, (un.2.2.2.2.2.2.1 + (1 : Int32)), un.2.2.2.2.2.2.2) en ra li i2) H := hP
    refine lv_aload_n hx hb dX10_add_69 rfl (lv_at hl 0 rfl) ?_
    refine gX27_6 (v := (un.2.2.2.2.2.2.1 + (1 : Int32))) C hK hP rfl w302 dX10_add_70 ?_
    refine lv_iconst (v := (1 : Int32)) hx hb dX10_add_73 (by decide) ?_
    refine lv_isub hx hb dX10_add_74 ?_
    obtain rfl := h
    exact W.iret hx hb hr (fun t ht _ => ⟨rfl, by rw [ht]; exact hP, hS.F ht⟩) hS.2.2 dX10_add_75 hlk
  · rw [if_neg c1] at h
    refine lv_iconst (v := (-1 : Int32)) hx hb dX10_add_9 (by decide) ?_
    obtain rfl := h
    exact W.iret hx hb hr (fun t ht _ => ⟨rfl, by rw [ht]; exact hP, hS.F ht⟩) hS.2.2 dX10_add_10 hlk
theorem kX10_add (hI : Apart ad 89) {v1 : Int32} {v2 : Int32} {q : Int32 × Tun} (h : X10_add un v1 v2 = q) : Met l yX10_add (.code yX10_add cX10_add 3 (some .int) :: WA) ({ frames := 1, cells := 0, slots := 0, locals := 22 } : Room) (va_Pc [.ref (ad 27), .int v1, .int v2] (PR D cy (GX cy ad tk sp nm tp kp cu se ur ab lo im sy un en ra li i2))) (QR (some (.int q.1)) D (GX cy ad tk sp nm tp kp cu se ur ab lo im sy q.2 en ra li i2) (Ac ad 89)) 0 0 (Ac ad 89) :=
  met_of (by decide) (Nat.le_of_ble_eq_true rfl) (fun p e s m below meth c ls C hP hK hN hl => bX10_add_0 C hI hK hN h hl hP va_S.rf)
def X10_clear (un : Tun)  : Tun := (un.1, un.2.1, un.2.2.1, un.2.2.2.1, un.2.2.2.2.1, un.2.2.2.2.2.1, (0 : Int32), (0 : Int32))
set_option maxRecDepth 20000 in
theorem bX10_clear_0 (C : Cx p s m args meth c cX10_clear 1 none RX10 (.code yX10_clear cX10_clear 1 none)) (hI : Apart ad 89) (hK : va_K D vwCl (tysX cy) s) (hN : NW s)  {q : Tun}   (h : X10_clear un = q) {ls : Array Slot} (hl : lv_has ls 1 [(0, .ref (ad 27))]) {H : Heap} {locs : List Loc} (hP : va_P D vwCl (GX cy ad tk sp nm tp kp cu se ur ab lo im sy un en ra li i2) H) (hS : va_S (Ac ad 89) s.heap H locs) : W p l e ({ frames := 0, cells := 0, slots := 0, locals := 0 } : Room) s m args below meth c H locs 0 0 (MQ below (QR none D (GX cy ad tk sp nm tp kp cu se ur ab lo im sy q en ra li i2) (Ac ad 89)) args s 0 0 (Ac ad 89)) (F0 m 0 ls []) := by
  obtain ⟨hx, hb, hml, hown, hts, hr, hlk⟩ := id C
  unfold X10_clear at h
  refine lv_aload_n hx hb dX10_clear_0 rfl (lv_at hl 0 rfl) ?_
  refine lv_iconst (v := (0 : Int32)) hx hb dX10_clear_1 (by decide) ?_
  refine pX27_6 (v := (0 : Int32)) C hI hK hP hS w302 dX10_clear_2 (fun H locs hP hS => ?_)
  have hP : va_P D vwCl (GX cy ad tk sp nm tp kp cu se ur ab lo im sy (un.1, un.2.1, un.2.2.1, un.2.2.2.1, un.2.2.2.2.1, un.2.2.2.2.2.1, (0 : Int32), un.2.2.2.2.2.2.2) en ra li i2) H := hP
  refine lv_aload_n hx hb dX10_clear_5 rfl (lv_at hl 0 rfl) ?_
  refine lv_iconst (v := (0 : Int32)) hx hb dX10_clear_6 (by decide) ?_
  refine pX27_7 (v := (0 : Int32)) C hI hK hP hS w303 dX10_clear_7 (fun H locs hP hS => ?_)
  have hP : va_P D vwCl (GX cy ad tk sp nm tp kp cu se ur ab lo im sy (un.1, un.2.1, un.2.2.1, un.2.2.2.1, un.2.2.2.2.1, un.2.2.2.2.2.1, (0 : Int32), (0 : Int32)) en ra li i2) H := hP
  obtain rfl := h
  exact W.vret hx hb hr (fun t ht _ => ⟨rfl, by rw [ht]; exact hP, hS.F ht⟩) hS.2.2 dX10_clear_10 hlk
theorem kX10_clear (hI : Apart ad 89)  {q : Tun} (h : X10_clear un = q) : Met l yX10_clear (.code yX10_clear cX10_clear 1 none :: WA) ({ frames := 0, cells := 0, slots := 0, locals := 0 } : Room) (va_Pc [.ref (ad 27)] (PR D cy (GX cy ad tk sp nm tp kp cu se ur ab lo im sy un en ra li i2))) (QR none D (GX cy ad tk sp nm tp kp cu se ur ab lo im sy q en ra li i2) (Ac ad 89)) 0 0 (Ac ad 89) :=
  met_of (by decide) (Nat.le_of_ble_eq_true rfl) (fun p e s m below meth c ls C hP hK hN hl => bX10_clear_0 C hI hK hN h hl hP va_S.rf)
def X9_isCountForm_35     : Int32 := (1 : Int32)
set_option maxRecDepth 20000 in
theorem bX9_isCountForm_35 (C : Cx p s m args meth c cX9_isCountForm 1 (some .boolean) RX9 (.code yX9_isCountForm cX9_isCountForm 1 (some .boolean))) (hK : va_K D vwCl (tysX cy) s) (hN : NW s)  {q : Int32}   (h : X9_isCountForm_35 = q) {ls : Array Slot} (hl : lv_has ls 1 []) (hP : va_P D vwCl (GX cy ad tk sp nm tp kp cu se ur ab lo im sy un en ra li i2) s.heap) : W p l e ({ frames := 0, cells := 0, slots := 0, locals := 0 } : Room) s m args below meth c s.heap [] 0 0 (MQ below (QP (some (.int q))) args s 0 0 (fun _ => False)) (F0 m 35 ls []) := by
  obtain ⟨hx, hb, hml, hown, hts, hr, hlk⟩ := id C
  unfold X9_isCountForm_35 at h
  refine lv_iconst (v := (1 : Int32)) hx hb dX9_isCountForm_35 (by decide) ?_
  refine lv_goto (tgt := 40) hx hb dX9_isCountForm_36 (by decide) ?_
  obtain rfl := h
  exact W.zret (ty := .boolean) hx hb hr (by decide) (fun t ht _ => ⟨rfl, ht⟩) (fun _ h9 => by cases h9) dX9_isCountForm_40 hlk
def X9_isCountForm  (v0 : Int32) : Int32 := (if v0 = (11 : Int32) then X9_isCountForm_35 else (if v0 = (5 : Int32) then X9_isCountForm_35 else (if v0 = (6 : Int32) then X9_isCountForm_35 else (if v0 = (7 : Int32) then X9_isCountForm_35 else (if v0 = (15 : Int32) then X9_isCountForm_35 else (if v0 = (33 : Int32) then X9_isCountForm_35 else (0 : Int32)))))))
set_option maxRecDepth 20000 in
theorem bX9_isCountForm_0 (C : Cx p s m args meth c cX9_isCountForm 1 (some .boolean) RX9 (.code yX9_isCountForm cX9_isCountForm 1 (some .boolean))) (hK : va_K D vwCl (tysX cy) s) (hN : NW s)  {q : Int32}  {v0 : Int32} (h : X9_isCountForm v0 = q) {ls : Array Slot} (hl : lv_has ls 1 [(0, .int v0)]) (hP : va_P D vwCl (GX cy ad tk sp nm tp kp cu se ur ab lo im sy un en ra li i2) s.heap) : W p l e ({ frames := 0, cells := 0, slots := 0, locals := 0 } : Room) s m args below meth c s.heap [] 0 0 (MQ below (QP (some (.int q))) args s 0 0 (fun _ => False)) (F0 m 0 ls []) := by
  obtain ⟨hx, hb, hml, hown, hts, hr, hlk⟩ := id C
  unfold X9_isCountForm at h
  refine lv_iload_n hx hb dX9_isCountForm_0 rfl (lv_at hl 0 rfl) ?_
  refine lv_bipush (v := (11 : Int32)) hx hb dX9_isCountForm_1 (by decide) ?_
  refine lv_icmp_eq (tgt := 35) hx hb dX9_isCountForm_3 (by decide) (fun c1 => ?_) (fun c1 => ?_)
  · rw [if_pos c1] at h
    exact bX9_isCountForm_35 C hK hN h (lv_sub hl [] rfl) hP
  · rw [if_neg c1] at h
    refine lv_iload_n hx hb dX9_isCountForm_6 rfl (lv_at hl 0 rfl) ?_
    refine lv_iconst (v := (5 : Int32)) hx hb dX9_isCountForm_7 (by decide) ?_
    refine lv_icmp_eq (tgt := 35) hx hb dX9_isCountForm_8 (by decide) (fun c2 => ?_) (fun c2 => ?_)
    · rw [if_pos c2] at h
      exact bX9_isCountForm_35 C hK hN h (lv_sub hl [] rfl) hP
    · rw [if_neg c2] at h
      refine lv_iload_n hx hb dX9_isCountForm_11 rfl (lv_at hl 0 rfl) ?_
      refine lv_bipush (v := (6 : Int32)) hx hb dX9_isCountForm_12 (by decide) ?_
      refine lv_icmp_eq (tgt := 35) hx hb dX9_isCountForm_14 (by decide) (fun c3 => ?_) (fun c3 => ?_)
      · rw [if_pos c3] at h
        exact bX9_isCountForm_35 C hK hN h (lv_sub hl [] rfl) hP
      · rw [if_neg c3] at h
        refine lv_iload_n hx hb dX9_isCountForm_17 rfl (lv_at hl 0 rfl) ?_
        refine lv_bipush (v := (7 : Int32)) hx hb dX9_isCountForm_18 (by decide) ?_
        refine lv_icmp_eq (tgt := 35) hx hb dX9_isCountForm_20 (by decide) (fun c4 => ?_) (fun c4 => ?_)
        · rw [if_pos c4] at h
          exact bX9_isCountForm_35 C hK hN h (lv_sub hl [] rfl) hP
        · rw [if_neg c4] at h
          refine lv_iload_n hx hb dX9_isCountForm_23 rfl (lv_at hl 0 rfl) ?_
          refine lv_bipush (v := (15 : Int32)) hx hb dX9_isCountForm_24 (by decide) ?_
          refine lv_icmp_eq (tgt := 35) hx hb dX9_isCountForm_26 (by decide) (fun c5 => ?_) (fun c5 => ?_)
          · rw [if_pos c5] at h
            exact bX9_isCountForm_35 C hK hN h (lv_sub hl [] rfl) hP
          · rw [if_neg c5] at h
            refine lv_iload_n hx hb dX9_isCountForm_29 rfl (lv_at hl 0 rfl) ?_
            refine lv_bipush (v := (33 : Int32)) hx hb dX9_isCountForm_30 (by decide) ?_
            refine lv_icmp_ne (tgt := 39) hx hb dX9_isCountForm_32 (by decide) (fun c6 => ?_) (fun c6 => ?_)
            · rw [if_neg c6] at h
              refine lv_iconst (v := (0 : Int32)) hx hb dX9_isCountForm_39 (by decide) ?_
              obtain rfl := h
              exact W.zret (ty := .boolean) hx hb hr (by decide) (fun t ht _ => ⟨rfl, ht⟩) (fun _ h9 => by cases h9) dX9_isCountForm_40 hlk
            · rw [if_pos c6] at h
              exact bX9_isCountForm_35 C hK hN h (lv_sub hl [] rfl) hP
theorem kX9_isCountForm  {v0 : Int32} {q : Int32} (h : X9_isCountForm v0 = q) : Met l yX9_isCountForm (.code yX9_isCountForm cX9_isCountForm 1 (some .boolean) :: WA) ({ frames := 0, cells := 0, slots := 0, locals := 0 } : Room) (va_Pc [.int v0] (PR D cy (GX cy ad tk sp nm tp kp cu se ur ab lo im sy un en ra li i2))) (QP (some (.int q))) 0 0 (fun _ => False) :=
  met_of (by decide) (Nat.le_of_ble_eq_true rfl) (fun p e s m below meth c ls C hP hK hN hl => bX9_isCountForm_0 C hK hN h hl hP)
def X9_columnOf_103    (v0 : Int64) (v2 : Int32) : Int32 := (if (X9_isCountForm v2) = 0 then (-1 : Int32) else (if v0 = (89 : Int64) then (8 : Int32) else (-1 : Int32)))
set_option maxRecDepth 20000 in
theorem bX9_columnOf_103 (C : Cx p s m args meth c cX9_columnOf 3 (some .int) RX9 (.code yX9_columnOf cX9_columnOf 3 (some .int))) (hK : va_K D vwCl (tysX cy) s) (hN : NW s)  {q : Int32}  {v0 : Int64} {v2 : Int32} (h : X9_columnOf_103 v0 v2 = q) {ls : Array Slot} (hl : lv_has ls 3 [(0, .long v0), (2, .int v2)]) (hP : va_P D vwCl (GX cy ad tk sp nm tp kp cu se ur ab lo im sy un en ra li i2) s.heap) : W p l e ({ frames := 1, cells := 0, slots := 0, locals := 20 } : Room) s m args below meth c s.heap [] 0 0 (MQ below (QP (some (.int q))) args s 0 0 (fun _ => False)) (F0 m 103 ls []) := by
  obtain ⟨hx, hb, hml, hown, hts, hr, hlk⟩ := id C
  unfold X9_columnOf_103 at h
  refine lv_iload_n hx hb dX9_columnOf_103 rfl (lv_at hl 1 rfl) ?_
  refine cPi (run_S (rest := []) C (kX9_isCountForm rfl) caX9_isCountForm w885 ⟨rfl, rfl, Nat.le_of_ble_eq_true rfl, Nat.le_of_ble_eq_true rfl⟩ hK hN hP rfl hl.1 rfl (Nat.le_of_ble_eq_true rfl) dX9_columnOf_104 ⟨Nat.zero_le _, Nat.zero_le _⟩) ?_
  refine lv_if_eq (tgt := 123) hx hb dX9_columnOf_107 (by decide) (fun c1 => ?_) (fun c1 => ?_)
  · rw [if_pos c1] at h
    refine lv_iconst (v := (-1 : Int32)) hx hb dX9_columnOf_123 (by decide) ?_
    obtain rfl := h
    exact W.iret hx hb hr (fun t ht _ => ⟨rfl, ht⟩) (fun _ h9 => by cases h9) dX9_columnOf_124 hlk
  · rw [if_neg c1] at h
    refine lv_lload_n hx hb dX9_columnOf_110 rfl (lv_at hl 0 rfl) ?_
    refine lv_ldc2 (v := (89 : Int64)) hx hb hown (hts _ (List.mem_cons_of_mem _ w897)) dX9_columnOf_111 ?_
    refine lc_ne (tgt := 123) hx hb dX9_columnOf_114 dX9_columnOf_115 (by decide) (fun c2 => ?_) (fun c2 => ?_)
    · rw [if_neg c2] at h
      refine lv_iconst (v := (-1 : Int32)) hx hb dX9_columnOf_123 (by decide) ?_
      obtain rfl := h
      exact W.iret hx hb hr (fun t ht _ => ⟨rfl, ht⟩) (fun _ h9 => by cases h9) dX9_columnOf_124 hlk
    · rw [if_pos c2] at h
      refine lv_bipush (v := (8 : Int32)) hx hb dX9_columnOf_118 (by decide) ?_
      refine lv_goto (tgt := 124) hx hb dX9_columnOf_120 (by decide) ?_
      obtain rfl := h
      exact W.iret hx hb hr (fun t ht _ => ⟨rfl, ht⟩) (fun _ h9 => by cases h9) dX9_columnOf_124 hlk
def X9_columnOf_85    (v0 : Int64) (v2 : Int32) : Int32 := (if (X9_isCountForm v2) = 0 then X9_columnOf_103 v0 v2 else (if v0 = (88 : Int64) then (7 : Int32) else X9_columnOf_103 v0 v2))
set_option maxRecDepth 20000 in
theorem bX9_columnOf_85 (C : Cx p s m args meth c cX9_columnOf 3 (some .int) RX9 (.code yX9_columnOf cX9_columnOf 3 (some .int))) (hK : va_K D vwCl (tysX cy) s) (hN : NW s)  {q : Int32}  {v0 : Int64} {v2 : Int32} (h : X9_columnOf_85 v0 v2 = q) {ls : Array Slot} (hl : lv_has ls 3 [(0, .long v0), (2, .int v2)]) (hP : va_P D vwCl (GX cy ad tk sp nm tp kp cu se ur ab lo im sy un en ra li i2) s.heap) : W p l e ({ frames := 1, cells := 0, slots := 0, locals := 20 } : Room) s m args below meth c s.heap [] 0 0 (MQ below (QP (some (.int q))) args s 0 0 (fun _ => False)) (F0 m 85 ls []) := by
  obtain ⟨hx, hb, hml, hown, hts, hr, hlk⟩ := id C
  unfold X9_columnOf_85 at h
  refine lv_iload_n hx hb dX9_columnOf_85 rfl (lv_at hl 1 rfl) ?_
  refine cPi (run_S (rest := []) C (kX9_isCountForm rfl) caX9_isCountForm w885 ⟨rfl, rfl, Nat.le_of_ble_eq_true rfl, Nat.le_of_ble_eq_true rfl⟩ hK hN hP rfl hl.1 rfl (Nat.le_of_ble_eq_true rfl) dX9_columnOf_86 ⟨Nat.zero_le _, Nat.zero_le _⟩) ?_
  refine lv_if_eq (tgt := 103) hx hb dX9_columnOf_89 (by decide) (fun c1 => ?_) (fun c1 => ?_)
  · rw [if_pos c1] at h
    exact bX9_columnOf_103 C hK hN h (lv_sub hl [0, 1] rfl) hP
  · rw [if_neg c1] at h
    refine lv_lload_n hx hb dX9_columnOf_92 rfl (lv_at hl 0 rfl) ?_
    refine lv_ldc2 (v := (88 : Int64)) hx hb hown (hts _ (List.mem_cons_of_mem _ w896)) dX9_columnOf_93 ?_
    refine lc_ne (tgt := 103) hx hb dX9_columnOf_96 dX9_columnOf_97 (by decide) (fun c2 => ?_) (fun c2 => ?_)
    · rw [if_neg c2] at h
      exact bX9_columnOf_103 C hK hN h (lv_sub hl [0, 1] rfl) hP
    · rw [if_pos c2] at h
      refine lv_bipush (v := (7 : Int32)) hx hb dX9_columnOf_100 (by decide) ?_
      obtain rfl := h
      exact W.iret hx hb hr (fun t ht _ => ⟨rfl, ht⟩) (fun _ h9 => by cases h9) dX9_columnOf_102 hlk
def X9_columnOf_68    (v0 : Int64) (v2 : Int32) : Int32 := (if v2 = (23 : Int32) then (if v0 = (16 : Int64) then (9 : Int32) else X9_columnOf_85 v0 v2) else X9_columnOf_85 v0 v2)
set_option maxRecDepth 20000 in
theorem bX9_columnOf_68 (C : Cx p s m args meth c cX9_columnOf 3 (some .int) RX9 (.code yX9_columnOf cX9_columnOf 3 (some .int))) (hK : va_K D vwCl (tysX cy) s) (hN : NW s)  {q : Int32}  {v0 : Int64} {v2 : Int32} (h : X9_columnOf_68 v0 v2 = q) {ls : Array Slot} (hl : lv_has ls 3 [(0, .long v0), (2, .int v2)]) (hP : va_P D vwCl (GX cy ad tk sp nm tp kp cu se ur ab lo im sy un en ra li i2) s.heap) : W p l e ({ frames := 1, cells := 0, slots := 0, locals := 20 } : Room) s m args below meth c s.heap [] 0 0 (MQ below (QP (some (.int q))) args s 0 0 (fun _ => False)) (F0 m 68 ls []) := by
  obtain ⟨hx, hb, hml, hown, hts, hr, hlk⟩ := id C
  unfold X9_columnOf_68 at h
  refine lv_iload_n hx hb dX9_columnOf_68 rfl (lv_at hl 1 rfl) ?_
  refine lv_bipush (v := (23 : Int32)) hx hb dX9_columnOf_69 (by decide) ?_
  refine lv_icmp_ne (tgt := 85) hx hb dX9_columnOf_71 (by decide) (fun c1 => ?_) (fun c1 => ?_)
  · rw [if_neg c1] at h
    exact bX9_columnOf_85 C hK hN h (lv_sub hl [0, 1] rfl) hP
  · rw [if_pos c1] at h
    refine lv_lload_n hx hb dX9_columnOf_74 rfl (lv_at hl 0 rfl) ?_
    refine lv_ldc2 (v := (16 : Int64)) hx hb hown (hts _ (List.mem_cons_of_mem _ w895)) dX9_columnOf_75 ?_
    refine lc_ne (tgt := 85) hx hb dX9_columnOf_78 dX9_columnOf_79 (by decide) (fun c2 => ?_) (fun c2 => ?_)
    · rw [if_neg c2] at h
      exact bX9_columnOf_85 C hK hN h (lv_sub hl [0, 1] rfl) hP
    · rw [if_pos c2] at h
      refine lv_bipush (v := (9 : Int32)) hx hb dX9_columnOf_82 (by decide) ?_
      obtain rfl := h
      exact W.iret hx hb hr (fun t ht _ => ⟨rfl, ht⟩) (fun _ h9 => by cases h9) dX9_columnOf_84 hlk
def X9_columnOf_52    (v0 : Int64) (v2 : Int32) : Int32 := (if v2 = (23 : Int32) then (if v0 = (85 : Int64) then (4 : Int32) else X9_columnOf_68 v0 v2) else X9_columnOf_68 v0 v2)
set_option maxRecDepth 20000 in
theorem bX9_columnOf_52 (C : Cx p s m args meth c cX9_columnOf 3 (some .int) RX9 (.code yX9_columnOf cX9_columnOf 3 (some .int))) (hK : va_K D vwCl (tysX cy) s) (hN : NW s)  {q : Int32}  {v0 : Int64} {v2 : Int32} (h : X9_columnOf_52 v0 v2 = q) {ls : Array Slot} (hl : lv_has ls 3 [(0, .long v0), (2, .int v2)]) (hP : va_P D vwCl (GX cy ad tk sp nm tp kp cu se ur ab lo im sy un en ra li i2) s.heap) : W p l e ({ frames := 1, cells := 0, slots := 0, locals := 20 } : Room) s m args below meth c s.heap [] 0 0 (MQ below (QP (some (.int q))) args s 0 0 (fun _ => False)) (F0 m 52 ls []) := by
  obtain ⟨hx, hb, hml, hown, hts, hr, hlk⟩ := id C
  unfold X9_columnOf_52 at h
  refine lv_iload_n hx hb dX9_columnOf_52 rfl (lv_at hl 1 rfl) ?_
  refine lv_bipush (v := (23 : Int32)) hx hb dX9_columnOf_53 (by decide) ?_
  refine lv_icmp_ne (tgt := 68) hx hb dX9_columnOf_55 (by decide) (fun c1 => ?_) (fun c1 => ?_)
  · rw [if_neg c1] at h
    exact bX9_columnOf_68 C hK hN h (lv_sub hl [0, 1] rfl) hP
  · rw [if_pos c1] at h
    refine lv_lload_n hx hb dX9_columnOf_58 rfl (lv_at hl 0 rfl) ?_
    refine lv_ldc2 (v := (85 : Int64)) hx hb hown (hts _ (List.mem_cons_of_mem _ w894)) dX9_columnOf_59 ?_
    refine lc_ne (tgt := 68) hx hb dX9_columnOf_62 dX9_columnOf_63 (by decide) (fun c2 => ?_) (fun c2 => ?_)
    · rw [if_neg c2] at h
      exact bX9_columnOf_68 C hK hN h (lv_sub hl [0, 1] rfl) hP
    · rw [if_pos c2] at h
      refine lv_iconst (v := (4 : Int32)) hx hb dX9_columnOf_66 (by decide) ?_
      obtain rfl := h
      exact W.iret hx hb hr (fun t ht _ => ⟨rfl, ht⟩) (fun _ h9 => by cases h9) dX9_columnOf_67 hlk
def X9_columnOf_35    (v0 : Int64) (v2 : Int32) : Int32 := (if v2 = (19 : Int32) then (if v0 = (71 : Int64) then (6 : Int32) else X9_columnOf_52 v0 v2) else X9_columnOf_52 v0 v2)
set_option maxRecDepth 20000 in
theorem bX9_columnOf_35 (C : Cx p s m args meth c cX9_columnOf 3 (some .int) RX9 (.code yX9_columnOf cX9_columnOf 3 (some .int))) (hK : va_K D vwCl (tysX cy) s) (hN : NW s)  {q : Int32}  {v0 : Int64} {v2 : Int32} (h : X9_columnOf_35 v0 v2 = q) {ls : Array Slot} (hl : lv_has ls 3 [(0, .long v0), (2, .int v2)]) (hP : va_P D vwCl (GX cy ad tk sp nm tp kp cu se ur ab lo im sy un en ra li i2) s.heap) : W p l e ({ frames := 1, cells := 0, slots := 0, locals := 20 } : Room) s m args below meth c s.heap [] 0 0 (MQ below (QP (some (.int q))) args s 0 0 (fun _ => False)) (F0 m 35 ls []) := by
  obtain ⟨hx, hb, hml, hown, hts, hr, hlk⟩ := id C
  unfold X9_columnOf_35 at h
  refine lv_iload_n hx hb dX9_columnOf_35 rfl (lv_at hl 1 rfl) ?_
  refine lv_bipush (v := (19 : Int32)) hx hb dX9_columnOf_36 (by decide) ?_
  refine lv_icmp_ne (tgt := 52) hx hb dX9_columnOf_38 (by decide) (fun c1 => ?_) (fun c1 => ?_)
  · rw [if_neg c1] at h
    exact bX9_columnOf_52 C hK hN h (lv_sub hl [0, 1] rfl) hP
  · rw [if_pos c1] at h
    refine lv_lload_n hx hb dX9_columnOf_41 rfl (lv_at hl 0 rfl) ?_
    refine lv_ldc2 (v := (71 : Int64)) hx hb hown (hts _ (List.mem_cons_of_mem _ w893)) dX9_columnOf_42 ?_
    refine lc_ne (tgt := 52) hx hb dX9_columnOf_45 dX9_columnOf_46 (by decide) (fun c2 => ?_) (fun c2 => ?_)
    · rw [if_neg c2] at h
      exact bX9_columnOf_52 C hK hN h (lv_sub hl [0, 1] rfl) hP
    · rw [if_pos c2] at h
      refine lv_bipush (v := (6 : Int32)) hx hb dX9_columnOf_49 (by decide) ?_
      obtain rfl := h
      exact W.iret hx hb hr (fun t ht _ => ⟨rfl, ht⟩) (fun _ h9 => by cases h9) dX9_columnOf_51 hlk
def X9_columnOf  (v0 : Int64) (v2 : Int32) : Int32 := (if v2 = (1 : Int32) then (if v0 = (17 : Int64) then (1 : Int32) else (-1 : Int32)) else (if v2 = (19 : Int32) then (if v0 = (49 : Int64) then (5 : Int32) else X9_columnOf_35 v0 v2) else X9_columnOf_35 v0 v2))
set_option maxRecDepth 20000 in
theorem bX9_columnOf_0 (C : Cx p s m args meth c cX9_columnOf 3 (some .int) RX9 (.code yX9_columnOf cX9_columnOf 3 (some .int))) (hK : va_K D vwCl (tysX cy) s) (hN : NW s)  {q : Int32}  {v0 : Int64} {v2 : Int32} (h : X9_columnOf v0 v2 = q) {ls : Array Slot} (hl : lv_has ls 3 [(0, .long v0), (2, .int v2)]) (hP : va_P D vwCl (GX cy ad tk sp nm tp kp cu se ur ab lo im sy un en ra li i2) s.heap) : W p l e ({ frames := 1, cells := 0, slots := 0, locals := 20 } : Room) s m args below meth c s.heap [] 0 0 (MQ below (QP (some (.int q))) args s 0 0 (fun _ => False)) (F0 m 0 ls []) := by
  obtain ⟨hx, hb, hml, hown, hts, hr, hlk⟩ := id C
  unfold X9_columnOf at h
  refine lv_iload_n hx hb dX9_columnOf_0 rfl (lv_at hl 1 rfl) ?_
  refine lv_iconst (v := (1 : Int32)) hx hb dX9_columnOf_1 (by decide) ?_
  refine lv_icmp_ne (tgt := 19) hx hb dX9_columnOf_2 (by decide) (fun c1 => ?_) (fun c1 => ?_)
  · rw [if_neg c1] at h
    refine lv_iload_n hx hb dX9_columnOf_19 rfl (lv_at hl 1 rfl) ?_
    refine lv_bipush (v := (19 : Int32)) hx hb dX9_columnOf_20 (by decide) ?_
    refine lv_icmp_ne (tgt := 35) hx hb dX9_columnOf_22 (by decide) (fun c2 => ?_) (fun c2 => ?_)
    · rw [if_neg c2] at h
      exact bX9_columnOf_35 C hK hN h (lv_sub hl [0, 1] rfl) hP
    · rw [if_pos c2] at h
      refine lv_lload_n hx hb dX9_columnOf_25 rfl (lv_at hl 0 rfl) ?_
      refine lv_ldc2 (v := (49 : Int64)) hx hb hown (hts _ (List.mem_cons_of_mem _ w892)) dX9_columnOf_26 ?_
      refine lc_ne (tgt := 35) hx hb dX9_columnOf_29 dX9_columnOf_30 (by decide) (fun c3 => ?_) (fun c3 => ?_)
      · rw [if_neg c3] at h
        exact bX9_columnOf_35 C hK hN h (lv_sub hl [0, 1] rfl) hP
      · rw [if_pos c3] at h
        refine lv_iconst (v := (5 : Int32)) hx hb dX9_columnOf_33 (by decide) ?_
        obtain rfl := h
        exact W.iret hx hb hr (fun t ht _ => ⟨rfl, ht⟩) (fun _ h9 => by cases h9) dX9_columnOf_34 hlk
  · rw [if_pos c1] at h
    refine lv_lload_n hx hb dX9_columnOf_5 rfl (lv_at hl 0 rfl) ?_
    refine lv_ldc2 (v := (17 : Int64)) hx hb hown (hts _ (List.mem_cons_of_mem _ w891)) dX9_columnOf_6 ?_
    refine lc_ne (tgt := 17) hx hb dX9_columnOf_9 dX9_columnOf_10 (by decide) (fun c4 => ?_) (fun c4 => ?_)
    · rw [if_neg c4] at h
      refine lv_iconst (v := (-1 : Int32)) hx hb dX9_columnOf_17 (by decide) ?_
      obtain rfl := h
      exact W.iret hx hb hr (fun t ht _ => ⟨rfl, ht⟩) (fun _ h9 => by cases h9) dX9_columnOf_18 hlk
    · rw [if_pos c4] at h
      refine lv_iconst (v := (1 : Int32)) hx hb dX9_columnOf_13 (by decide) ?_
      refine lv_goto (tgt := 18) hx hb dX9_columnOf_14 (by decide) ?_
      obtain rfl := h
      exact W.iret hx hb hr (fun t ht _ => ⟨rfl, ht⟩) (fun _ h9 => by cases h9) dX9_columnOf_18 hlk
theorem kX9_columnOf  {v0 : Int64} {v2 : Int32} {q : Int32} (h : X9_columnOf v0 v2 = q) : Met l yX9_columnOf (.code yX9_columnOf cX9_columnOf 3 (some .int) :: WA) ({ frames := 1, cells := 0, slots := 0, locals := 20 } : Room) (va_Pc [.long v0, .int v2] (PR D cy (GX cy ad tk sp nm tp kp cu se ur ab lo im sy un en ra li i2))) (QP (some (.int q))) 0 0 (fun _ => False) :=
  met_of (by decide) (Nat.le_of_ble_eq_true rfl) (fun p e s m below meth c ls C hP hK hN hl => bX9_columnOf_0 C hK hN h hl hP)
def X9_keepHigh_26   (en : Ten) (v2 : Int32) (v3 : Int32) (v4 : Int64) : Ten := (if (X9_isCountForm v3) = 0 then en else (if (X2_isTold en v2 (2 : Int32)) = 0 then (letq (X2_keepFirst en v2 (3 : Int32) v4) fun q3 => q3.2) else en))
set_option maxRecDepth 20000 in
theorem bX9_keepHigh_26 (C : Cx p s m args meth c cX9_keepHigh 6 none RX9 (.code yX9_keepHigh cX9_keepHigh 6 none)) (hI : Apart ad 89) (hK : va_K D vwCl (tysX cy) s) (hN : NW s)  {q : Ten}  {v2 : Int32} {v3 : Int32} {v4 : Int64} (h : X9_keepHigh_26 en v2 v3 v4 = q) {ls : Array Slot} (hl : lv_has ls 6 [(1, .ref (ad 34)), (2, .int v2), (3, .int v3), (4, .long v4)]) {H : Heap} {locs : List Loc} (hP : va_P D vwCl (GX cy ad tk sp nm tp kp cu se ur ab lo im sy un en ra li i2) H) (hS : va_S (Ac ad 89) s.heap H locs) : W p l e ({ frames := 2, cells := 0, slots := 0, locals := 49 } : Room) s m args below meth c H locs 0 0 (MQ below (QR none D (GX cy ad tk sp nm tp kp cu se ur ab lo im sy un q ra li i2) (Ac ad 89)) args s 0 0 (Ac ad 89)) (F0 m 26 ls []) := by
  obtain ⟨hx, hb, hml, hown, hts, hr, hlk⟩ := id C
  unfold X9_keepHigh_26 at h
  refine lv_iload_n hx hb dX9_keepHigh_26 rfl (lv_at hl 2 rfl) ?_
  refine cPi (run_S (rest := []) C (kX9_isCountForm rfl) caX9_isCountForm w885 ⟨rfl, rfl, Nat.le_of_ble_eq_true rfl, Nat.le_of_ble_eq_true rfl⟩ hK hN hP rfl hl.1 rfl (Nat.le_of_ble_eq_true rfl) dX9_keepHigh_27 ⟨Nat.zero_le _, Nat.zero_le _⟩) ?_
  refine lv_if_eq (tgt := 51) hx hb dX9_keepHigh_30 (by decide) (fun c1 => ?_) (fun c1 => ?_)
  · rw [if_pos c1] at h
    obtain rfl := h
    exact W.vret hx hb hr (fun t ht _ => ⟨rfl, by rw [ht]; exact hP, hS.F ht⟩) hS.2.2 dX9_keepHigh_51 hlk
  · rw [if_neg c1] at h
    refine lv_aload_n hx hb dX9_keepHigh_33 rfl (lv_at hl 0 rfl) ?_
    refine lv_iload_n hx hb dX9_keepHigh_34 rfl (lv_at hl 1 rfl) ?_
    refine lv_iconst (v := (2 : Int32)) hx hb dX9_keepHigh_35 (by decide) ?_
    refine cPi (run_V (rest := []) C (kX2_isTold rfl) caX2_isTold w880 ⟨rfl, rfl, Nat.le_of_ble_eq_true rfl, Nat.le_of_ble_eq_true rfl⟩ hK hN hP (rX34 hK hP) rfl hl.1 rfl (Nat.le_of_ble_eq_true rfl) dX9_keepHigh_36 ⟨Nat.zero_le _, Nat.zero_le _⟩) ?_
    refine lv_if_ne (tgt := 51) hx hb dX9_keepHigh_39 (by decide) (fun c2 => ?_) (fun c2 => ?_)
    · rw [if_neg c2] at h
      obtain rfl := h
      exact W.vret hx hb hr (fun t ht _ => ⟨rfl, by rw [ht]; exact hP, hS.F ht⟩) hS.2.2 dX9_keepHigh_51 hlk
    · rw [if_pos c2] at h
      refine lv_aload_n hx hb dX9_keepHigh_42 rfl (lv_at hl 0 rfl) ?_
      refine lv_iload_n hx hb dX9_keepHigh_43 rfl (lv_at hl 1 rfl) ?_
      refine lv_iconst (v := (3 : Int32)) hx hb dX9_keepHigh_44 (by decide) ?_
      refine lv_lload hx hb dX9_keepHigh_45 (lv_at hl 3 rfl) ?_
      obtain ⟨q3, h4, h⟩ := lets h
      refine cRi (run_V (rest := []) C (kX2_keepFirst hI h4) caX2_keepFirst w884 ⟨rfl, rfl, Nat.le_of_ble_eq_true rfl, Nat.le_of_ble_eq_true rfl⟩ hK hN hP (rX34 hK hP) rfl hl.1 rfl (Nat.le_of_ble_eq_true rfl) dX9_keepHigh_47 ⟨Nat.zero_le _, Nat.zero_le _⟩) hS (fun H locs hP hS => ?_)
      have hP : va_P D vwCl (GX cy ad tk sp nm tp kp cu se ur ab lo im sy un q3.2 ra li i2) H := hP
      refine lv_pop hx hb dX9_keepHigh_50 rfl ?_
      obtain rfl := h
      exact W.vret hx hb hr (fun t ht _ => ⟨rfl, by rw [ht]; exact hP, hS.F ht⟩) hS.2.2 dX9_keepHigh_51 hlk
def X9_keepHigh (en : Ten) (v2 : Int32) (v3 : Int32) (v4 : Int64) : Ten := (if v3 = (1 : Int32) then (if (X2_isTold en v2 (3 : Int32)) = 0 then (letq (X2_keepFirst en v2 (2 : Int32) v4) fun q3 => q3.2) else X9_keepHigh_26 en v2 v3 v4) else X9_keepHigh_26 en v2 v3 v4)
set_option maxRecDepth 20000 in
theorem bX9_keepHigh_0 (C : Cx p s m args meth c cX9_keepHigh 6 none RX9 (.code yX9_keepHigh cX9_keepHigh 6 none)) (hI : Apart ad 89) (hK : va_K D vwCl (tysX cy) s) (hN : NW s)  {q : Ten}  {v2 : Int32} {v3 : Int32} {v4 : Int64} (h : X9_keepHigh en v2 v3 v4 = q) {ls : Array Slot} (hl : lv_has ls 6 [(0, .ref (ad 8)), (1, .ref (ad 34)), (2, .int v2), (3, .int v3), (4, .long v4)]) {H : Heap} {locs : List Loc} (hP : va_P D vwCl (GX cy ad tk sp nm tp kp cu se ur ab lo im sy un en ra li i2) H) (hS : va_S (Ac ad 89) s.heap H locs) : W p l e ({ frames := 2, cells := 0, slots := 0, locals := 49 } : Room) s m args below meth c H locs 0 0 (MQ below (QR none D (GX cy ad tk sp nm tp kp cu se ur ab lo im sy un q ra li i2) (Ac ad 89)) args s 0 0 (Ac ad 89)) (F0 m 0 ls []) := by
  obtain ⟨hx, hb, hml, hown, hts, hr, hlk⟩ := id C
  unfold X9_keepHigh at h
  refine lv_iload_n hx hb dX9_keepHigh_0 rfl (lv_at hl 3 rfl) ?_
  refine lv_iconst (v := (1 : Int32)) hx hb dX9_keepHigh_1 (by decide) ?_
  refine lv_icmp_ne (tgt := 26) hx hb dX9_keepHigh_2 (by decide) (fun c1 => ?_) (fun c1 => ?_)
  · rw [if_neg c1] at h
    exact bX9_keepHigh_26 C hI hK hN h (lv_sub hl [1, 2, 3, 4] rfl) hP hS
  · rw [if_pos c1] at h
    refine lv_aload_n hx hb dX9_keepHigh_5 rfl (lv_at hl 1 rfl) ?_
    refine lv_iload_n hx hb dX9_keepHigh_6 rfl (lv_at hl 2 rfl) ?_
    refine lv_iconst (v := (3 : Int32)) hx hb dX9_keepHigh_7 (by decide) ?_
    refine cPi (run_V (rest := []) C (kX2_isTold rfl) caX2_isTold w880 ⟨rfl, rfl, Nat.le_of_ble_eq_true rfl, Nat.le_of_ble_eq_true rfl⟩ hK hN hP (rX34 hK hP) rfl hl.1 rfl (Nat.le_of_ble_eq_true rfl) dX9_keepHigh_8 ⟨Nat.zero_le _, Nat.zero_le _⟩) ?_
    refine lv_if_ne (tgt := 26) hx hb dX9_keepHigh_11 (by decide) (fun c2 => ?_) (fun c2 => ?_)
    · rw [if_neg c2] at h
      exact bX9_keepHigh_26 C hI hK hN h (lv_sub hl [1, 2, 3, 4] rfl) hP hS
    · rw [if_pos c2] at h
      refine lv_aload_n hx hb dX9_keepHigh_14 rfl (lv_at hl 1 rfl) ?_
      refine lv_iload_n hx hb dX9_keepHigh_15 rfl (lv_at hl 2 rfl) ?_
      refine lv_iconst (v := (2 : Int32)) hx hb dX9_keepHigh_16 (by decide) ?_
      refine lv_lload hx hb dX9_keepHigh_17 (lv_at hl 4 rfl) ?_
      obtain ⟨q3, h4, h⟩ := lets h
      refine cRi (run_V (rest := []) C (kX2_keepFirst hI h4) caX2_keepFirst w884 ⟨rfl, rfl, Nat.le_of_ble_eq_true rfl, Nat.le_of_ble_eq_true rfl⟩ hK hN hP (rX34 hK hP) rfl hl.1 rfl (Nat.le_of_ble_eq_true rfl) dX9_keepHigh_19 ⟨Nat.zero_le _, Nat.zero_le _⟩) hS (fun H locs hP hS => ?_)
      have hP : va_P D vwCl (GX cy ad tk sp nm tp kp cu se ur ab lo im sy un q3.2 ra li i2) H := hP
      refine lv_pop hx hb dX9_keepHigh_22 rfl ?_
      refine lv_goto (tgt := 51) hx hb dX9_keepHigh_23 (by decide) ?_
      obtain rfl := h
      exact W.vret hx hb hr (fun t ht _ => ⟨rfl, by rw [ht]; exact hP, hS.F ht⟩) hS.2.2 dX9_keepHigh_51 hlk
theorem kX9_keepHigh (hI : Apart ad 89) {v2 : Int32} {v3 : Int32} {v4 : Int64} {q : Ten} (h : X9_keepHigh en v2 v3 v4 = q) : Met l yX9_keepHigh (.code yX9_keepHigh cX9_keepHigh 6 none :: WA) ({ frames := 2, cells := 0, slots := 0, locals := 49 } : Room) (va_Pc [.ref (ad 8), .ref (ad 34), .int v2, .int v3, .long v4] (PR D cy (GX cy ad tk sp nm tp kp cu se ur ab lo im sy un en ra li i2))) (QR none D (GX cy ad tk sp nm tp kp cu se ur ab lo im sy un q ra li i2) (Ac ad 89)) 0 0 (Ac ad 89) :=
  met_of (by decide) (Nat.le_of_ble_eq_true rfl) (fun p e s m below meth c ls C hP hK hN hl => bX9_keepHigh_0 C hI hK hN h hl hP va_S.rf)
def X9_keepValue_22 (ur : Tur)  (en : Ten) (v2 : Int32) : Ten := (letq (X2_keepName en v2 ur.2.2.2.2.2.1 ur.2.2.2.2.2.2) fun q1 => q1)
set_option maxRecDepth 20000 in
theorem bX9_keepValue_22 (C : Cx p s m args meth c cX9_keepValue 9 none RX9 (.code yX9_keepValue cX9_keepValue 9 none)) (hI : Apart ad 89) (hK : va_K D vwCl (tysX cy) s) (hN : NW s)  {q : Ten}  {v2 : Int32} (h : X9_keepValue_22 ur en v2 = q) {ls : Array Slot} (hl : lv_has ls 9 [(0, .ref (ad 8)), (1, .ref (ad 34)), (2, .int v2)]) {H : Heap} {locs : List Loc} (hP : va_P D vwCl (GX cy ad tk sp nm tp kp cu se ur ab lo im sy un en ra li i2) H) (hS : va_S (Ac ad 89) s.heap H locs) : W p l e ({ frames := 3, cells := 0, slots := 0, locals := 74 } : Room) s m args below meth c H locs 0 0 (MQ below (QR none D (GX cy ad tk sp nm tp kp cu se ur ab lo im sy un q ra li i2) (Ac ad 89)) args s 0 0 (Ac ad 89)) (F0 m 22 ls []) := by
  obtain ⟨hx, hb, hml, hown, hts, hr, hlk⟩ := id C
  unfold X9_keepValue_22 at h
  refine lv_aload_n hx hb dX9_keepValue_22 rfl (lv_at hl 1 rfl) ?_
  refine lv_iload_n hx hb dX9_keepValue_23 rfl (lv_at hl 2 rfl) ?_
  refine lv_aload_n hx hb dX9_keepValue_24 rfl (lv_at hl 0 rfl) ?_
  refine gX8_8 (v := ur.2.2.2.2.2.1) C hK hP rfl w217 dX9_keepValue_25 ?_
  refine lv_aload_n hx hb dX9_keepValue_28 rfl (lv_at hl 0 rfl) ?_
  refine gX8_9 (v := ur.2.2.2.2.2.2) C hK hP rfl w218 dX9_keepValue_29 ?_
  obtain ⟨q1, h2, h⟩ := lets h
  refine cRv (run_V (rest := []) C (kX2_keepName hI h2) caX2_keepName w862 ⟨rfl, rfl, Nat.le_of_ble_eq_true rfl, Nat.le_of_ble_eq_true rfl⟩ hK hN hP (rX34 hK hP) rfl hl.1 rfl (Nat.le_of_ble_eq_true rfl) dX9_keepValue_32 ⟨Nat.zero_le _, Nat.zero_le _⟩) hS (fun H locs hP hS => ?_)
  have hP : va_P D vwCl (GX cy ad tk sp nm tp kp cu se ur ab lo im sy un q1 ra li i2) H := hP
  refine lv_goto (tgt := 83) hx hb dX9_keepValue_35 (by decide) ?_
  obtain rfl := h
  exact W.vret hx hb hr (fun t ht _ => ⟨rfl, by rw [ht]; exact hP, hS.F ht⟩) hS.2.2 dX9_keepValue_83 hlk
def X9_keepValue_38 (ur : Tur)  (en : Ten) (v2 : Int32) (v3 : Int64) (v5 : Int32) (v6 : Int64) : Ten := (if v3 = (18 : Int64) then (letq (X9_keepHigh en v2 v5 v6) fun q5 => q5) else (if (X9_columnOf v3 v5) = (-1 : Int32) then en else (letq (X2_keepFirst en v2 (X9_columnOf v3 v5) v6) fun q3 => q3.2)))
set_option maxRecDepth 20000 in
theorem bX9_keepValue_38 (C : Cx p s m args meth c cX9_keepValue 9 none RX9 (.code yX9_keepValue cX9_keepValue 9 none)) (hI : Apart ad 89) (hK : va_K D vwCl (tysX cy) s) (hN : NW s)  {q : Ten}  {v2 : Int32} {v3 : Int64} {v5 : Int32} {v6 : Int64} (h : X9_keepValue_38 ur en v2 v3 v5 v6 = q) {ls : Array Slot} (hl : lv_has ls 9 [(0, .ref (ad 8)), (1, .ref (ad 34)), (2, .int v2), (3, .long v3), (5, .int v5), (6, .long v6)]) {H : Heap} {locs : List Loc} (hP : va_P D vwCl (GX cy ad tk sp nm tp kp cu se ur ab lo im sy un en ra li i2) H) (hS : va_S (Ac ad 89) s.heap H locs) : W p l e ({ frames := 3, cells := 0, slots := 0, locals := 74 } : Room) s m args below meth c H locs 0 0 (MQ below (QR none D (GX cy ad tk sp nm tp kp cu se ur ab lo im sy un q ra li i2) (Ac ad 89)) args s 0 0 (Ac ad 89)) (F0 m 38 ls []) := by
  obtain ⟨hx, hb, hml, hown, hts, hr, hlk⟩ := id C
  unfold X9_keepValue_38 at h
  refine lv_lload_n hx hb dX9_keepValue_38 rfl (lv_at hl 3 rfl) ?_
  refine lv_ldc2 (v := (18 : Int64)) hx hb hown (hts _ (List.mem_cons_of_mem _ w875)) dX9_keepValue_39 ?_
  refine lc_ne (tgt := 59) hx hb dX9_keepValue_42 dX9_keepValue_43 (by decide) (fun c1 => ?_) (fun c1 => ?_)
  · rw [if_neg c1] at h
    refine lv_lload_n hx hb dX9_keepValue_59 rfl (lv_at hl 3 rfl) ?_
    refine lv_iload hx hb dX9_keepValue_60 (lv_at hl 4 rfl) ?_
    refine cPi (run_S (rest := []) C (kX9_columnOf rfl) caX9_columnOf w888 ⟨rfl, rfl, Nat.le_of_ble_eq_true rfl, Nat.le_of_ble_eq_true rfl⟩ hK hN hP rfl hl.1 rfl (Nat.le_of_ble_eq_true rfl) dX9_keepValue_62 ⟨Nat.zero_le _, Nat.zero_le _⟩) ?_
    refine lv_istore (lv' := [(8, .int (X9_columnOf v3 v5)), (0, .ref (ad 8)), (1, .ref (ad 34)), (2, .int v2), (3, .long v3), (5, .int v5), (6, .long v6)]) hx hb dX9_keepValue_65 hl (by decide) rfl (fun ls hl => ?_)
    refine lv_iload hx hb dX9_keepValue_67 (lv_at hl 0 rfl) ?_
    refine lv_iconst (v := (-1 : Int32)) hx hb dX9_keepValue_69 (by decide) ?_
    refine lv_icmp_eq (tgt := 83) hx hb dX9_keepValue_70 (by decide) (fun c2 => ?_) (fun c2 => ?_)
    · rw [if_pos c2] at h
      obtain rfl := h
      exact W.vret hx hb hr (fun t ht _ => ⟨rfl, by rw [ht]; exact hP, hS.F ht⟩) hS.2.2 dX9_keepValue_83 hlk
    · rw [if_neg c2] at h
      refine lv_aload_n hx hb dX9_keepValue_73 rfl (lv_at hl 2 rfl) ?_
      refine lv_iload_n hx hb dX9_keepValue_74 rfl (lv_at hl 3 rfl) ?_
      refine lv_iload hx hb dX9_keepValue_75 (lv_at hl 0 rfl) ?_
      refine lv_lload hx hb dX9_keepValue_77 (lv_at hl 6 rfl) ?_
      obtain ⟨q3, h4, h⟩ := lets h
      refine cRi (run_V (rest := []) C (kX2_keepFirst hI h4) caX2_keepFirst w884 ⟨rfl, rfl, Nat.le_of_ble_eq_true rfl, Nat.le_of_ble_eq_true rfl⟩ hK hN hP (rX34 hK hP) rfl hl.1 rfl (Nat.le_of_ble_eq_true rfl) dX9_keepValue_79 ⟨Nat.zero_le _, Nat.zero_le _⟩) hS (fun H locs hP hS => ?_)
      have hP : va_P D vwCl (GX cy ad tk sp nm tp kp cu se ur ab lo im sy un q3.2 ra li i2) H := hP
      refine lv_pop hx hb dX9_keepValue_82 rfl ?_
      obtain rfl := h
      exact W.vret hx hb hr (fun t ht _ => ⟨rfl, by rw [ht]; exact hP, hS.F ht⟩) hS.2.2 dX9_keepValue_83 hlk
  · rw [if_pos c1] at h
    refine lv_aload_n hx hb dX9_keepValue_46 rfl (lv_at hl 0 rfl) ?_
    refine lv_aload_n hx hb dX9_keepValue_47 rfl (lv_at hl 1 rfl) ?_
    refine lv_iload_n hx hb dX9_keepValue_48 rfl (lv_at hl 2 rfl) ?_
    refine lv_iload hx hb dX9_keepValue_49 (lv_at hl 4 rfl) ?_
    refine lv_lload hx hb dX9_keepValue_51 (lv_at hl 5 rfl) ?_
    obtain ⟨q5, h6, h⟩ := lets h
    refine cRv (run_V (rest := []) C (kX9_keepHigh hI h6) caX9_keepHigh w876 ⟨rfl, rfl, Nat.le_of_ble_eq_true rfl, Nat.le_of_ble_eq_true rfl⟩ hK hN hP (rX8 hK hP) rfl hl.1 rfl (Nat.le_of_ble_eq_true rfl) dX9_keepValue_53 ⟨Nat.zero_le _, Nat.zero_le _⟩) hS (fun H locs hP hS => ?_)
    have hP : va_P D vwCl (GX cy ad tk sp nm tp kp cu se ur ab lo im sy un q5 ra li i2) H := hP
    refine lv_goto (tgt := 83) hx hb dX9_keepValue_56 (by decide) ?_
    obtain rfl := h
    exact W.vret hx hb hr (fun t ht _ => ⟨rfl, by rw [ht]; exact hP, hS.F ht⟩) hS.2.2 dX9_keepValue_83 hlk
def X9_keepValue (ur : Tur) (en : Ten) (v2 : Int32) (v3 : Int64) (v5 : Int32) (v6 : Int64) : Ten := (if v3 = (3 : Int64) then (if v5 = (8 : Int32) then X9_keepValue_22 ur en v2 else (if v5 = (14 : Int32) then X9_keepValue_22 ur en v2 else X9_keepValue_38 ur en v2 v3 v5 v6)) else X9_keepValue_38 ur en v2 v3 v5 v6)
set_option maxRecDepth 20000 in
theorem bX9_keepValue_0 (C : Cx p s m args meth c cX9_keepValue 9 none RX9 (.code yX9_keepValue cX9_keepValue 9 none)) (hI : Apart ad 89) (hK : va_K D vwCl (tysX cy) s) (hN : NW s)  {q : Ten}  {v2 : Int32} {v3 : Int64} {v5 : Int32} {v6 : Int64} (h : X9_keepValue ur en v2 v3 v5 v6 = q) {ls : Array Slot} (hl : lv_has ls 9 [(0, .ref (ad 8)), (1, .ref (ad 34)), (2, .int v2), (3, .long v3), (5, .int v5), (6, .long v6)]) {H : Heap} {locs : List Loc} (hP : va_P D vwCl (GX cy ad tk sp nm tp kp cu se ur ab lo im sy un en ra li i2) H) (hS : va_S (Ac ad 89) s.heap H locs) : W p l e ({ frames := 3, cells := 0, slots := 0, locals := 74 } : Room) s m args below meth c H locs 0 0 (MQ below (QR none D (GX cy ad tk sp nm tp kp cu se ur ab lo im sy un q ra li i2) (Ac ad 89)) args s 0 0 (Ac ad 89)) (F0 m 0 ls []) := by
  obtain ⟨hx, hb, hml, hown, hts, hr, hlk⟩ := id C
  unfold X9_keepValue at h
  refine lv_lload_n hx hb dX9_keepValue_0 rfl (lv_at hl 3 rfl) ?_
  refine lv_ldc2 (v := (3 : Int64)) hx hb hown (hts _ (List.mem_cons_of_mem _ w861)) dX9_keepValue_1 ?_
  refine lc_ne (tgt := 38) hx hb dX9_keepValue_4 dX9_keepValue_5 (by decide) (fun c1 => ?_) (fun c1 => ?_)
  · rw [if_neg c1] at h
    exact bX9_keepValue_38 C hI hK hN h (lv_sub hl [0, 1, 2, 3, 4, 5] rfl) hP hS
  · rw [if_pos c1] at h
    refine lv_iload hx hb dX9_keepValue_8 (lv_at hl 4 rfl) ?_
    refine lv_bipush (v := (8 : Int32)) hx hb dX9_keepValue_10 (by decide) ?_
    refine lv_icmp_eq (tgt := 22) hx hb dX9_keepValue_12 (by decide) (fun c2 => ?_) (fun c2 => ?_)
    · rw [if_pos c2] at h
      exact bX9_keepValue_22 C hI hK hN h (lv_sub hl [0, 1, 2] rfl) hP hS
    · rw [if_neg c2] at h
      refine lv_iload hx hb dX9_keepValue_15 (lv_at hl 4 rfl) ?_
      refine lv_bipush (v := (14 : Int32)) hx hb dX9_keepValue_17 (by decide) ?_
      refine lv_icmp_ne (tgt := 38) hx hb dX9_keepValue_19 (by decide) (fun c3 => ?_) (fun c3 => ?_)
      · rw [if_neg c3] at h
        exact bX9_keepValue_38 C hI hK hN h (lv_sub hl [0, 1, 2, 3, 4, 5] rfl) hP hS
      · rw [if_pos c3] at h
        exact bX9_keepValue_22 C hI hK hN h (lv_sub hl [0, 1, 2] rfl) hP hS
theorem kX9_keepValue (hI : Apart ad 89) {v2 : Int32} {v3 : Int64} {v5 : Int32} {v6 : Int64} {q : Ten} (h : X9_keepValue ur en v2 v3 v5 v6 = q) : Met l yX9_keepValue (.code yX9_keepValue cX9_keepValue 9 none :: WA) ({ frames := 3, cells := 0, slots := 0, locals := 74 } : Room) (va_Pc [.ref (ad 8), .ref (ad 34), .int v2, .long v3, .int v5, .long v6] (PR D cy (GX cy ad tk sp nm tp kp cu se ur ab lo im sy un en ra li i2))) (QR none D (GX cy ad tk sp nm tp kp cu se ur ab lo im sy un q ra li i2) (Ac ad 89)) 0 0 (Ac ad 89) :=
  met_of (by decide) (Nat.le_of_ble_eq_true rfl) (fun p e s m below meth c ls C hP hK hN hl => bX9_keepValue_0 C hI hK hN h hl hP va_S.rf)
def X9_readAddress (tp : Ttp) (cu : Tcu)  : Option (Int64 × Tcu) := ((X1_number tp cu (8 : Int32)).bind fun q1 => (if q1.1 < (0 : Int64) then (letq (X1_refuse q1.2 (2 : Int32) (X1_place cu)) fun q4 => some (q1.1, q4)) else some (q1.1, q1.2)))
set_option maxRecDepth 20000 in
theorem bX9_readAddress_0 (C : Cx p s m args meth c cX9_readAddress 4 (some .long) RX9 (.code yX9_readAddress cX9_readAddress 4 (some .long))) (hI : Apart ad 89) (hK : va_K D vwCl (tysX cy) s) (hN : NW s)  {q : Int64 × Tcu}   (h : X9_readAddress tp cu = some q) {ls : Array Slot} (hl : lv_has ls 4 [(0, .ref (ad 8))]) {H : Heap} {locs : List Loc} (hP : va_P D vwCl (GX cy ad tk sp nm tp kp cu se ur ab lo im sy un en ra li i2) H) (hS : va_S (Ac ad 89) s.heap H locs) : W p l e ({ frames := 2, cells := 0, slots := 0, locals := 51 } : Room) s m args below meth c H locs 0 0 (MQ below (QR (some (.long q.1)) D (GX cy ad tk sp nm tp kp q.2 se ur ab lo im sy un en ra li i2) (Ac ad 89)) args s 0 0 (Ac ad 89)) (F0 m 0 ls []) := by
  obtain ⟨hx, hb, hml, hown, hts, hr, hlk⟩ := id C
  unfold X9_readAddress at h
  refine lv_aload_n hx hb dX9_readAddress_0 rfl (lv_at hl 0 rfl) ?_
  refine gX8_0 C hK hP w209 dX9_readAddress_1 ?_
  refine cPi (run_V (rest := []) C (kX1_place rfl) caX1_place w727 ⟨rfl, rfl, Nat.le_of_ble_eq_true rfl, Nat.le_of_ble_eq_true rfl⟩ hK hN hP (rX3 hK hP) rfl hl.1 rfl (Nat.le_of_ble_eq_true rfl) dX9_readAddress_4 ⟨Nat.zero_le _, Nat.zero_le _⟩) ?_
  refine lv_istore_n (lv' := [(1, .int (X1_place cu)), (0, .ref (ad 8))]) hx hb dX9_readAddress_7 rfl hl (by decide) rfl (fun ls hl => ?_)
  refine lv_aload_n hx hb dX9_readAddress_8 rfl (lv_at hl 1 rfl) ?_
  refine gX8_0 C hK hP w209 dX9_readAddress_9 ?_
  refine lv_bipush (v := (8 : Int32)) hx hb dX9_readAddress_12 (by decide) ?_
  obtain ⟨q1, h2, h⟩ := bnd h
  refine cRl (run_V (rest := []) C (kX1_number hI h2) caX1_number w731 ⟨rfl, rfl, Nat.le_of_ble_eq_true rfl, Nat.le_of_ble_eq_true rfl⟩ hK hN hP (rX3 hK hP) rfl hl.1 rfl (Nat.le_of_ble_eq_true rfl) dX9_readAddress_14 ⟨Nat.zero_le _, Nat.zero_le _⟩) hS (fun H locs hP hS => ?_)
  have hP : va_P D vwCl (GX cy ad tk sp nm tp kp q1.2 se ur ab lo im sy un en ra li i2) H := hP
  refine lv_lstore_n (lv' := [(2, .long q1.1), (1, .int (X1_place cu)), (0, .ref (ad 8))]) hx hb dX9_readAddress_17 rfl hl (by decide) rfl (fun ls hl => ?_)
  refine lv_lload_n hx hb dX9_readAddress_18 rfl (lv_at hl 0 rfl) ?_
  refine lv_lconst (v := (0 : Int64)) hx hb dX9_readAddress_19 (by decide) ?_
  refine lc_ge (tgt := 33) hx hb dX9_readAddress_20 dX9_readAddress_21 (by decide) (fun c3 => ?_) (fun c3 => ?_)
  · rw [if_neg c3] at h
    refine lv_lload_n hx hb dX9_readAddress_33 rfl (lv_at hl 0 rfl) ?_
    obtain rfl := Option.some.inj h
    exact W.lret hx hb hr (fun t ht _ => ⟨rfl, by rw [ht]; exact hP, hS.F ht⟩) hS.2.2 dX9_readAddress_34 hlk
  · rw [if_pos c3] at h
    refine lv_aload_n hx hb dX9_readAddress_24 rfl (lv_at hl 2 rfl) ?_
    refine gX8_0 C hK hP w209 dX9_readAddress_25 ?_
    refine lv_iconst (v := (2 : Int32)) hx hb dX9_readAddress_28 (by decide) ?_
    refine lv_iload_n hx hb dX9_readAddress_29 rfl (lv_at hl 1 rfl) ?_
    obtain ⟨q4, h5, h⟩ := lets h
    refine cRv (run_V (rest := []) C (kX1_refuse hI h5) caX1_refuse w722 ⟨rfl, rfl, Nat.le_of_ble_eq_true rfl, Nat.le_of_ble_eq_true rfl⟩ hK hN hP (rX3 hK hP) rfl hl.1 rfl (Nat.le_of_ble_eq_true rfl) dX9_readAddress_30 ⟨Nat.zero_le _, Nat.zero_le _⟩) hS (fun H locs hP hS => ?_)
    have hP : va_P D vwCl (GX cy ad tk sp nm tp kp q4 se ur ab lo im sy un en ra li i2) H := hP
    refine lv_lload_n hx hb dX9_readAddress_33 rfl (lv_at hl 0 rfl) ?_
    obtain rfl := Option.some.inj h
    exact W.lret hx hb hr (fun t ht _ => ⟨rfl, by rw [ht]; exact hP, hS.F ht⟩) hS.2.2 dX9_readAddress_34 hlk
theorem kX9_readAddress (hI : Apart ad 89)  {q : Int64 × Tcu} (h : X9_readAddress tp cu = some q) : Met l yX9_readAddress (.code yX9_readAddress cX9_readAddress 4 (some .long) :: WA) ({ frames := 2, cells := 0, slots := 0, locals := 51 } : Room) (va_Pc [.ref (ad 8)] (PR D cy (GX cy ad tk sp nm tp kp cu se ur ab lo im sy un en ra li i2))) (QR (some (.long q.1)) D (GX cy ad tk sp nm tp kp q.2 se ur ab lo im sy un en ra li i2) (Ac ad 89)) 0 0 (Ac ad 89) :=
  met_of (by decide) (Nat.le_of_ble_eq_true rfl) (fun p e s m below meth c ls C hP hK hN hl => bX9_readAddress_0 C hI hK hN h hl hP va_S.rf)
def X9_readReference (tp : Ttp) (cu : Tcu) (ur : Tur)  : Option (Int64 × Tcu × Tur) := ((X1_number tp cu (4 : Int32)).bind fun q1 => (if (X1_sound q1.2) = 0 then some ((((ur.2.2.2.2.1).toInt64) + q1.1), q1.2, ur) else some ((((ur.2.2.2.2.1).toInt64) + q1.1), q1.2, (ur.1, ur.2.1, (put_i 2000 ur.2.2.1 ur.2.2.2.1 (X1_place cu)), (ur.2.2.2.1 + (1 : Int32)), ur.2.2.2.2.1, ur.2.2.2.2.2.1, ur.2.2.2.2.2.2))))
set_option maxRecDepth 20000 in
theorem bX9_readReference_0 (C : Cx p s m args meth c cX9_readReference 4 (some .long) RX9 (.code yX9_readReference cX9_readReference 4 (some .long))) (hI : Apart ad 89) (hK : va_K D vwCl (tysX cy) s) (hN : NW s)  {q : Int64 × Tcu × Tur}   (h : X9_readReference tp cu ur = some q) {ls : Array Slot} (hl : lv_has ls 4 [(0, .ref (ad 8))]) {H : Heap} {locs : List Loc} (hP : va_P D vwCl (GX cy ad tk sp nm tp kp cu se ur ab lo im sy un en ra li i2) H) (hS : va_S (Ac ad 89) s.heap H locs) : W p l e ({ frames := 2, cells := 0, slots := 0, locals := 51 } : Room) s m args below meth c H locs 0 0 (MQ below (QR (some (.long q.1)) D (GX cy ad tk sp nm tp kp q.2.1 se q.2.2 ab lo im sy un en ra li i2) (Ac ad 89)) args s 0 0 (Ac ad 89)) (F0 m 0 ls []) := by
  obtain ⟨hx, hb, hml, hown, hts, hr, hlk⟩ := id C
  unfold X9_readReference at h
  refine lv_aload_n hx hb dX9_readReference_0 rfl (lv_at hl 0 rfl) ?_
  refine gX8_0 C hK hP w209 dX9_readReference_1 ?_
  refine cPi (run_V (rest := []) C (kX1_place rfl) caX1_place w727 ⟨rfl, rfl, Nat.le_of_ble_eq_true rfl, Nat.le_of_ble_eq_true rfl⟩ hK hN hP (rX3 hK hP) rfl hl.1 rfl (Nat.le_of_ble_eq_true rfl) dX9_readReference_4 ⟨Nat.zero_le _, Nat.zero_le _⟩) ?_
  refine lv_istore_n (lv' := [(1, .int (X1_place cu)), (0, .ref (ad 8))]) hx hb dX9_readReference_7 rfl hl (by decide) rfl (fun ls hl => ?_)
  refine lv_aload_n hx hb dX9_readReference_8 rfl (lv_at hl 1 rfl) ?_
  refine gX8_7 (v := ur.2.2.2.2.1) C hK hP rfl w216 dX9_readReference_9 ?_
  refine lv_i2l (v := ((ur.2.2.2.2.1).toInt64)) hx hb dX9_readReference_12 rfl ?_
  refine lv_aload_n hx hb dX9_readReference_13 rfl (lv_at hl 1 rfl) ?_
  refine gX8_0 C hK hP w209 dX9_readReference_14 ?_
  refine lv_iconst (v := (4 : Int32)) hx hb dX9_readReference_17 (by decide) ?_
  obtain ⟨q1, h2, h⟩ := bnd h
  refine cRl (run_V (rest := [.long ((ur.2.2.2.2.1).toInt64)]) C (kX1_number hI h2) caX1_number w731 ⟨rfl, rfl, Nat.le_of_ble_eq_true rfl, Nat.le_of_ble_eq_true rfl⟩ hK hN hP (rX3 hK hP) rfl hl.1 rfl (Nat.le_of_ble_eq_true rfl) dX9_readReference_18 ⟨Nat.zero_le _, Nat.zero_le _⟩) hS (fun H locs hP hS => ?_)
  have hP : va_P D vwCl (GX cy ad tk sp nm tp kp q1.2 se ur ab lo im sy un en ra li i2) H := hP
  refine lv_ladd hx hb dX9_readReference_21 ?_
  refine lv_lstore_n (lv' := [(2, .long (((ur.2.2.2.2.1).toInt64) + q1.1)), (1, .int (X1_place cu)), (0, .ref (ad 8))]) hx hb dX9_readReference_22 rfl hl (by decide) rfl (fun ls hl => ?_)
  refine lv_aload_n hx hb dX9_readReference_23 rfl (lv_at hl 2 rfl) ?_
  refine gX8_0 C hK hP w209 dX9_readReference_24 ?_
  refine cPi (run_V (rest := []) C (kX1_sound rfl) caX1_sound w697 ⟨rfl, rfl, Nat.le_of_ble_eq_true rfl, Nat.le_of_ble_eq_true rfl⟩ hK hN hP (rX3 hK hP) rfl hl.1 rfl (Nat.le_of_ble_eq_true rfl) dX9_readReference_27 ⟨Nat.zero_le _, Nat.zero_le _⟩) ?_
  refine lv_if_eq (tgt := 55) hx hb dX9_readReference_30 (by decide) (fun c3 => ?_) (fun c3 => ?_)
  · rw [if_pos c3] at h
    refine lv_lload_n hx hb dX9_readReference_55 rfl (lv_at hl 0 rfl) ?_
    obtain rfl := Option.some.inj h
    exact W.lret hx hb hr (fun t ht _ => ⟨rfl, by rw [ht]; exact hP, hS.F ht⟩) hS.2.2 dX9_readReference_56 hlk
  · rw [if_neg c3] at h
    refine lv_aload_n hx hb dX9_readReference_33 rfl (lv_at hl 2 rfl) ?_
    refine gX8_5 C hK hP w214 dX9_readReference_34 ?_
    refine lv_aload_n hx hb dX9_readReference_37 rfl (lv_at hl 2 rfl) ?_
    refine gX8_6 (v := ur.2.2.2.1) C hK hP rfl w215 dX9_readReference_38 ?_
    refine lv_iload_n hx hb dX9_readReference_41 rfl (lv_at hl 1 rfl) ?_
    refine xput_i (rest := []) C hK hN hP (GX_D hI) hS eX10 (Nat.le_of_ble_eq_true rfl) w847 hl.1 (Nat.le_of_ble_eq_true rfl) dX9_readReference_42 ⟨Nat.le_of_ble_eq_true rfl, Nat.le_of_ble_eq_true rfl⟩ ⟨Nat.zero_le _, Nat.zero_le _⟩ (fun H locs hP hS => ?_)
    have hP : va_P D vwCl (GX cy ad tk sp nm tp kp q1.2 se (ur.1, ur.2.1, (put_i 2000 ur.2.2.1 ur.2.2.2.1 (X1_place cu)), ur.2.2.2.1, ur.2.2.2.2.1, ur.2.2.2.2.2.1, ur.2.2.2.2.2.2) ab lo im sy un en ra li i2) H := hP
    refine lv_aload_n hx hb dX9_readReference_45 rfl (lv_at hl 2 rfl) ?_
    refine lv_dup hx hb dX9_readReference_46 rfl ?_
    refine gX8_6 (v := ur.2.2.2.1) C hK hP rfl w215 dX9_readReference_47 ?_
    refine lv_iconst (v := (1 : Int32)) hx hb dX9_readReference_50 (by decide) ?_
    refine lv_iadd hx hb dX9_readReference_51 ?_
    refine pX8_6 (v := (ur.2.2.2.1 + (1 : Int32))) C hI hK hP hS w215 dX9_readReference_52 (fun H locs hP hS => ?_)
    have hP : va_P D vwCl (GX cy ad tk sp nm tp kp q1.2 se (ur.1, ur.2.1, (put_i 2000 ur.2.2.1 ur.2.2.2.1 (X1_place cu)), (ur.2.2.2.1 + (1 : Int32)), ur.2.2.2.2.1, ur.2.2.2.2.2.1, ur.2.2.2.2.2.2) ab lo im sy un en ra li i2) H := hP
    refine lv_lload_n hx hb dX9_readReference_55 rfl (lv_at hl 0 rfl) ?_
    obtain rfl := Option.some.inj h
    exact W.lret hx hb hr (fun t ht _ => ⟨rfl, by rw [ht]; exact hP, hS.F ht⟩) hS.2.2 dX9_readReference_56 hlk
theorem kX9_readReference (hI : Apart ad 89)  {q : Int64 × Tcu × Tur} (h : X9_readReference tp cu ur = some q) : Met l yX9_readReference (.code yX9_readReference cX9_readReference 4 (some .long) :: WA) ({ frames := 2, cells := 0, slots := 0, locals := 51 } : Room) (va_Pc [.ref (ad 8)] (PR D cy (GX cy ad tk sp nm tp kp cu se ur ab lo im sy un en ra li i2))) (QR (some (.long q.1)) D (GX cy ad tk sp nm tp kp q.2.1 se q.2.2 ab lo im sy un en ra li i2) (Ac ad 89)) 0 0 (Ac ad 89) :=
  met_of (by decide) (Nat.le_of_ble_eq_true rfl) (fun p e s m below meth c ls C hP hK hN hl => bX9_readReference_0 C hI hK hN h hl hP va_S.rf)
def X9_readToldText (tp : Ttp) (cu : Tcu) (se : Tse) (ur : Tur)  : Option (Int64 × Tcu × Tur) := ((X1_number tp cu (4 : Int32)).bind fun q1 => ((X1_toldText tp q1.2 (X7_beginOf se (4 : Int32)) (X7_stopOf se (4 : Int32)) q1.1 (X1_place cu)).bind fun q3 => (if (X1_sound q3.2) = 0 then some ((((-1 : Int32)).toInt64), q3.2, (ur.1, ur.2.1, ur.2.2.1, ur.2.2.2.1, ur.2.2.2.2.1, (-1 : Int32), q3.1)) else some (((((X7_beginOf se (4 : Int32)) + ((q1.1).toInt32))).toInt64), q3.2, (ur.1, ur.2.1, ur.2.2.1, ur.2.2.2.1, ur.2.2.2.2.1, ((X7_beginOf se (4 : Int32)) + ((q1.1).toInt32)), q3.1)))))
set_option maxRecDepth 20000 in
theorem bX9_readToldText_0 (C : Cx p s m args meth c cX9_readToldText 5 (some .long) RX9 (.code yX9_readToldText cX9_readToldText 5 (some .long))) (hI : Apart ad 89) (hK : va_K D vwCl (tysX cy) s) (hN : NW s)  {q : Int64 × Tcu × Tur}   (h : X9_readToldText tp cu se ur = some q) {ls : Array Slot} (hl : lv_has ls 5 [(0, .ref (ad 8))]) {H : Heap} {locs : List Loc} (hP : va_P D vwCl (GX cy ad tk sp nm tp kp cu se ur ab lo im sy un en ra li i2) H) (hS : va_S (Ac ad 89) s.heap H locs) : W p l e ({ frames := 2, cells := 0, slots := 0, locals := 51 } : Room) s m args below meth c H locs 0 0 (MQ below (QR (some (.long q.1)) D (GX cy ad tk sp nm tp kp q.2.1 se q.2.2 ab lo im sy un en ra li i2) (Ac ad 89)) args s 0 0 (Ac ad 89)) (F0 m 0 ls []) := by
  obtain ⟨hx, hb, hml, hown, hts, hr, hlk⟩ := id C
  unfold X9_readToldText at h
  refine lv_aload_n hx hb dX9_readToldText_0 rfl (lv_at hl 0 rfl) ?_
  refine gX8_0 C hK hP w209 dX9_readToldText_1 ?_
  refine cPi (run_V (rest := []) C (kX1_place rfl) caX1_place w727 ⟨rfl, rfl, Nat.le_of_ble_eq_true rfl, Nat.le_of_ble_eq_true rfl⟩ hK hN hP (rX3 hK hP) rfl hl.1 rfl (Nat.le_of_ble_eq_true rfl) dX9_readToldText_4 ⟨Nat.zero_le _, Nat.zero_le _⟩) ?_
  refine lv_istore_n (lv' := [(1, .int (X1_place cu)), (0, .ref (ad 8))]) hx hb dX9_readToldText_7 rfl hl (by decide) rfl (fun ls hl => ?_)
  refine lv_aload_n hx hb dX9_readToldText_8 rfl (lv_at hl 1 rfl) ?_
  refine gX8_0 C hK hP w209 dX9_readToldText_9 ?_
  refine lv_iconst (v := (4 : Int32)) hx hb dX9_readToldText_12 (by decide) ?_
  obtain ⟨q1, h2, h⟩ := bnd h
  refine cRl (run_V (rest := []) C (kX1_number hI h2) caX1_number w731 ⟨rfl, rfl, Nat.le_of_ble_eq_true rfl, Nat.le_of_ble_eq_true rfl⟩ hK hN hP (rX3 hK hP) rfl hl.1 rfl (Nat.le_of_ble_eq_true rfl) dX9_readToldText_13 ⟨Nat.zero_le _, Nat.zero_le _⟩) hS (fun H locs hP hS => ?_)
  have hP : va_P D vwCl (GX cy ad tk sp nm tp kp q1.2 se ur ab lo im sy un en ra li i2) H := hP
  refine lv_lstore_n (lv' := [(2, .long q1.1), (1, .int (X1_place cu)), (0, .ref (ad 8))]) hx hb dX9_readToldText_16 rfl hl (by decide) rfl (fun ls hl => ?_)
  refine lv_aload_n hx hb dX9_readToldText_17 rfl (lv_at hl 2 rfl) ?_
  refine gX8_1 C hK hP w210 dX9_readToldText_18 ?_
  refine lv_iconst (v := (4 : Int32)) hx hb dX9_readToldText_21 (by decide) ?_
  refine cPi (run_V (rest := []) C (kX7_beginOf rfl) caX7_beginOf w696 ⟨rfl, rfl, Nat.le_of_ble_eq_true rfl, Nat.le_of_ble_eq_true rfl⟩ hK hN hP (rX4 hK hP) rfl hl.1 rfl (Nat.le_of_ble_eq_true rfl) dX9_readToldText_22 ⟨Nat.zero_le _, Nat.zero_le _⟩) ?_
  refine lv_istore (lv' := [(4, .int (X7_beginOf se (4 : Int32))), (2, .long q1.1), (1, .int (X1_place cu)), (0, .ref (ad 8))]) hx hb dX9_readToldText_25 hl (by decide) rfl (fun ls hl => ?_)
  refine lv_aload_n hx hb dX9_readToldText_27 rfl (lv_at hl 3 rfl) ?_
  refine lv_aload_n hx hb dX9_readToldText_28 rfl (lv_at hl 3 rfl) ?_
  refine gX8_0 C hK hP w209 dX9_readToldText_29 ?_
  refine lv_iload hx hb dX9_readToldText_32 (lv_at hl 0 rfl) ?_
  refine lv_aload_n hx hb dX9_readToldText_34 rfl (lv_at hl 3 rfl) ?_
  refine gX8_1 C hK hP w210 dX9_readToldText_35 ?_
  refine lv_iconst (v := (4 : Int32)) hx hb dX9_readToldText_38 (by decide) ?_
  refine cPi (run_V (rest := [.int (X7_beginOf se (4 : Int32)), .ref (ad 3), .ref (ad 8)]) C (kX7_stopOf rfl) caX7_stopOf w695 ⟨rfl, rfl, Nat.le_of_ble_eq_true rfl, Nat.le_of_ble_eq_true rfl⟩ hK hN hP (rX4 hK hP) rfl hl.1 rfl (Nat.le_of_ble_eq_true rfl) dX9_readToldText_39 ⟨Nat.zero_le _, Nat.zero_le _⟩) ?_
  refine lv_lload_n hx hb dX9_readToldText_42 rfl (lv_at hl 1 rfl) ?_
  refine lv_iload_n hx hb dX9_readToldText_43 rfl (lv_at hl 2 rfl) ?_
  obtain ⟨q3, h4, h⟩ := bnd h
  refine cRi (run_V (rest := [.ref (ad 8)]) C (kX1_toldText hI h4) caX1_toldText w842 ⟨rfl, rfl, Nat.le_of_ble_eq_true rfl, Nat.le_of_ble_eq_true rfl⟩ hK hN hP (rX3 hK hP) rfl hl.1 rfl (Nat.le_of_ble_eq_true rfl) dX9_readToldText_44 ⟨Nat.zero_le _, Nat.zero_le _⟩) hS (fun H locs hP hS => ?_)
  have hP : va_P D vwCl (GX cy ad tk sp nm tp kp q3.2 se ur ab lo im sy un en ra li i2) H := hP
  refine pX8_9 (v := q3.1) C hI hK hP hS w218 dX9_readToldText_47 (fun H locs hP hS => ?_)
  have hP : va_P D vwCl (GX cy ad tk sp nm tp kp q3.2 se (ur.1, ur.2.1, ur.2.2.1, ur.2.2.2.1, ur.2.2.2.2.1, ur.2.2.2.2.2.1, q3.1) ab lo im sy un en ra li i2) H := hP
  refine lv_aload_n hx hb dX9_readToldText_50 rfl (lv_at hl 3 rfl) ?_
  refine lv_aload_n hx hb dX9_readToldText_51 rfl (lv_at hl 3 rfl) ?_
  refine gX8_0 C hK hP w209 dX9_readToldText_52 ?_
  refine cPi (run_V (rest := [.ref (ad 8)]) C (kX1_sound rfl) caX1_sound w697 ⟨rfl, rfl, Nat.le_of_ble_eq_true rfl, Nat.le_of_ble_eq_true rfl⟩ hK hN hP (rX3 hK hP) rfl hl.1 rfl (Nat.le_of_ble_eq_true rfl) dX9_readToldText_55 ⟨Nat.zero_le _, Nat.zero_le _⟩) ?_
  refine lv_if_eq (tgt := 69) hx hb dX9_readToldText_58 (by decide) (fun c5 => ?_) (fun c5 => ?_)
  · rw [if_pos c5] at h
    refine lv_iconst (v := (-1 : Int32)) hx hb dX9_readToldText_69 (by decide) ?_
    refine pX8_8 (v := (-1 : Int32)) C hI hK hP hS w217 dX9_readToldText_70 (fun H locs hP hS => ?_)
    have hP : va_P D vwCl (GX cy ad tk sp nm tp kp q3.2 se (ur.1, ur.2.1, ur.2.2.1, ur.2.2.2.1, ur.2.2.2.2.1, (-1 : Int32), q3.1) ab lo im sy un en ra li i2) H := hP
    refine lv_aload_n hx hb dX9_readToldText_73 rfl (lv_at hl 3 rfl) ?_
    refine gX8_8 (v := (-1 : Int32)) C hK hP rfl w217 dX9_readToldText_74 ?_
    refine lv_i2l (v := (((-1 : Int32)).toInt64)) hx hb dX9_readToldText_77 rfl ?_
    obtain rfl := Option.some.inj h
    exact W.lret hx hb hr (fun t ht _ => ⟨rfl, by rw [ht]; exact hP, hS.F ht⟩) hS.2.2 dX9_readToldText_78 hlk
  · rw [if_neg c5] at h
    refine lv_iload hx hb dX9_readToldText_61 (lv_at hl 0 rfl) ?_
    refine lv_lload_n hx hb dX9_readToldText_63 rfl (lv_at hl 1 rfl) ?_
    refine lv_l2i (v := ((q1.1).toInt32)) hx hb dX9_readToldText_64 rfl ?_
    refine lv_iadd hx hb dX9_readToldText_65 ?_
    refine lv_goto (tgt := 70) hx hb dX9_readToldText_66 (by decide) ?_
    refine pX8_8 (v := ((X7_beginOf se (4 : Int32)) + ((q1.1).toInt32))) C hI hK hP hS w217 dX9_readToldText_70 (fun H locs hP hS => ?_)
    have hP : va_P D vwCl (GX cy ad tk sp nm tp kp q3.2 se (ur.1, ur.2.1, ur.2.2.1, ur.2.2.2.1, ur.2.2.2.2.1, ((X7_beginOf se (4 : Int32)) + ((q1.1).toInt32)), q3.1) ab lo im sy un en ra li i2) H := hP
    refine lv_aload_n hx hb dX9_readToldText_73 rfl (lv_at hl 3 rfl) ?_
    refine gX8_8 (v := ((X7_beginOf se (4 : Int32)) + ((q1.1).toInt32))) C hK hP rfl w217 dX9_readToldText_74 ?_
    refine lv_i2l (v := ((((X7_beginOf se (4 : Int32)) + ((q1.1).toInt32))).toInt64)) hx hb dX9_readToldText_77 rfl ?_
    obtain rfl := Option.some.inj h
    exact W.lret hx hb hr (fun t ht _ => ⟨rfl, by rw [ht]; exact hP, hS.F ht⟩) hS.2.2 dX9_readToldText_78 hlk
theorem kX9_readToldText (hI : Apart ad 89)  {q : Int64 × Tcu × Tur} (h : X9_readToldText tp cu se ur = some q) : Met l yX9_readToldText (.code yX9_readToldText cX9_readToldText 5 (some .long) :: WA) ({ frames := 2, cells := 0, slots := 0, locals := 51 } : Room) (va_Pc [.ref (ad 8)] (PR D cy (GX cy ad tk sp nm tp kp cu se ur ab lo im sy un en ra li i2))) (QR (some (.long q.1)) D (GX cy ad tk sp nm tp kp q.2.1 se q.2.2 ab lo im sy un en ra li i2) (Ac ad 89)) 0 0 (Ac ad 89) :=
  met_of (by decide) (Nat.le_of_ble_eq_true rfl) (fun p e s m below meth c ls C hP hK hN hl => bX9_readToldText_0 C hI hK hN h hl hP va_S.rf)
def X9_skipBytes (tp : Ttp) (cu : Tcu)  : Option (Int64 × Tcu) := ((X1_uleb tp cu).bind fun q1 => (if (X1_hasLeft q1.2 q1.1) = 0 then (letq (X1_refuse q1.2 (1 : Int32) (X1_place cu)) fun q6 => some ((0 : Int64), q6)) else (letq (X1_within q1.2 ((X1_place q1.2) + ((q1.1).toInt32)) (X1_stop q1.2)) fun q4 => some (q1.1, q4))))
set_option maxRecDepth 20000 in
theorem bX9_skipBytes_0 (C : Cx p s m args meth c cX9_skipBytes 4 (some .long) RX9 (.code yX9_skipBytes cX9_skipBytes 4 (some .long))) (hI : Apart ad 89) (hK : va_K D vwCl (tysX cy) s) (hN : NW s)  {q : Int64 × Tcu}   (h : X9_skipBytes tp cu = some q) {ls : Array Slot} (hl : lv_has ls 4 [(0, .ref (ad 8))]) {H : Heap} {locs : List Loc} (hP : va_P D vwCl (GX cy ad tk sp nm tp kp cu se ur ab lo im sy un en ra li i2) H) (hS : va_S (Ac ad 89) s.heap H locs) : W p l e ({ frames := 2, cells := 0, slots := 0, locals := 46 } : Room) s m args below meth c H locs 0 0 (MQ below (QR (some (.long q.1)) D (GX cy ad tk sp nm tp kp q.2 se ur ab lo im sy un en ra li i2) (Ac ad 89)) args s 0 0 (Ac ad 89)) (F0 m 0 ls []) := by
  obtain ⟨hx, hb, hml, hown, hts, hr, hlk⟩ := id C
  unfold X9_skipBytes at h
  refine lv_aload_n hx hb dX9_skipBytes_0 rfl (lv_at hl 0 rfl) ?_
  refine gX8_0 C hK hP w209 dX9_skipBytes_1 ?_
  refine cPi (run_V (rest := []) C (kX1_place rfl) caX1_place w727 ⟨rfl, rfl, Nat.le_of_ble_eq_true rfl, Nat.le_of_ble_eq_true rfl⟩ hK hN hP (rX3 hK hP) rfl hl.1 rfl (Nat.le_of_ble_eq_true rfl) dX9_skipBytes_4 ⟨Nat.zero_le _, Nat.zero_le _⟩) ?_
  refine lv_istore_n (lv' := [(1, .int (X1_place cu)), (0, .ref (ad 8))]) hx hb dX9_skipBytes_7 rfl hl (by decide) rfl (fun ls hl => ?_)
  refine lv_aload_n hx hb dX9_skipBytes_8 rfl (lv_at hl 1 rfl) ?_
  refine gX8_0 C hK hP w209 dX9_skipBytes_9 ?_
  obtain ⟨q1, h2, h⟩ := bnd h
  refine cRl (run_V (rest := []) C (kX1_uleb hI h2) caX1_uleb w796 ⟨rfl, rfl, Nat.le_of_ble_eq_true rfl, Nat.le_of_ble_eq_true rfl⟩ hK hN hP (rX3 hK hP) rfl hl.1 rfl (Nat.le_of_ble_eq_true rfl) dX9_skipBytes_12 ⟨Nat.zero_le _, Nat.zero_le _⟩) hS (fun H locs hP hS => ?_)
  have hP : va_P D vwCl (GX cy ad tk sp nm tp kp q1.2 se ur ab lo im sy un en ra li i2) H := hP
  refine lv_lstore_n (lv' := [(2, .long q1.1), (1, .int (X1_place cu)), (0, .ref (ad 8))]) hx hb dX9_skipBytes_15 rfl hl (by decide) rfl (fun ls hl => ?_)
  refine lv_aload_n hx hb dX9_skipBytes_16 rfl (lv_at hl 2 rfl) ?_
  refine gX8_0 C hK hP w209 dX9_skipBytes_17 ?_
  refine lv_lload_n hx hb dX9_skipBytes_20 rfl (lv_at hl 0 rfl) ?_
  refine cPi (run_V (rest := []) C (kX1_hasLeft rfl) caX1_hasLeft w852 ⟨rfl, rfl, Nat.le_of_ble_eq_true rfl, Nat.le_of_ble_eq_true rfl⟩ hK hN hP (rX3 hK hP) rfl hl.1 rfl (Nat.le_of_ble_eq_true rfl) dX9_skipBytes_21 ⟨Nat.zero_le _, Nat.zero_le _⟩) ?_
  refine lv_if_ne (tgt := 38) hx hb dX9_skipBytes_24 (by decide) (fun c3 => ?_) (fun c3 => ?_)
  · rw [if_neg c3] at h
    refine lv_aload_n hx hb dX9_skipBytes_38 rfl (lv_at hl 2 rfl) ?_
    refine gX8_0 C hK hP w209 dX9_skipBytes_39 ?_
    refine lv_aload_n hx hb dX9_skipBytes_42 rfl (lv_at hl 2 rfl) ?_
    refine gX8_0 C hK hP w209 dX9_skipBytes_43 ?_
    refine cPi (run_V (rest := [.ref (ad 3)]) C (kX1_place rfl) caX1_place w727 ⟨rfl, rfl, Nat.le_of_ble_eq_true rfl, Nat.le_of_ble_eq_true rfl⟩ hK hN hP (rX3 hK hP) rfl hl.1 rfl (Nat.le_of_ble_eq_true rfl) dX9_skipBytes_46 ⟨Nat.zero_le _, Nat.zero_le _⟩) ?_
    refine lv_lload_n hx hb dX9_skipBytes_49 rfl (lv_at hl 0 rfl) ?_
    refine lv_l2i (v := ((q1.1).toInt32)) hx hb dX9_skipBytes_50 rfl ?_
    refine lv_iadd hx hb dX9_skipBytes_51 ?_
    refine lv_aload_n hx hb dX9_skipBytes_52 rfl (lv_at hl 2 rfl) ?_
    refine gX8_0 C hK hP w209 dX9_skipBytes_53 ?_
    refine cPi (run_V (rest := [.int ((X1_place q1.2) + ((q1.1).toInt32)), .ref (ad 3)]) C (kX1_stop rfl) caX1_stop w738 ⟨rfl, rfl, Nat.le_of_ble_eq_true rfl, Nat.le_of_ble_eq_true rfl⟩ hK hN hP (rX3 hK hP) rfl hl.1 rfl (Nat.le_of_ble_eq_true rfl) dX9_skipBytes_56 ⟨Nat.zero_le _, Nat.zero_le _⟩) ?_
    obtain ⟨q4, h5, h⟩ := lets h
    refine cRv (run_V (rest := []) C (kX1_within hI h5) caX1_within w698 ⟨rfl, rfl, Nat.le_of_ble_eq_true rfl, Nat.le_of_ble_eq_true rfl⟩ hK hN hP (rX3 hK hP) rfl hl.1 rfl (Nat.le_of_ble_eq_true rfl) dX9_skipBytes_59 ⟨Nat.zero_le _, Nat.zero_le _⟩) hS (fun H locs hP hS => ?_)
    have hP : va_P D vwCl (GX cy ad tk sp nm tp kp q4 se ur ab lo im sy un en ra li i2) H := hP
    refine lv_lload_n hx hb dX9_skipBytes_62 rfl (lv_at hl 0 rfl) ?_
    obtain rfl := Option.some.inj h
    exact W.lret hx hb hr (fun t ht _ => ⟨rfl, by rw [ht]; exact hP, hS.F ht⟩) hS.2.2 dX9_skipBytes_63 hlk
  · rw [if_pos c3] at h
    refine lv_aload_n hx hb dX9_skipBytes_27 rfl (lv_at hl 2 rfl) ?_
    refine gX8_0 C hK hP w209 dX9_skipBytes_28 ?_
    refine lv_iconst (v := (1 : Int32)) hx hb dX9_skipBytes_31 (by decide) ?_
    refine lv_iload_n hx hb dX9_skipBytes_32 rfl (lv_at hl 1 rfl) ?_
    obtain ⟨q6, h7, h⟩ := lets h
    refine cRv (run_V (rest := []) C (kX1_refuse hI h7) caX1_refuse w722 ⟨rfl, rfl, Nat.le_of_ble_eq_true rfl, Nat.le_of_ble_eq_true rfl⟩ hK hN hP (rX3 hK hP) rfl hl.1 rfl (Nat.le_of_ble_eq_true rfl) dX9_skipBytes_33 ⟨Nat.zero_le _, Nat.zero_le _⟩) hS (fun H locs hP hS => ?_)
    have hP : va_P D vwCl (GX cy ad tk sp nm tp kp q6 se ur ab lo im sy un en ra li i2) H := hP
    refine lv_lconst (v := (0 : Int64)) hx hb dX9_skipBytes_36 (by decide) ?_
    obtain rfl := Option.some.inj h
    exact W.lret hx hb hr (fun t ht _ => ⟨rfl, by rw [ht]; exact hP, hS.F ht⟩) hS.2.2 dX9_skipBytes_37 hlk
theorem kX9_skipBytes (hI : Apart ad 89)  {q : Int64 × Tcu} (h : X9_skipBytes tp cu = some q) : Met l yX9_skipBytes (.code yX9_skipBytes cX9_skipBytes 4 (some .long) :: WA) ({ frames := 2, cells := 0, slots := 0, locals := 46 } : Room) (va_Pc [.ref (ad 8)] (PR D cy (GX cy ad tk sp nm tp kp cu se ur ab lo im sy un en ra li i2))) (QR (some (.long q.1)) D (GX cy ad tk sp nm tp kp q.2 se ur ab lo im sy un en ra li i2) (Ac ad 89)) 0 0 (Ac ad 89) :=
  met_of (by decide) (Nat.le_of_ble_eq_true rfl) (fun p e s m below meth c ls C hP hK hN hl => bX9_skipBytes_0 C hI hK hN h hl hP va_S.rf)
def X9_readValue (tp : Ttp) (cu : Tcu) (se : Tse) (ur : Tur) (v1 : Int32) (v2 : Int64) : Option (Int64 × Tcu × Tur) := (if v1 = (1 : Int32) then ((X9_readAddress tp cu).bind fun q2 => some (q2.1, q2.2, ur)) else (if v1 = (5 : Int32) then ((X1_number tp cu (2 : Int32)).bind fun q5 => some (q5.1, q5.2, ur)) else (if v1 = (6 : Int32) then ((X1_number tp cu (4 : Int32)).bind fun q8 => some (q8.1, q8.2, ur)) else (if v1 = (7 : Int32) then ((X1_number tp cu (8 : Int32)).bind fun q11 => some (q11.1, q11.2, ur)) else (if v1 = (8 : Int32) then ((X1_text tp cu).bind fun q14 => some ((((X1_place cu)).toInt64), q14.2, (ur.1, ur.2.1, ur.2.2.1, ur.2.2.2.1, ur.2.2.2.2.1, (X1_place cu), q14.1))) else (if v1 = (11 : Int32) then ((X1_number tp cu (1 : Int32)).bind fun q17 => some (q17.1, q17.2, ur)) else (if v1 = (13 : Int32) then ((X1_sleb tp cu).bind fun q20 => some (q20.1, q20.2, ur)) else (if v1 = (14 : Int32) then ((X9_readToldText tp cu se ur).bind fun q23 => some (q23.1, q23.2.1, q23.2.2)) else (if v1 = (15 : Int32) then ((X1_uleb tp cu).bind fun q26 => some (q26.1, q26.2, ur)) else (if v1 = (19 : Int32) then ((X9_readReference tp cu ur).bind fun q29 => some (q29.1, q29.2.1, q29.2.2)) else (if v1 = (23 : Int32) then ((X1_number tp cu (4 : Int32)).bind fun q32 => some (q32.1, q32.2, ur)) else (if v1 = (24 : Int32) then ((X9_skipBytes tp cu).bind fun q35 => some (q35.1, q35.2, ur)) else (if v1 = (25 : Int32) then some ((1 : Int64), cu, ur) else some (v2, cu, ur))))))))))))))
set_option maxRecDepth 20000 in
theorem bX9_readValue_0 (C : Cx p s m args meth c cX9_readValue 4 (some .long) RX9 (.code yX9_readValue cX9_readValue 4 (some .long))) (hI : Apart ad 89) (hK : va_K D vwCl (tysX cy) s) (hN : NW s)  {q : Int64 × Tcu × Tur}  {v1 : Int32} {v2 : Int64} (h : X9_readValue tp cu se ur v1 v2 = some q) {ls : Array Slot} (hl : lv_has ls 4 [(0, .ref (ad 8)), (1, .int v1), (2, .long v2)]) {H : Heap} {locs : List Loc} (hP : va_P D vwCl (GX cy ad tk sp nm tp kp cu se ur ab lo im sy un en ra li i2) H) (hS : va_S (Ac ad 89) s.heap H locs) : W p l e ({ frames := 3, cells := 0, slots := 0, locals := 75 } : Room) s m args below meth c H locs 0 0 (MQ below (QR (some (.long q.1)) D (GX cy ad tk sp nm tp kp q.2.1 se q.2.2 ab lo im sy un en ra li i2) (Ac ad 89)) args s 0 0 (Ac ad 89)) (F0 m 0 ls []) := by
  obtain ⟨hx, hb, hml, hown, hts, hr, hlk⟩ := id C
  unfold X9_readValue at h
  refine lv_iload_n hx hb dX9_readValue_0 rfl (lv_at hl 1 rfl) ?_
  by_cases c1 : v1 = (1 : Int32)
  · rw [if_pos c1] at h
    rw [c1]
    refine lv_tableIn (off := 115) (tgt := 116) hx hb dX9_readValue_1 (by decide) (by decide) (by decide) (by decide) ?_
    refine lv_aload_n hx hb dX9_readValue_116 rfl (lv_at hl 0 rfl) ?_
    obtain ⟨q2, h3, h⟩ := bnd h
    refine cRl (run_V (rest := []) C (kX9_readAddress hI h3) caX9_readAddress w829 ⟨rfl, rfl, Nat.le_of_ble_eq_true rfl, Nat.le_of_ble_eq_true rfl⟩ hK hN hP (rX8 hK hP) rfl hl.1 rfl (Nat.le_of_ble_eq_true rfl) dX9_readValue_117 ⟨Nat.zero_le _, Nat.zero_le _⟩) hS (fun H locs hP hS => ?_)
    have hP : va_P D vwCl (GX cy ad tk sp nm tp kp q2.2 se ur ab lo im sy un en ra li i2) H := hP
    obtain rfl := Option.some.inj h
    exact W.lret hx hb hr (fun t ht _ => ⟨rfl, by rw [ht]; exact hP, hS.F ht⟩) hS.2.2 dX9_readValue_120 hlk
  rw [if_neg c1] at h
  by_cases c4 : v1 = (5 : Int32)
  · rw [if_pos c4] at h
    rw [c4]
    refine lv_tableIn (off := 129) (tgt := 130) hx hb dX9_readValue_1 (by decide) (by decide) (by decide) (by decide) ?_
    refine lv_aload_n hx hb dX9_readValue_130 rfl (lv_at hl 0 rfl) ?_
    refine gX8_0 C hK hP w209 dX9_readValue_131 ?_
    refine lv_iconst (v := (2 : Int32)) hx hb dX9_readValue_134 (by decide) ?_
    obtain ⟨q5, h6, h⟩ := bnd h
    refine cRl (run_V (rest := []) C (kX1_number hI h6) caX1_number w731 ⟨rfl, rfl, Nat.le_of_ble_eq_true rfl, Nat.le_of_ble_eq_true rfl⟩ hK hN hP (rX3 hK hP) rfl hl.1 rfl (Nat.le_of_ble_eq_true rfl) dX9_readValue_135 ⟨Nat.zero_le _, Nat.zero_le _⟩) hS (fun H locs hP hS => ?_)
    have hP : va_P D vwCl (GX cy ad tk sp nm tp kp q5.2 se ur ab lo im sy un en ra li i2) H := hP
    obtain rfl := Option.some.inj h
    exact W.lret hx hb hr (fun t ht _ => ⟨rfl, by rw [ht]; exact hP, hS.F ht⟩) hS.2.2 dX9_readValue_138 hlk
  rw [if_neg c4] at h
  by_cases c7 : v1 = (6 : Int32)
  · rw [if_pos c7] at h
    rw [c7]
    refine lv_tableIn (off := 138) (tgt := 139) hx hb dX9_readValue_1 (by decide) (by decide) (by decide) (by decide) ?_
    refine lv_aload_n hx hb dX9_readValue_139 rfl (lv_at hl 0 rfl) ?_
    refine gX8_0 C hK hP w209 dX9_readValue_140 ?_
    refine lv_iconst (v := (4 : Int32)) hx hb dX9_readValue_143 (by decide) ?_
    obtain ⟨q8, h9, h⟩ := bnd h
    refine cRl (run_V (rest := []) C (kX1_number hI h9) caX1_number w731 ⟨rfl, rfl, Nat.le_of_ble_eq_true rfl, Nat.le_of_ble_eq_true rfl⟩ hK hN hP (rX3 hK hP) rfl hl.1 rfl (Nat.le_of_ble_eq_true rfl) dX9_readValue_144 ⟨Nat.zero_le _, Nat.zero_le _⟩) hS (fun H locs hP hS => ?_)
    have hP : va_P D vwCl (GX cy ad tk sp nm tp kp q8.2 se ur ab lo im sy un en ra li i2) H := hP
    obtain rfl := Option.some.inj h
    exact W.lret hx hb hr (fun t ht _ => ⟨rfl, by rw [ht]; exact hP, hS.F ht⟩) hS.2.2 dX9_readValue_147 hlk
  rw [if_neg c7] at h
  by_cases c10 : v1 = (7 : Int32)
  · rw [if_pos c10] at h
    rw [c10]
    refine lv_tableIn (off := 147) (tgt := 148) hx hb dX9_readValue_1 (by decide) (by decide) (by decide) (by decide) ?_
    refine lv_aload_n hx hb dX9_readValue_148 rfl (lv_at hl 0 rfl) ?_
    refine gX8_0 C hK hP w209 dX9_readValue_149 ?_
    refine lv_bipush (v := (8 : Int32)) hx hb dX9_readValue_152 (by decide) ?_
    obtain ⟨q11, h12, h⟩ := bnd h
    refine cRl (run_V (rest := []) C (kX1_number hI h12) caX1_number w731 ⟨rfl, rfl, Nat.le_of_ble_eq_true rfl, Nat.le_of_ble_eq_true rfl⟩ hK hN hP (rX3 hK hP) rfl hl.1 rfl (Nat.le_of_ble_eq_true rfl) dX9_readValue_154 ⟨Nat.zero_le _, Nat.zero_le _⟩) hS (fun H locs hP hS => ?_)
    have hP : va_P D vwCl (GX cy ad tk sp nm tp kp q11.2 se ur ab lo im sy un en ra li i2) H := hP
    obtain rfl := Option.some.inj h
    exact W.lret hx hb hr (fun t ht _ => ⟨rfl, by rw [ht]; exact hP, hS.F ht⟩) hS.2.2 dX9_readValue_157 hlk
  rw [if_neg c10] at h
  by_cases c13 : v1 = (8 : Int32)
  · rw [if_pos c13] at h
    rw [c13]
    refine lv_tableIn (off := 173) (tgt := 174) hx hb dX9_readValue_1 (by decide) (by decide) (by decide) (by decide) ?_
    refine lv_aload_n hx hb dX9_readValue_174 rfl (lv_at hl 0 rfl) ?_
    refine lv_aload_n hx hb dX9_readValue_175 rfl (lv_at hl 0 rfl) ?_
    refine gX8_0 C hK hP w209 dX9_readValue_176 ?_
    refine cPi (run_V (rest := [.ref (ad 8)]) C (kX1_place rfl) caX1_place w727 ⟨rfl, rfl, Nat.le_of_ble_eq_true rfl, Nat.le_of_ble_eq_true rfl⟩ hK hN hP (rX3 hK hP) rfl hl.1 rfl (Nat.le_of_ble_eq_true rfl) dX9_readValue_179 ⟨Nat.zero_le _, Nat.zero_le _⟩) ?_
    refine pX8_8 (v := (X1_place cu)) C hI hK hP hS w217 dX9_readValue_182 (fun H locs hP hS => ?_)
    have hP : va_P D vwCl (GX cy ad tk sp nm tp kp cu se (ur.1, ur.2.1, ur.2.2.1, ur.2.2.2.1, ur.2.2.2.2.1, (X1_place cu), ur.2.2.2.2.2.2) ab lo im sy un en ra li i2) H := hP
    refine lv_aload_n hx hb dX9_readValue_185 rfl (lv_at hl 0 rfl) ?_
    refine lv_aload_n hx hb dX9_readValue_186 rfl (lv_at hl 0 rfl) ?_
    refine gX8_0 C hK hP w209 dX9_readValue_187 ?_
    obtain ⟨q14, h15, h⟩ := bnd h
    refine cRi (run_V (rest := [.ref (ad 8)]) C (kX1_text hI h15) caX1_text w834 ⟨rfl, rfl, Nat.le_of_ble_eq_true rfl, Nat.le_of_ble_eq_true rfl⟩ hK hN hP (rX3 hK hP) rfl hl.1 rfl (Nat.le_of_ble_eq_true rfl) dX9_readValue_190 ⟨Nat.zero_le _, Nat.zero_le _⟩) hS (fun H locs hP hS => ?_)
    have hP : va_P D vwCl (GX cy ad tk sp nm tp kp q14.2 se (ur.1, ur.2.1, ur.2.2.1, ur.2.2.2.1, ur.2.2.2.2.1, (X1_place cu), ur.2.2.2.2.2.2) ab lo im sy un en ra li i2) H := hP
    refine pX8_9 (v := q14.1) C hI hK hP hS w218 dX9_readValue_193 (fun H locs hP hS => ?_)
    have hP : va_P D vwCl (GX cy ad tk sp nm tp kp q14.2 se (ur.1, ur.2.1, ur.2.2.1, ur.2.2.2.1, ur.2.2.2.2.1, (X1_place cu), q14.1) ab lo im sy un en ra li i2) H := hP
    refine lv_aload_n hx hb dX9_readValue_196 rfl (lv_at hl 0 rfl) ?_
    refine gX8_8 (v := (X1_place cu)) C hK hP rfl w217 dX9_readValue_197 ?_
    refine lv_i2l (v := (((X1_place cu)).toInt64)) hx hb dX9_readValue_200 rfl ?_
    obtain rfl := Option.some.inj h
    exact W.lret hx hb hr (fun t ht _ => ⟨rfl, by rw [ht]; exact hP, hS.F ht⟩) hS.2.2 dX9_readValue_201 hlk
  rw [if_neg c13] at h
  by_cases c16 : v1 = (11 : Int32)
  · rw [if_pos c16] at h
    rw [c16]
    refine lv_tableIn (off := 120) (tgt := 121) hx hb dX9_readValue_1 (by decide) (by decide) (by decide) (by decide) ?_
    refine lv_aload_n hx hb dX9_readValue_121 rfl (lv_at hl 0 rfl) ?_
    refine gX8_0 C hK hP w209 dX9_readValue_122 ?_
    refine lv_iconst (v := (1 : Int32)) hx hb dX9_readValue_125 (by decide) ?_
    obtain ⟨q17, h18, h⟩ := bnd h
    refine cRl (run_V (rest := []) C (kX1_number hI h18) caX1_number w731 ⟨rfl, rfl, Nat.le_of_ble_eq_true rfl, Nat.le_of_ble_eq_true rfl⟩ hK hN hP (rX3 hK hP) rfl hl.1 rfl (Nat.le_of_ble_eq_true rfl) dX9_readValue_126 ⟨Nat.zero_le _, Nat.zero_le _⟩) hS (fun H locs hP hS => ?_)
    have hP : va_P D vwCl (GX cy ad tk sp nm tp kp q17.2 se ur ab lo im sy un en ra li i2) H := hP
    obtain rfl := Option.some.inj h
    exact W.lret hx hb hr (fun t ht _ => ⟨rfl, by rw [ht]; exact hP, hS.F ht⟩) hS.2.2 dX9_readValue_129 hlk
  rw [if_neg c16] at h
  by_cases c19 : v1 = (13 : Int32)
  · rw [if_pos c19] at h
    rw [c19]
    refine lv_tableIn (off := 165) (tgt := 166) hx hb dX9_readValue_1 (by decide) (by decide) (by decide) (by decide) ?_
    refine lv_aload_n hx hb dX9_readValue_166 rfl (lv_at hl 0 rfl) ?_
    refine gX8_0 C hK hP w209 dX9_readValue_167 ?_
    obtain ⟨q20, h21, h⟩ := bnd h
    refine cRl (run_V (rest := []) C (kX1_sleb hI h21) caX1_sleb w833 ⟨rfl, rfl, Nat.le_of_ble_eq_true rfl, Nat.le_of_ble_eq_true rfl⟩ hK hN hP (rX3 hK hP) rfl hl.1 rfl (Nat.le_of_ble_eq_true rfl) dX9_readValue_170 ⟨Nat.zero_le _, Nat.zero_le _⟩) hS (fun H locs hP hS => ?_)
    have hP : va_P D vwCl (GX cy ad tk sp nm tp kp q20.2 se ur ab lo im sy un en ra li i2) H := hP
    obtain rfl := Option.some.inj h
    exact W.lret hx hb hr (fun t ht _ => ⟨rfl, by rw [ht]; exact hP, hS.F ht⟩) hS.2.2 dX9_readValue_173 hlk
  rw [if_neg c19] at h
  by_cases c22 : v1 = (14 : Int32)
  · rw [if_pos c22] at h
    rw [c22]
    refine lv_tableIn (off := 201) (tgt := 202) hx hb dX9_readValue_1 (by decide) (by decide) (by decide) (by decide) ?_
    refine lv_aload_n hx hb dX9_readValue_202 rfl (lv_at hl 0 rfl) ?_
    obtain ⟨q23, h24, h⟩ := bnd h
    refine cRl (run_V (rest := []) C (kX9_readToldText hI h24) caX9_readToldText w838 ⟨rfl, rfl, Nat.le_of_ble_eq_true rfl, Nat.le_of_ble_eq_true rfl⟩ hK hN hP (rX8 hK hP) rfl hl.1 rfl (Nat.le_of_ble_eq_true rfl) dX9_readValue_203 ⟨Nat.zero_le _, Nat.zero_le _⟩) hS (fun H locs hP hS => ?_)
    have hP : va_P D vwCl (GX cy ad tk sp nm tp kp q23.2.1 se q23.2.2 ab lo im sy un en ra li i2) H := hP
    obtain rfl := Option.some.inj h
    exact W.lret hx hb hr (fun t ht _ => ⟨rfl, by rw [ht]; exact hP, hS.F ht⟩) hS.2.2 dX9_readValue_206 hlk
  rw [if_neg c22] at h
  by_cases c25 : v1 = (15 : Int32)
  · rw [if_pos c25] at h
    rw [c25]
    refine lv_tableIn (off := 157) (tgt := 158) hx hb dX9_readValue_1 (by decide) (by decide) (by decide) (by decide) ?_
    refine lv_aload_n hx hb dX9_readValue_158 rfl (lv_at hl 0 rfl) ?_
    refine gX8_0 C hK hP w209 dX9_readValue_159 ?_
    obtain ⟨q26, h27, h⟩ := bnd h
    refine cRl (run_V (rest := []) C (kX1_uleb hI h27) caX1_uleb w796 ⟨rfl, rfl, Nat.le_of_ble_eq_true rfl, Nat.le_of_ble_eq_true rfl⟩ hK hN hP (rX3 hK hP) rfl hl.1 rfl (Nat.le_of_ble_eq_true rfl) dX9_readValue_162 ⟨Nat.zero_le _, Nat.zero_le _⟩) hS (fun H locs hP hS => ?_)
    have hP : va_P D vwCl (GX cy ad tk sp nm tp kp q26.2 se ur ab lo im sy un en ra li i2) H := hP
    obtain rfl := Option.some.inj h
    exact W.lret hx hb hr (fun t ht _ => ⟨rfl, by rw [ht]; exact hP, hS.F ht⟩) hS.2.2 dX9_readValue_165 hlk
  rw [if_neg c25] at h
  by_cases c28 : v1 = (19 : Int32)
  · rw [if_pos c28] at h
    rw [c28]
    refine lv_tableIn (off := 206) (tgt := 207) hx hb dX9_readValue_1 (by decide) (by decide) (by decide) (by decide) ?_
    refine lv_aload_n hx hb dX9_readValue_207 rfl (lv_at hl 0 rfl) ?_
    obtain ⟨q29, h30, h⟩ := bnd h
    refine cRl (run_V (rest := []) C (kX9_readReference hI h30) caX9_readReference w843 ⟨rfl, rfl, Nat.le_of_ble_eq_true rfl, Nat.le_of_ble_eq_true rfl⟩ hK hN hP (rX8 hK hP) rfl hl.1 rfl (Nat.le_of_ble_eq_true rfl) dX9_readValue_208 ⟨Nat.zero_le _, Nat.zero_le _⟩) hS (fun H locs hP hS => ?_)
    have hP : va_P D vwCl (GX cy ad tk sp nm tp kp q29.2.1 se q29.2.2 ab lo im sy un en ra li i2) H := hP
    obtain rfl := Option.some.inj h
    exact W.lret hx hb hr (fun t ht _ => ⟨rfl, by rw [ht]; exact hP, hS.F ht⟩) hS.2.2 dX9_readValue_211 hlk
  rw [if_neg c28] at h
  by_cases c31 : v1 = (23 : Int32)
  · rw [if_pos c31] at h
    rw [c31]
    refine lv_tableIn (off := 138) (tgt := 139) hx hb dX9_readValue_1 (by decide) (by decide) (by decide) (by decide) ?_
    refine lv_aload_n hx hb dX9_readValue_139 rfl (lv_at hl 0 rfl) ?_
    refine gX8_0 C hK hP w209 dX9_readValue_140 ?_
    refine lv_iconst (v := (4 : Int32)) hx hb dX9_readValue_143 (by decide) ?_
    obtain ⟨q32, h33, h⟩ := bnd h
    refine cRl (run_V (rest := []) C (kX1_number hI h33) caX1_number w731 ⟨rfl, rfl, Nat.le_of_ble_eq_true rfl, Nat.le_of_ble_eq_true rfl⟩ hK hN hP (rX3 hK hP) rfl hl.1 rfl (Nat.le_of_ble_eq_true rfl) dX9_readValue_144 ⟨Nat.zero_le _, Nat.zero_le _⟩) hS (fun H locs hP hS => ?_)
    have hP : va_P D vwCl (GX cy ad tk sp nm tp kp q32.2 se ur ab lo im sy un en ra li i2) H := hP
    obtain rfl := Option.some.inj h
    exact W.lret hx hb hr (fun t ht _ => ⟨rfl, by rw [ht]; exact hP, hS.F ht⟩) hS.2.2 dX9_readValue_147 hlk
  rw [if_neg c31] at h
  by_cases c34 : v1 = (24 : Int32)
  · rw [if_pos c34] at h
    rw [c34]
    refine lv_tableIn (off := 211) (tgt := 212) hx hb dX9_readValue_1 (by decide) (by decide) (by decide) (by decide) ?_
    refine lv_aload_n hx hb dX9_readValue_212 rfl (lv_at hl 0 rfl) ?_
    obtain ⟨q35, h36, h⟩ := bnd h
    refine cRl (run_V (rest := []) C (kX9_skipBytes hI h36) caX9_skipBytes w848 ⟨rfl, rfl, Nat.le_of_ble_eq_true rfl, Nat.le_of_ble_eq_true rfl⟩ hK hN hP (rX8 hK hP) rfl hl.1 rfl (Nat.le_of_ble_eq_true rfl) dX9_readValue_213 ⟨Nat.zero_le _, Nat.zero_le _⟩) hS (fun H locs hP hS => ?_)
    have hP : va_P D vwCl (GX cy ad tk sp nm tp kp q35.2 se ur ab lo im sy un en ra li i2) H := hP
    obtain rfl := Option.some.inj h
    exact W.lret hx hb hr (fun t ht _ => ⟨rfl, by rw [ht]; exact hP, hS.F ht⟩) hS.2.2 dX9_readValue_216 hlk
  rw [if_neg c34] at h
  by_cases c37 : v1 = (25 : Int32)
  · rw [if_pos c37] at h
    rw [c37]
    refine lv_tableIn (off := 216) (tgt := 217) hx hb dX9_readValue_1 (by decide) (by decide) (by decide) (by decide) ?_
    refine lv_lconst (v := (1 : Int64)) hx hb dX9_readValue_217 (by decide) ?_
    obtain rfl := Option.some.inj h
    exact W.lret hx hb hr (fun t ht _ => ⟨rfl, by rw [ht]; exact hP, hS.F ht⟩) hS.2.2 dX9_readValue_218 hlk
  rw [if_neg c37] at h
  refine tsw_d (tgt := 219) hx hb dX9_readValue_1 [(1 : Int32), (5 : Int32), (6 : Int32), (7 : Int32), (8 : Int32), (11 : Int32), (13 : Int32), (14 : Int32), (15 : Int32), (19 : Int32), (23 : Int32), (24 : Int32), (25 : Int32)] (by simp only [List.mem_cons, List.not_mem_nil, or_false]; rintro _ (rfl | rfl | rfl | rfl | rfl | rfl | rfl | rfl | rfl | rfl | rfl | rfl | rfl) <;> assumption) (by decide +kernel) (by decide) ?_
  refine lv_lload_n hx hb dX9_readValue_219 rfl (lv_at hl 2 rfl) ?_
  obtain rfl := Option.some.inj h
  exact W.lret hx hb hr (fun t ht _ => ⟨rfl, by rw [ht]; exact hP, hS.F ht⟩) hS.2.2 dX9_readValue_220 hlk
theorem kX9_readValue (hI : Apart ad 89) {v1 : Int32} {v2 : Int64} {q : Int64 × Tcu × Tur} (h : X9_readValue tp cu se ur v1 v2 = some q) : Met l yX9_readValue (.code yX9_readValue cX9_readValue 4 (some .long) :: WA) ({ frames := 3, cells := 0, slots := 0, locals := 75 } : Room) (va_Pc [.ref (ad 8), .int v1, .long v2] (PR D cy (GX cy ad tk sp nm tp kp cu se ur ab lo im sy un en ra li i2))) (QR (some (.long q.1)) D (GX cy ad tk sp nm tp kp q.2.1 se q.2.2 ab lo im sy un en ra li i2) (Ac ad 89)) 0 0 (Ac ad 89) :=
  met_of (by decide) (Nat.le_of_ble_eq_true rfl) (fun p e s m below meth c ls C hP hK hN hl => bX9_readValue_0 C hI hK hN h hl hP va_S.rf)
def X9_readEntry_212 (tp : Ttp) (se : Tse) (ab : Tab) (k124 : Tcu → Tur → Ten → Int32 → Int32 → Int32 → Int32 → Option (Tcu × Tur × Ten)) (cu : Tcu) (ur : Tur) (en : Ten) (v6 : Int32) (v8 : Int32) (v9 : Int32) (v10 : Int32) : Option (Tcu × Tur × Ten) := k124 cu ur en v6 v8 v9 (v10 + (1 : Int32))
set_option maxRecDepth 20000 in
theorem bX9_readEntry_212 (C : Cx p s m args meth c cX9_readEntry 14 none RX9 (.code yX9_readEntry cX9_readEntry 14 none)) (hI : Apart ad 89) (hK : va_K D vwCl (tysX cy) s) (hN : NW s) {k124 : Tcu → Tur → Ten → Int32 → Int32 → Int32 → Int32 → Option (Tcu × Tur × Ten)} {q : Tcu × Tur × Ten} (hk124 : ∀ {cu : Tcu} {ur : Tur} {en : Ten} {v6 : Int32} {v8 : Int32} {v9 : Int32} {v10 : Int32}, k124 cu ur en v6 v8 v9 v10 = some q → ∀ {ls : Array Slot}, lv_has ls 14 [(0, .ref (ad 8)), (1, .ref (ad 34)), (6, .int v6), (8, .int v8), (9, .int v9), (10, .int v10)] → ∀ {H : Heap} {locs : List Loc}, va_P D vwCl (GX cy ad tk sp nm tp kp cu se ur ab lo im sy un en ra li i2) H → va_S (Ac ad 89) s.heap H locs → W p l e ({ frames := 4, cells := 0, slots := 0, locals := 102 } : Room) s m args below meth c H locs 0 0 (MQ below (QR none D (GX cy ad tk sp nm tp kp q.1 se q.2.1 ab lo im sy un q.2.2 ra li i2) (Ac ad 89)) args s 0 0 (Ac ad 89)) (F0 m 124 ls [])) {v6 : Int32} {v8 : Int32} {v9 : Int32} {v10 : Int32} (h : X9_readEntry_212 tp se ab k124 cu ur en v6 v8 v9 v10 = some q) {ls : Array Slot} (hl : lv_has ls 14 [(0, .ref (ad 8)), (1, .ref (ad 34)), (6, .int v6), (8, .int v8), (9, .int v9), (10, .int v10)]) {H : Heap} {locs : List Loc} (hP : va_P D vwCl (GX cy ad tk sp nm tp kp cu se ur ab lo im sy un en ra li i2) H) (hS : va_S (Ac ad 89) s.heap H locs) : W p l e ({ frames := 4, cells := 0, slots := 0, locals := 102 } : Room) s m args below meth c H locs 0 0 (MQ below (QR none D (GX cy ad tk sp nm tp kp q.1 se q.2.1 ab lo im sy un q.2.2 ra li i2) (Ac ad 89)) args s 0 0 (Ac ad 89)) (F0 m 212 ls []) := by
  obtain ⟨hx, hb, hml, hown, hts, hr, hlk⟩ := id C
  unfold X9_readEntry_212 at h
  refine lv_iinc (v := (v10 + (1 : Int32))) (lv' := [(10, .int (v10 + (1 : Int32))), (0, .ref (ad 8)), (1, .ref (ad 34)), (6, .int v6), (8, .int v8), (9, .int v9)]) hx hb dX9_readEntry_212 hl (k := 5) rfl rfl (by decide) rfl (fun ls hl => ?_)
  refine lv_goto (tgt := 124) hx hb dX9_readEntry_215 (by decide) ?_
  exact hk124 h (lv_sub hl [1, 2, 3, 4, 5, 0] rfl) hP hS
def X9_readEntry_218 (tp : Ttp) (se : Tse) (ab : Tab)  (cu : Tcu) (ur : Tur) (en : Ten) (v6 : Int32) (v8 : Int32) : Option (Tcu × Tur × Ten) := (if (X0_hasChildren ab v6) = 0 then some (cu, ur, en) else some (cu, ((put_i 24 ur.1 ur.2.1 v8), (ur.2.1 + (1 : Int32)), ur.2.2.1, ur.2.2.2.1, ur.2.2.2.2.1, ur.2.2.2.2.2.1, ur.2.2.2.2.2.2), en))
set_option maxRecDepth 20000 in
theorem bX9_readEntry_218 (C : Cx p s m args meth c cX9_readEntry 14 none RX9 (.code yX9_readEntry cX9_readEntry 14 none)) (hI : Apart ad 89) (hK : va_K D vwCl (tysX cy) s) (hN : NW s)  {q : Tcu × Tur × Ten}  {v6 : Int32} {v8 : Int32} (h : X9_readEntry_218 tp se ab cu ur en v6 v8 = some q) {ls : Array Slot} (hl : lv_has ls 14 [(0, .ref (ad 8)), (6, .int v6), (8, .int v8)]) {H : Heap} {locs : List Loc} (hP : va_P D vwCl (GX cy ad tk sp nm tp kp cu se ur ab lo im sy un en ra li i2) H) (hS : va_S (Ac ad 89) s.heap H locs) : W p l e ({ frames := 4, cells := 0, slots := 0, locals := 102 } : Room) s m args below meth c H locs 0 0 (MQ below (QR none D (GX cy ad tk sp nm tp kp q.1 se q.2.1 ab lo im sy un q.2.2 ra li i2) (Ac ad 89)) args s 0 0 (Ac ad 89)) (F0 m 218 ls []) := by
  obtain ⟨hx, hb, hml, hown, hts, hr, hlk⟩ := id C
  unfold X9_readEntry_218 at h
  refine lv_aload_n hx hb dX9_readEntry_218 rfl (lv_at hl 0 rfl) ?_
  refine gX8_2 C hK hP w211 dX9_readEntry_219 ?_
  refine lv_iload hx hb dX9_readEntry_222 (lv_at hl 1 rfl) ?_
  refine cPi (run_V (rest := []) C (kX0_hasChildren rfl) caX0_hasChildren w898 ⟨rfl, rfl, Nat.le_of_ble_eq_true rfl, Nat.le_of_ble_eq_true rfl⟩ hK hN hP (rX11 hK hP) rfl hl.1 rfl (Nat.le_of_ble_eq_true rfl) dX9_readEntry_224 ⟨Nat.zero_le _, Nat.zero_le _⟩) ?_
  refine lv_if_eq (tgt := 253) hx hb dX9_readEntry_227 (by decide) (fun c1 => ?_) (fun c1 => ?_)
  · rw [if_pos c1] at h
    obtain rfl := Option.some.inj h
    exact W.vret hx hb hr (fun t ht _ => ⟨rfl, by rw [ht]; exact hP, hS.F ht⟩) hS.2.2 dX9_readEntry_253 hlk
  · rw [if_neg c1] at h
    refine lv_aload_n hx hb dX9_readEntry_230 rfl (lv_at hl 0 rfl) ?_
    refine gX8_3 C hK hP w212 dX9_readEntry_231 ?_
    refine lv_aload_n hx hb dX9_readEntry_234 rfl (lv_at hl 0 rfl) ?_
    refine gX8_4 (v := ur.2.1) C hK hP rfl w213 dX9_readEntry_235 ?_
    refine lv_iload hx hb dX9_readEntry_238 (lv_at hl 2 rfl) ?_
    refine xput_i (rest := []) C hK hN hP (GX_D hI) hS eX9 (Nat.le_of_ble_eq_true rfl) w847 hl.1 (Nat.le_of_ble_eq_true rfl) dX9_readEntry_240 ⟨Nat.le_of_ble_eq_true rfl, Nat.le_of_ble_eq_true rfl⟩ ⟨Nat.zero_le _, Nat.zero_le _⟩ (fun H locs hP hS => ?_)
    have hP : va_P D vwCl (GX cy ad tk sp nm tp kp cu se ((put_i 24 ur.1 ur.2.1 v8), ur.2.1, ur.2.2.1, ur.2.2.2.1, ur.2.2.2.2.1, ur.2.2.2.2.2.1, ur.2.2.2.2.2.2) ab lo im sy un en ra li i2) H := hP
    refine lv_aload_n hx hb dX9_readEntry_243 rfl (lv_at hl 0 rfl) ?_
    refine lv_dup hx hb dX9_readEntry_244 rfl ?_
    refine gX8_4 (v := ur.2.1) C hK hP rfl w213 dX9_readEntry_245 ?_
    refine lv_iconst (v := (1 : Int32)) hx hb dX9_readEntry_248 (by decide) ?_
    refine lv_iadd hx hb dX9_readEntry_249 ?_
    refine pX8_4 (v := (ur.2.1 + (1 : Int32))) C hI hK hP hS w213 dX9_readEntry_250 (fun H locs hP hS => ?_)
    have hP : va_P D vwCl (GX cy ad tk sp nm tp kp cu se ((put_i 24 ur.1 ur.2.1 v8), (ur.2.1 + (1 : Int32)), ur.2.2.1, ur.2.2.2.1, ur.2.2.2.2.1, ur.2.2.2.2.2.1, ur.2.2.2.2.2.2) ab lo im sy un en ra li i2) H := hP
    obtain rfl := Option.some.inj h
    exact W.vret hx hb hr (fun t ht _ => ⟨rfl, by rw [ht]; exact hP, hS.F ht⟩) hS.2.2 dX9_readEntry_253 hlk
def X9_readEntry_124b (tp : Ttp) (se : Tse) (ab : Tab)  (k124 : Tcu → Tur → Ten → Int32 → Int32 → Int32 → Int32 → Option (Tcu × Tur × Ten)) (cu : Tcu) (ur : Tur) (en : Ten) (v6 : Int32) (v8 : Int32) (v9 : Int32) (v10 : Int32) : Option (Tcu × Tur × Ten) := (if v10 < (16 : Int32) then (if v10 < v9 then (if (X1_sound cu) = 0 then X9_readEntry_218 tp se ab cu ur en v6 v8 else ((X9_readValue tp cu se ur (X0_formOf ab v6 v10) (X0_valueOf ab v6 v10)).bind fun q4 => (if (X1_sound q4.2.1) = 0 then X9_readEntry_212 tp se ab k124 q4.2.1 q4.2.2 en v6 v8 v9 v10 else (letq (X9_keepValue q4.2.2 en v8 (X0_attributeOf ab v6 v10) (X0_formOf ab v6 v10) q4.1) fun q7 => X9_readEntry_212 tp se ab k124 q4.2.1 q4.2.2 q7 v6 v8 v9 v10)))) else X9_readEntry_218 tp se ab cu ur en v6 v8) else X9_readEntry_218 tp se ab cu ur en v6 v8)
def X9_readEntry_124 (tp : Ttp) (se : Tse) (ab : Tab)  (n : Nat) (st : Tcu × Tur × Ten × Int32 × Int32 × Int32 × Int32) : Option (Tcu × Tur × Ten) := lp (fun rec st => X9_readEntry_124b tp se ab  (fun a0 a1 a2 a3 a4 a5 a6 => rec (a0, a1, a2, a3, a4, a5, a6)) st.1 st.2.1 st.2.2.1 st.2.2.2.1 st.2.2.2.2.1 st.2.2.2.2.2.1 st.2.2.2.2.2.2) n st
set_option maxRecDepth 20000 in
theorem bX9_readEntry_124 (C : Cx p s m args meth c cX9_readEntry 14 none RX9 (.code yX9_readEntry cX9_readEntry 14 none)) (hI : Apart ad 89) (hK : va_K D vwCl (tysX cy) s) (hN : NW s)  {q : Tcu × Tur × Ten}  : ∀ (n : Nat) {cu : Tcu} {ur : Tur} {en : Ten} {v6 : Int32} {v8 : Int32} {v9 : Int32} {v10 : Int32}, X9_readEntry_124 tp se ab  n (cu, ur, en, v6, v8, v9, v10) = some q → ∀ {ls : Array Slot}, lv_has ls 14 [(0, .ref (ad 8)), (1, .ref (ad 34)), (6, .int v6), (8, .int v8), (9, .int v9), (10, .int v10)] → ∀ {H : Heap} {locs : List Loc}, va_P D vwCl (GX cy ad tk sp nm tp kp cu se ur ab lo im sy un en ra li i2) H → va_S (Ac ad 89) s.heap H locs → W p l e ({ frames := 4, cells := 0, slots := 0, locals := 102 } : Room) s m args below meth c H locs 0 0 (MQ below (QR none D (GX cy ad tk sp nm tp kp q.1 se q.2.1 ab lo im sy un q.2.2 ra li i2) (Ac ad 89)) args s 0 0 (Ac ad 89)) (F0 m 124 ls []) := by
  obtain ⟨hx, hb, hml, hown, hts, hr, hlk⟩ := id C
  intro n
  induction n with
  | zero =>
    intro cu ur en v6 v8 v9 v10 h ls hl H locs hP hS
    have h : (none : Option (Tcu × Tur × Ten)) = some q := h
    cases h
  | succ n ih =>
    intro cu ur en v6 v8 v9 v10 h ls hl H locs hP hS
    have h : X9_readEntry_124b tp se ab  (fun a0 a1 a2 a3 a4 a5 a6 => X9_readEntry_124 tp se ab  n (a0, a1, a2, a3, a4, a5, a6)) cu ur en v6 v8 v9 v10 = some q := h
    unfold X9_readEntry_124b at h
    refine lv_iload hx hb dX9_readEntry_124 (lv_at hl 5 rfl) ?_
    refine lv_bipush (v := (16 : Int32)) hx hb dX9_readEntry_126 (by decide) ?_
    refine b_icmp_ge (tgt := 218) hx hb dX9_readEntry_128 (by decide) (fun c1 => ?_) (fun c1 => ?_)
    · rw [if_neg c1] at h
      exact bX9_readEntry_218 C hI hK hN h (lv_sub hl [0, 2, 3] rfl) hP hS
    · rw [if_pos c1] at h
      refine lv_iload hx hb dX9_readEntry_131 (lv_at hl 5 rfl) ?_
      refine lv_iload hx hb dX9_readEntry_133 (lv_at hl 4 rfl) ?_
      refine b_icmp_ge (tgt := 218) hx hb dX9_readEntry_135 (by decide) (fun c2 => ?_) (fun c2 => ?_)
      · rw [if_neg c2] at h
        exact bX9_readEntry_218 C hI hK hN h (lv_sub hl [0, 2, 3] rfl) hP hS
      · rw [if_pos c2] at h
        refine lv_aload_n hx hb dX9_readEntry_138 rfl (lv_at hl 0 rfl) ?_
        refine gX8_0 C hK hP w209 dX9_readEntry_139 ?_
        refine cPi (run_V (rest := []) C (kX1_sound rfl) caX1_sound w697 ⟨rfl, rfl, Nat.le_of_ble_eq_true rfl, Nat.le_of_ble_eq_true rfl⟩ hK hN hP (rX3 hK hP) rfl hl.1 rfl (Nat.le_of_ble_eq_true rfl) dX9_readEntry_142 ⟨Nat.zero_le _, Nat.zero_le _⟩) ?_
        refine lv_if_eq (tgt := 218) hx hb dX9_readEntry_145 (by decide) (fun c3 => ?_) (fun c3 => ?_)
        · rw [if_pos c3] at h
          exact bX9_readEntry_218 C hI hK hN h (lv_sub hl [0, 2, 3] rfl) hP hS
        · rw [if_neg c3] at h
          refine lv_aload_n hx hb dX9_readEntry_148 rfl (lv_at hl 0 rfl) ?_
          refine gX8_2 C hK hP w211 dX9_readEntry_149 ?_
          refine lv_iload hx hb dX9_readEntry_152 (lv_at hl 2 rfl) ?_
          refine lv_iload hx hb dX9_readEntry_154 (lv_at hl 5 rfl) ?_
          refine cPi (run_V (rest := []) C (kX0_formOf rfl) caX0_formOf w817 ⟨rfl, rfl, Nat.le_of_ble_eq_true rfl, Nat.le_of_ble_eq_true rfl⟩ hK hN hP (rX11 hK hP) rfl hl.1 rfl (Nat.le_of_ble_eq_true rfl) dX9_readEntry_156 ⟨Nat.zero_le _, Nat.zero_le _⟩) ?_
          refine lv_istore (lv' := [(11, .int (X0_formOf ab v6 v10)), (0, .ref (ad 8)), (1, .ref (ad 34)), (6, .int v6), (8, .int v8), (9, .int v9), (10, .int v10)]) hx hb dX9_readEntry_159 hl (by decide) rfl (fun ls hl => ?_)
          refine lv_aload_n hx hb dX9_readEntry_161 rfl (lv_at hl 1 rfl) ?_
          refine lv_iload hx hb dX9_readEntry_162 (lv_at hl 0 rfl) ?_
          refine lv_aload_n hx hb dX9_readEntry_164 rfl (lv_at hl 1 rfl) ?_
          refine gX8_2 C hK hP w211 dX9_readEntry_165 ?_
          refine lv_iload hx hb dX9_readEntry_168 (lv_at hl 3 rfl) ?_
          refine lv_iload hx hb dX9_readEntry_170 (lv_at hl 6 rfl) ?_
          refine cPl (run_V (rest := [.int (X0_formOf ab v6 v10), .ref (ad 8)]) C (kX0_valueOf rfl) caX0_valueOf w821 ⟨rfl, rfl, Nat.le_of_ble_eq_true rfl, Nat.le_of_ble_eq_true rfl⟩ hK hN hP (rX11 hK hP) rfl hl.1 rfl (Nat.le_of_ble_eq_true rfl) dX9_readEntry_172 ⟨Nat.zero_le _, Nat.zero_le _⟩) ?_
          obtain ⟨q4, h5, h⟩ := bnd h
          refine cRl (run_V (rest := []) C (kX9_readValue hI h5) caX9_readValue w825 ⟨rfl, rfl, Nat.le_of_ble_eq_true rfl, Nat.le_of_ble_eq_true rfl⟩ hK hN hP (rX8 hK hP) rfl hl.1 rfl (Nat.le_of_ble_eq_true rfl) dX9_readEntry_175 ⟨Nat.zero_le _, Nat.zero_le _⟩) hS (fun H locs hP hS => ?_)
          have hP : va_P D vwCl (GX cy ad tk sp nm tp kp q4.2.1 se q4.2.2 ab lo im sy un en ra li i2) H := hP
          refine lv_lstore (lv' := [(12, .long q4.1), (11, .int (X0_formOf ab v6 v10)), (0, .ref (ad 8)), (1, .ref (ad 34)), (6, .int v6), (8, .int v8), (9, .int v9), (10, .int v10)]) hx hb dX9_readEntry_178 hl (by decide) rfl (fun ls hl => ?_)
          refine lv_aload_n hx hb dX9_readEntry_180 rfl (lv_at hl 2 rfl) ?_
          refine gX8_0 C hK hP w209 dX9_readEntry_181 ?_
          refine cPi (run_V (rest := []) C (kX1_sound rfl) caX1_sound w697 ⟨rfl, rfl, Nat.le_of_ble_eq_true rfl, Nat.le_of_ble_eq_true rfl⟩ hK hN hP (rX3 hK hP) rfl hl.1 rfl (Nat.le_of_ble_eq_true rfl) dX9_readEntry_184 ⟨Nat.zero_le _, Nat.zero_le _⟩) ?_
          refine lv_if_eq (tgt := 212) hx hb dX9_readEntry_187 (by decide) (fun c6 => ?_) (fun c6 => ?_)
          · rw [if_pos c6] at h
            exact bX9_readEntry_212 C hI hK hN @ih h (lv_sub hl [2, 3, 4, 5, 6, 7] rfl) hP hS
          · rw [if_neg c6] at h
            refine lv_aload_n hx hb dX9_readEntry_190 rfl (lv_at hl 2 rfl) ?_
            refine lv_aload_n hx hb dX9_readEntry_191 rfl (lv_at hl 3 rfl) ?_
            refine lv_iload hx hb dX9_readEntry_192 (lv_at hl 5 rfl) ?_
            refine lv_aload_n hx hb dX9_readEntry_194 rfl (lv_at hl 2 rfl) ?_
            refine gX8_2 C hK hP w211 dX9_readEntry_195 ?_
            refine lv_iload hx hb dX9_readEntry_198 (lv_at hl 4 rfl) ?_
            refine lv_iload hx hb dX9_readEntry_200 (lv_at hl 7 rfl) ?_
            refine cPl (run_V (rest := [.int v8, .ref (ad 34), .ref (ad 8)]) C (kX0_attributeOf rfl) caX0_attributeOf w853 ⟨rfl, rfl, Nat.le_of_ble_eq_true rfl, Nat.le_of_ble_eq_true rfl⟩ hK hN hP (rX11 hK hP) rfl hl.1 rfl (Nat.le_of_ble_eq_true rfl) dX9_readEntry_202 ⟨Nat.zero_le _, Nat.zero_le _⟩) ?_
            refine lv_iload hx hb dX9_readEntry_205 (lv_at hl 1 rfl) ?_
            refine lv_lload hx hb dX9_readEntry_207 (lv_at hl 0 rfl) ?_
            obtain ⟨q7, h8, h⟩ := lets h
            refine cRv (run_V (rest := []) C (kX9_keepValue hI h8) caX9_keepValue w857 ⟨rfl, rfl, Nat.le_of_ble_eq_true rfl, Nat.le_of_ble_eq_true rfl⟩ hK hN hP (rX8 hK hP) rfl hl.1 rfl (Nat.le_of_ble_eq_true rfl) dX9_readEntry_209 ⟨Nat.zero_le _, Nat.zero_le _⟩) hS (fun H locs hP hS => ?_)
            have hP : va_P D vwCl (GX cy ad tk sp nm tp kp q4.2.1 se q4.2.2 ab lo im sy un q7 ra li i2) H := hP
            exact bX9_readEntry_212 C hI hK hN @ih h (lv_sub hl [2, 3, 4, 5, 6, 7] rfl) hP hS
def X9_readEntry_89 (tp : Ttp) (se : Tse) (ab : Tab)  (cu : Tcu) (ur : Tur) (en : Ten) (v2 : Int32) (v3 : Int32) (v6 : Int32) (z0 : Int32) : Option (Tcu × Tur × Ten) := (letq (X2_add en (X0_tagOf ab v6) z0 v2 v3) fun q1 => X9_readEntry_124 tp se ab FU (cu, ur, q1.2, v6, q1.1, (X0_pairTotalOf ab v6), (0 : Int32)))
set_option maxRecDepth 20000 in
theorem bX9_readEntry_89 (C : Cx p s m args meth c cX9_readEntry 14 none RX9 (.code yX9_readEntry cX9_readEntry 14 none)) (hI : Apart ad 89) (hK : va_K D vwCl (tysX cy) s) (hN : NW s)  {q : Tcu × Tur × Ten}  {v2 : Int32} {v3 : Int32} {v6 : Int32} {z0 : Int32} (h : X9_readEntry_89 tp se ab cu ur en v2 v3 v6 z0 = some q) {ls : Array Slot} (hl : lv_has ls 14 [(0, .ref (ad 8)), (1, .ref (ad 34)), (2, .int v2), (3, .int v3), (6, .int v6)]) {H : Heap} {locs : List Loc} (hP : va_P D vwCl (GX cy ad tk sp nm tp kp cu se ur ab lo im sy un en ra li i2) H) (hS : va_S (Ac ad 89) s.heap H locs) : W p l e ({ frames := 4, cells := 0, slots := 0, locals := 102 } : Room) s m args below meth c H locs 0 0 (MQ below (QR none D (GX cy ad tk sp nm tp kp q.1 se q.2.1 ab lo im sy un q.2.2 ra li i2) (Ac ad 89)) args s 0 0 (Ac ad 89)) (F0 m 89 ls [.int z0]) := by
  obtain ⟨hx, hb, hml, hown, hts, hr, hlk⟩ := id C
  unfold X9_readEntry_89 at h
  refine lv_istore (lv' := [(7, .int z0), (0, .ref (ad 8)), (1, .ref (ad 34)), (2, .int v2), (3, .int v3), (6, .int v6)]) hx hb dX9_readEntry_89 hl (by decide) rfl (fun ls hl => ?_)
  refine lv_aload_n hx hb dX9_readEntry_91 rfl (lv_at hl 2 rfl) ?_
  refine lv_aload_n hx hb dX9_readEntry_92 rfl (lv_at hl 1 rfl) ?_
  refine gX8_2 C hK hP w211 dX9_readEntry_93 ?_
  refine lv_iload hx hb dX9_readEntry_96 (lv_at hl 5 rfl) ?_
  refine cPl (run_V (rest := [.ref (ad 34)]) C (kX0_tagOf rfl) caX0_tagOf w803 ⟨rfl, rfl, Nat.le_of_ble_eq_true rfl, Nat.le_of_ble_eq_true rfl⟩ hK hN hP (rX11 hK hP) rfl hl.1 rfl (Nat.le_of_ble_eq_true rfl) dX9_readEntry_98 ⟨Nat.zero_le _, Nat.zero_le _⟩) ?_
  refine lv_iload hx hb dX9_readEntry_101 (lv_at hl 0 rfl) ?_
  refine lv_iload_n hx hb dX9_readEntry_103 rfl (lv_at hl 3 rfl) ?_
  refine lv_iload_n hx hb dX9_readEntry_104 rfl (lv_at hl 4 rfl) ?_
  obtain ⟨q1, h2, h⟩ := lets h
  refine cRi (run_V (rest := []) C (kX2_add hI h2) caX2_add w807 ⟨rfl, rfl, Nat.le_of_ble_eq_true rfl, Nat.le_of_ble_eq_true rfl⟩ hK hN hP (rX34 hK hP) rfl hl.1 rfl (Nat.le_of_ble_eq_true rfl) dX9_readEntry_105 ⟨Nat.zero_le _, Nat.zero_le _⟩) hS (fun H locs hP hS => ?_)
  have hP : va_P D vwCl (GX cy ad tk sp nm tp kp cu se ur ab lo im sy un q1.2 ra li i2) H := hP
  refine lv_istore (lv' := [(8, .int q1.1), (7, .int z0), (0, .ref (ad 8)), (1, .ref (ad 34)), (2, .int v2), (3, .int v3), (6, .int v6)]) hx hb dX9_readEntry_108 hl (by decide) rfl (fun ls hl => ?_)
  refine lv_aload_n hx hb dX9_readEntry_110 rfl (lv_at hl 2 rfl) ?_
  refine gX8_2 C hK hP w211 dX9_readEntry_111 ?_
  refine lv_iload hx hb dX9_readEntry_114 (lv_at hl 6 rfl) ?_
  refine cPi (run_V (rest := []) C (kX0_pairTotalOf rfl) caX0_pairTotalOf w813 ⟨rfl, rfl, Nat.le_of_ble_eq_true rfl, Nat.le_of_ble_eq_true rfl⟩ hK hN hP (rX11 hK hP) rfl hl.1 rfl (Nat.le_of_ble_eq_true rfl) dX9_readEntry_116 ⟨Nat.zero_le _, Nat.zero_le _⟩) ?_
  refine lv_istore (lv' := [(9, .int (X0_pairTotalOf ab v6)), (8, .int q1.1), (7, .int z0), (0, .ref (ad 8)), (1, .ref (ad 34)), (2, .int v2), (3, .int v3), (6, .int v6)]) hx hb dX9_readEntry_119 hl (by decide) rfl (fun ls hl => ?_)
  refine lv_iconst (v := (0 : Int32)) hx hb dX9_readEntry_121 (by decide) ?_
  refine lv_istore (lv' := [(10, .int (0 : Int32)), (9, .int (X0_pairTotalOf ab v6)), (8, .int q1.1), (7, .int z0), (0, .ref (ad 8)), (1, .ref (ad 34)), (2, .int v2), (3, .int v3), (6, .int v6)]) hx hb dX9_readEntry_122 hl (by decide) rfl (fun ls hl => ?_)
  exact bX9_readEntry_124 C hI hK hN FU h (lv_sub hl [4, 5, 8, 2, 1, 0] rfl) hP hS
def X9_readEntry_54 (tp : Ttp) (se : Tse) (ab : Tab)  (cu : Tcu) (ur : Tur) (en : Ten) (v2 : Int32) (v3 : Int32) (v6 : Int32) : Option (Tcu × Tur × Ten) := (if (X1_sound cu) = 0 then some (cu, ur, en) else (if 0 < ur.2.1 then X9_readEntry_89 tp se ab cu ur en v2 v3 v6 (at_i 24 ur.1 (ur.2.1 - (1 : Int32))) else X9_readEntry_89 tp se ab cu ur en v2 v3 v6 (-1 : Int32)))
set_option maxRecDepth 20000 in
theorem bX9_readEntry_54 (C : Cx p s m args meth c cX9_readEntry 14 none RX9 (.code yX9_readEntry cX9_readEntry 14 none)) (hI : Apart ad 89) (hK : va_K D vwCl (tysX cy) s) (hN : NW s)  {q : Tcu × Tur × Ten}  {v2 : Int32} {v3 : Int32} {v6 : Int32} (h : X9_readEntry_54 tp se ab cu ur en v2 v3 v6 = some q) {ls : Array Slot} (hl : lv_has ls 14 [(0, .ref (ad 8)), (1, .ref (ad 34)), (2, .int v2), (3, .int v3), (6, .int v6)]) {H : Heap} {locs : List Loc} (hP : va_P D vwCl (GX cy ad tk sp nm tp kp cu se ur ab lo im sy un en ra li i2) H) (hS : va_S (Ac ad 89) s.heap H locs) : W p l e ({ frames := 4, cells := 0, slots := 0, locals := 102 } : Room) s m args below meth c H locs 0 0 (MQ below (QR none D (GX cy ad tk sp nm tp kp q.1 se q.2.1 ab lo im sy un q.2.2 ra li i2) (Ac ad 89)) args s 0 0 (Ac ad 89)) (F0 m 54 ls []) := by
  obtain ⟨hx, hb, hml, hown, hts, hr, hlk⟩ := id C
  unfold X9_readEntry_54 at h
  refine lv_aload_n hx hb dX9_readEntry_54 rfl (lv_at hl 0 rfl) ?_
  refine gX8_0 C hK hP w209 dX9_readEntry_55 ?_
  refine cPi (run_V (rest := []) C (kX1_sound rfl) caX1_sound w697 ⟨rfl, rfl, Nat.le_of_ble_eq_true rfl, Nat.le_of_ble_eq_true rfl⟩ hK hN hP (rX3 hK hP) rfl hl.1 rfl (Nat.le_of_ble_eq_true rfl) dX9_readEntry_58 ⟨Nat.zero_le _, Nat.zero_le _⟩) ?_
  refine lv_if_ne (tgt := 65) hx hb dX9_readEntry_61 (by decide) (fun c1 => ?_) (fun c1 => ?_)
  · rw [if_neg c1] at h
    refine lv_aload_n hx hb dX9_readEntry_65 rfl (lv_at hl 0 rfl) ?_
    refine gX8_4 (v := ur.2.1) C hK hP rfl w213 dX9_readEntry_66 ?_
    refine b_if_le (tgt := 88) hx hb dX9_readEntry_69 (by decide) (fun c2 => ?_) (fun c2 => ?_)
    · rw [if_neg c2] at h
      refine lv_iconst (v := (-1 : Int32)) hx hb dX9_readEntry_88 (by decide) ?_
      exact bX9_readEntry_89 C hI hK hN h (lv_sub hl [0, 1, 2, 3, 4] rfl) hP hS
    · rw [if_pos c2] at h
      refine lv_aload_n hx hb dX9_readEntry_72 rfl (lv_at hl 0 rfl) ?_
      refine gX8_3 C hK hP w212 dX9_readEntry_73 ?_
      refine lv_aload_n hx hb dX9_readEntry_76 rfl (lv_at hl 0 rfl) ?_
      refine gX8_4 (v := ur.2.1) C hK hP rfl w213 dX9_readEntry_77 ?_
      refine lv_iconst (v := (1 : Int32)) hx hb dX9_readEntry_80 (by decide) ?_
      refine lv_isub hx hb dX9_readEntry_81 ?_
      refine xat_i (rest := []) C hK hN hP eX9 (Nat.le_of_ble_eq_true rfl) w802 hl.1 (Nat.le_of_ble_eq_true rfl) dX9_readEntry_82 ⟨Nat.le_of_ble_eq_true rfl, Nat.le_of_ble_eq_true rfl⟩ ⟨Nat.zero_le _, Nat.zero_le _⟩ ?_
      refine lv_goto (tgt := 89) hx hb dX9_readEntry_85 (by decide) ?_
      exact bX9_readEntry_89 C hI hK hN h (lv_sub hl [0, 1, 2, 3, 4] rfl) hP hS
  · rw [if_pos c1] at h
    obtain rfl := Option.some.inj h
    exact W.vret hx hb hr (fun t ht _ => ⟨rfl, by rw [ht]; exact hP, hS.F ht⟩) hS.2.2 dX9_readEntry_64 hlk
def X9_readEntry_45 (tp : Ttp) (se : Tse) (ab : Tab)  (cu : Tcu) (ur : Tur) (en : Ten) (v2 : Int32) (v3 : Int32) (v6 : Int32) : Option (Tcu × Tur × Ten) := (letq (X1_refuse cu (4 : Int32) v3) fun q1 => X9_readEntry_54 tp se ab q1 ur en v2 v3 v6)
set_option maxRecDepth 20000 in
theorem bX9_readEntry_45 (C : Cx p s m args meth c cX9_readEntry 14 none RX9 (.code yX9_readEntry cX9_readEntry 14 none)) (hI : Apart ad 89) (hK : va_K D vwCl (tysX cy) s) (hN : NW s)  {q : Tcu × Tur × Ten}  {v2 : Int32} {v3 : Int32} {v6 : Int32} (h : X9_readEntry_45 tp se ab cu ur en v2 v3 v6 = some q) {ls : Array Slot} (hl : lv_has ls 14 [(0, .ref (ad 8)), (1, .ref (ad 34)), (2, .int v2), (3, .int v3), (6, .int v6)]) {H : Heap} {locs : List Loc} (hP : va_P D vwCl (GX cy ad tk sp nm tp kp cu se ur ab lo im sy un en ra li i2) H) (hS : va_S (Ac ad 89) s.heap H locs) : W p l e ({ frames := 4, cells := 0, slots := 0, locals := 102 } : Room) s m args below meth c H locs 0 0 (MQ below (QR none D (GX cy ad tk sp nm tp kp q.1 se q.2.1 ab lo im sy un q.2.2 ra li i2) (Ac ad 89)) args s 0 0 (Ac ad 89)) (F0 m 45 ls []) := by
  obtain ⟨hx, hb, hml, hown, hts, hr, hlk⟩ := id C
  unfold X9_readEntry_45 at h
  refine lv_aload_n hx hb dX9_readEntry_45 rfl (lv_at hl 0 rfl) ?_
  refine gX8_0 C hK hP w209 dX9_readEntry_46 ?_
  refine lv_iconst (v := (4 : Int32)) hx hb dX9_readEntry_49 (by decide) ?_
  refine lv_iload_n hx hb dX9_readEntry_50 rfl (lv_at hl 3 rfl) ?_
  obtain ⟨q1, h2, h⟩ := lets h
  refine cRv (run_V (rest := []) C (kX1_refuse hI h2) caX1_refuse w722 ⟨rfl, rfl, Nat.le_of_ble_eq_true rfl, Nat.le_of_ble_eq_true rfl⟩ hK hN hP (rX3 hK hP) rfl hl.1 rfl (Nat.le_of_ble_eq_true rfl) dX9_readEntry_51 ⟨Nat.zero_le _, Nat.zero_le _⟩) hS (fun H locs hP hS => ?_)
  have hP : va_P D vwCl (GX cy ad tk sp nm tp kp q1 se ur ab lo im sy un en ra li i2) H := hP
  exact bX9_readEntry_54 C hI hK hN h (lv_sub hl [0, 1, 2, 3, 4] rfl) hP hS
def X9_readEntry_26 (tp : Ttp) (se : Tse) (ab : Tab)  (cu : Tcu) (ur : Tur) (en : Ten) (v2 : Int32) (v3 : Int32) (v6 : Int32) : Option (Tcu × Tur × Ten) := (if (X2_total en) < (400 : Int32) then (if ur.2.1 < (24 : Int32) then X9_readEntry_54 tp se ab cu ur en v2 v3 v6 else X9_readEntry_45 tp se ab cu ur en v2 v3 v6) else X9_readEntry_45 tp se ab cu ur en v2 v3 v6)
set_option maxRecDepth 20000 in
theorem bX9_readEntry_26 (C : Cx p s m args meth c cX9_readEntry 14 none RX9 (.code yX9_readEntry cX9_readEntry 14 none)) (hI : Apart ad 89) (hK : va_K D vwCl (tysX cy) s) (hN : NW s)  {q : Tcu × Tur × Ten}  {v2 : Int32} {v3 : Int32} {v6 : Int32} (h : X9_readEntry_26 tp se ab cu ur en v2 v3 v6 = some q) {ls : Array Slot} (hl : lv_has ls 14 [(0, .ref (ad 8)), (1, .ref (ad 34)), (2, .int v2), (3, .int v3), (6, .int v6)]) {H : Heap} {locs : List Loc} (hP : va_P D vwCl (GX cy ad tk sp nm tp kp cu se ur ab lo im sy un en ra li i2) H) (hS : va_S (Ac ad 89) s.heap H locs) : W p l e ({ frames := 4, cells := 0, slots := 0, locals := 102 } : Room) s m args below meth c H locs 0 0 (MQ below (QR none D (GX cy ad tk sp nm tp kp q.1 se q.2.1 ab lo im sy un q.2.2 ra li i2) (Ac ad 89)) args s 0 0 (Ac ad 89)) (F0 m 26 ls []) := by
  obtain ⟨hx, hb, hml, hown, hts, hr, hlk⟩ := id C
  unfold X9_readEntry_26 at h
  refine lv_aload_n hx hb dX9_readEntry_26 rfl (lv_at hl 1 rfl) ?_
  refine cPi (run_V (rest := []) C (kX2_total rfl) caX2_total w742 ⟨rfl, rfl, Nat.le_of_ble_eq_true rfl, Nat.le_of_ble_eq_true rfl⟩ hK hN hP (rX34 hK hP) rfl hl.1 rfl (Nat.le_of_ble_eq_true rfl) dX9_readEntry_27 ⟨Nat.zero_le _, Nat.zero_le _⟩) ?_
  refine lv_sipush (v := (400 : Int32)) hx hb dX9_readEntry_30 (by decide) ?_
  refine b_icmp_ge (tgt := 45) hx hb dX9_readEntry_33 (by decide) (fun c1 => ?_) (fun c1 => ?_)
  · rw [if_neg c1] at h
    exact bX9_readEntry_45 C hI hK hN h (lv_sub hl [0, 1, 2, 3, 4] rfl) hP hS
  · rw [if_pos c1] at h
    refine lv_aload_n hx hb dX9_readEntry_36 rfl (lv_at hl 0 rfl) ?_
    refine gX8_4 (v := ur.2.1) C hK hP rfl w213 dX9_readEntry_37 ?_
    refine lv_bipush (v := (24 : Int32)) hx hb dX9_readEntry_40 (by decide) ?_
    refine lv_icmp_lt (tgt := 54) hx hb dX9_readEntry_42 (by decide) (fun c2 => ?_) (fun c2 => ?_)
    · rw [if_pos c2] at h
      exact bX9_readEntry_54 C hI hK hN h (lv_sub hl [0, 1, 2, 3, 4] rfl) hP hS
    · rw [if_neg c2] at h
      exact bX9_readEntry_45 C hI hK hN h (lv_sub hl [0, 1, 2, 3, 4] rfl) hP hS
def X9_readEntry (tp : Ttp) (cu : Tcu) (se : Tse) (ur : Tur) (ab : Tab) (en : Ten) (v2 : Int32) (v3 : Int32) (v4 : Int64) : Option (Tcu × Tur × Ten) := ((X0_indexOf ab v4).bind fun q1 => (if q1 = (-1 : Int32) then (letq (X1_refuse cu (3 : Int32) v3) fun q4 => X9_readEntry_26 tp se ab q4 ur en v2 v3 q1) else X9_readEntry_26 tp se ab cu ur en v2 v3 q1))
set_option maxRecDepth 20000 in
theorem bX9_readEntry_0 (C : Cx p s m args meth c cX9_readEntry 14 none RX9 (.code yX9_readEntry cX9_readEntry 14 none)) (hI : Apart ad 89) (hK : va_K D vwCl (tysX cy) s) (hN : NW s)  {q : Tcu × Tur × Ten}  {v2 : Int32} {v3 : Int32} {v4 : Int64} (h : X9_readEntry tp cu se ur ab en v2 v3 v4 = some q) {ls : Array Slot} (hl : lv_has ls 14 [(0, .ref (ad 8)), (1, .ref (ad 34)), (2, .int v2), (3, .int v3), (4, .long v4)]) {H : Heap} {locs : List Loc} (hP : va_P D vwCl (GX cy ad tk sp nm tp kp cu se ur ab lo im sy un en ra li i2) H) (hS : va_S (Ac ad 89) s.heap H locs) : W p l e ({ frames := 4, cells := 0, slots := 0, locals := 102 } : Room) s m args below meth c H locs 0 0 (MQ below (QR none D (GX cy ad tk sp nm tp kp q.1 se q.2.1 ab lo im sy un q.2.2 ra li i2) (Ac ad 89)) args s 0 0 (Ac ad 89)) (F0 m 0 ls []) := by
  obtain ⟨hx, hb, hml, hown, hts, hr, hlk⟩ := id C
  unfold X9_readEntry at h
  refine lv_aload_n hx hb dX9_readEntry_0 rfl (lv_at hl 0 rfl) ?_
  refine gX8_2 C hK hP w211 dX9_readEntry_1 ?_
  refine lv_lload hx hb dX9_readEntry_4 (lv_at hl 4 rfl) ?_
  obtain ⟨q1, h2, h⟩ := bnd h
  refine cPi (run_V (rest := []) C (kX0_indexOf h2) caX0_indexOf w801 ⟨rfl, rfl, Nat.le_of_ble_eq_true rfl, Nat.le_of_ble_eq_true rfl⟩ hK hN hP (rX11 hK hP) rfl hl.1 rfl (Nat.le_of_ble_eq_true rfl) dX9_readEntry_6 ⟨Nat.zero_le _, Nat.zero_le _⟩) ?_
  refine lv_istore (lv' := [(6, .int q1), (0, .ref (ad 8)), (1, .ref (ad 34)), (2, .int v2), (3, .int v3), (4, .long v4)]) hx hb dX9_readEntry_9 hl (by decide) rfl (fun ls hl => ?_)
  refine lv_iload hx hb dX9_readEntry_11 (lv_at hl 0 rfl) ?_
  refine lv_iconst (v := (-1 : Int32)) hx hb dX9_readEntry_13 (by decide) ?_
  refine lv_icmp_ne (tgt := 26) hx hb dX9_readEntry_14 (by decide) (fun c3 => ?_) (fun c3 => ?_)
  · rw [if_neg c3] at h
    exact bX9_readEntry_26 C hI hK hN h (lv_sub hl [1, 2, 3, 4, 0] rfl) hP hS
  · rw [if_pos c3] at h
    refine lv_aload_n hx hb dX9_readEntry_17 rfl (lv_at hl 1 rfl) ?_
    refine gX8_0 C hK hP w209 dX9_readEntry_18 ?_
    refine lv_iconst (v := (3 : Int32)) hx hb dX9_readEntry_21 (by decide) ?_
    refine lv_iload_n hx hb dX9_readEntry_22 rfl (lv_at hl 4 rfl) ?_
    obtain ⟨q4, h5, h⟩ := lets h
    refine cRv (run_V (rest := []) C (kX1_refuse hI h5) caX1_refuse w722 ⟨rfl, rfl, Nat.le_of_ble_eq_true rfl, Nat.le_of_ble_eq_true rfl⟩ hK hN hP (rX3 hK hP) rfl hl.1 rfl (Nat.le_of_ble_eq_true rfl) dX9_readEntry_23 ⟨Nat.zero_le _, Nat.zero_le _⟩) hS (fun H locs hP hS => ?_)
    have hP : va_P D vwCl (GX cy ad tk sp nm tp kp q4 se ur ab lo im sy un en ra li i2) H := hP
    exact bX9_readEntry_26 C hI hK hN h (lv_sub hl [1, 2, 3, 4, 0] rfl) hP hS
theorem kX9_readEntry (hI : Apart ad 89) {v2 : Int32} {v3 : Int32} {v4 : Int64} {q : Tcu × Tur × Ten} (h : X9_readEntry tp cu se ur ab en v2 v3 v4 = some q) : Met l yX9_readEntry (.code yX9_readEntry cX9_readEntry 14 none :: WA) ({ frames := 4, cells := 0, slots := 0, locals := 102 } : Room) (va_Pc [.ref (ad 8), .ref (ad 34), .int v2, .int v3, .long v4] (PR D cy (GX cy ad tk sp nm tp kp cu se ur ab lo im sy un en ra li i2))) (QR none D (GX cy ad tk sp nm tp kp q.1 se q.2.1 ab lo im sy un q.2.2 ra li i2) (Ac ad 89)) 0 0 (Ac ad 89) :=
  met_of (by decide) (Nat.le_of_ble_eq_true rfl) (fun p e s m below meth c ls C hP hK hN hl => bX9_readEntry_0 C hI hK hN h hl hP va_S.rf)
def X9_readEntries_117 (tp : Ttp) (se : Tse) (ab : Tab) (k15 : Tcu → Tur → Ten → Int32 → Int32 → Int32 → Option (Tcu × Tur × Ten)) (cu : Tcu) (ur : Tur) (en : Ten) (v2 : Int32) (v4 : Int32) (z0 : Int32) : Option (Tcu × Tur × Ten) := k15 cu ur en v2 z0 (v4 + (1 : Int32))
set_option maxRecDepth 20000 in
theorem bX9_readEntries_117 (C : Cx p s m args meth c cX9_readEntries 8 none RX9 (.code yX9_readEntries cX9_readEntries 8 none)) (hI : Apart ad 89) (hK : va_K D vwCl (tysX cy) s) (hN : NW s) {k15 : Tcu → Tur → Ten → Int32 → Int32 → Int32 → Option (Tcu × Tur × Ten)} {q : Tcu × Tur × Ten} (hk15 : ∀ {cu : Tcu} {ur : Tur} {en : Ten} {v2 : Int32} {v3 : Int32} {v4 : Int32}, k15 cu ur en v2 v3 v4 = some q → ∀ {ls : Array Slot}, lv_has ls 8 [(0, .ref (ad 8)), (1, .ref (ad 34)), (2, .int v2), (3, .int v3), (4, .int v4)] → ∀ {H : Heap} {locs : List Loc}, va_P D vwCl (GX cy ad tk sp nm tp kp cu se ur ab lo im sy un en ra li i2) H → va_S (Ac ad 89) s.heap H locs → W p l e ({ frames := 5, cells := 0, slots := 0, locals := 135 } : Room) s m args below meth c H locs 0 0 (MQ below (QR none D (GX cy ad tk sp nm tp kp q.1 se q.2.1 ab lo im sy un q.2.2 ra li i2) (Ac ad 89)) args s 0 0 (Ac ad 89)) (F0 m 15 ls [])) {v2 : Int32} {v4 : Int32} {z0 : Int32} (h : X9_readEntries_117 tp se ab k15 cu ur en v2 v4 z0 = some q) {ls : Array Slot} (hl : lv_has ls 8 [(0, .ref (ad 8)), (1, .ref (ad 34)), (2, .int v2), (4, .int v4)]) {H : Heap} {locs : List Loc} (hP : va_P D vwCl (GX cy ad tk sp nm tp kp cu se ur ab lo im sy un en ra li i2) H) (hS : va_S (Ac ad 89) s.heap H locs) : W p l e ({ frames := 5, cells := 0, slots := 0, locals := 135 } : Room) s m args below meth c H locs 0 0 (MQ below (QR none D (GX cy ad tk sp nm tp kp q.1 se q.2.1 ab lo im sy un q.2.2 ra li i2) (Ac ad 89)) args s 0 0 (Ac ad 89)) (F0 m 117 ls [.int z0]) := by
  obtain ⟨hx, hb, hml, hown, hts, hr, hlk⟩ := id C
  unfold X9_readEntries_117 at h
  refine lv_istore_n (lv' := [(3, .int z0), (0, .ref (ad 8)), (1, .ref (ad 34)), (2, .int v2), (4, .int v4)]) hx hb dX9_readEntries_117 rfl hl (by decide) rfl (fun ls hl => ?_)
  refine lv_iinc (v := (v4 + (1 : Int32))) (lv' := [(4, .int (v4 + (1 : Int32))), (3, .int z0), (0, .ref (ad 8)), (1, .ref (ad 34)), (2, .int v2)]) hx hb dX9_readEntries_118 hl (k := 4) rfl rfl (by decide) rfl (fun ls hl => ?_)
  refine lv_goto (tgt := 15) hx hb dX9_readEntries_121 (by decide) ?_
  exact hk15 h (lv_sub hl [2, 3, 4, 1, 0] rfl) hP hS
def X9_readEntries_105 (tp : Ttp) (se : Tse) (ab : Tab) (k15 : Tcu → Tur → Ten → Int32 → Int32 → Int32 → Option (Tcu × Tur × Ten)) (cu : Tcu) (ur : Tur) (en : Ten) (v2 : Int32) (v4 : Int32) : Option (Tcu × Tur × Ten) := (if ur.2.1 = 0 then X9_readEntries_117 tp se ab k15 cu ur en v2 v4 (1 : Int32) else X9_readEntries_117 tp se ab k15 cu ur en v2 v4 (0 : Int32))
set_option maxRecDepth 20000 in
theorem bX9_readEntries_105 (C : Cx p s m args meth c cX9_readEntries 8 none RX9 (.code yX9_readEntries cX9_readEntries 8 none)) (hI : Apart ad 89) (hK : va_K D vwCl (tysX cy) s) (hN : NW s) {k15 : Tcu → Tur → Ten → Int32 → Int32 → Int32 → Option (Tcu × Tur × Ten)} {q : Tcu × Tur × Ten} (hk15 : ∀ {cu : Tcu} {ur : Tur} {en : Ten} {v2 : Int32} {v3 : Int32} {v4 : Int32}, k15 cu ur en v2 v3 v4 = some q → ∀ {ls : Array Slot}, lv_has ls 8 [(0, .ref (ad 8)), (1, .ref (ad 34)), (2, .int v2), (3, .int v3), (4, .int v4)] → ∀ {H : Heap} {locs : List Loc}, va_P D vwCl (GX cy ad tk sp nm tp kp cu se ur ab lo im sy un en ra li i2) H → va_S (Ac ad 89) s.heap H locs → W p l e ({ frames := 5, cells := 0, slots := 0, locals := 135 } : Room) s m args below meth c H locs 0 0 (MQ below (QR none D (GX cy ad tk sp nm tp kp q.1 se q.2.1 ab lo im sy un q.2.2 ra li i2) (Ac ad 89)) args s 0 0 (Ac ad 89)) (F0 m 15 ls [])) {v2 : Int32} {v4 : Int32} (h : X9_readEntries_105 tp se ab k15 cu ur en v2 v4 = some q) {ls : Array Slot} (hl : lv_has ls 8 [(0, .ref (ad 8)), (1, .ref (ad 34)), (2, .int v2), (4, .int v4)]) {H : Heap} {locs : List Loc} (hP : va_P D vwCl (GX cy ad tk sp nm tp kp cu se ur ab lo im sy un en ra li i2) H) (hS : va_S (Ac ad 89) s.heap H locs) : W p l e ({ frames := 5, cells := 0, slots := 0, locals := 135 } : Room) s m args below meth c H locs 0 0 (MQ below (QR none D (GX cy ad tk sp nm tp kp q.1 se q.2.1 ab lo im sy un q.2.2 ra li i2) (Ac ad 89)) args s 0 0 (Ac ad 89)) (F0 m 105 ls []) := by
  obtain ⟨hx, hb, hml, hown, hts, hr, hlk⟩ := id C
  unfold X9_readEntries_105 at h
  refine lv_aload_n hx hb dX9_readEntries_105 rfl (lv_at hl 0 rfl) ?_
  refine gX8_4 (v := ur.2.1) C hK hP rfl w213 dX9_readEntries_106 ?_
  refine lv_if_ne (tgt := 116) hx hb dX9_readEntries_109 (by decide) (fun c1 => ?_) (fun c1 => ?_)
  · rw [if_neg c1] at h
    refine lv_iconst (v := (0 : Int32)) hx hb dX9_readEntries_116 (by decide) ?_
    exact bX9_readEntries_117 C hI hK hN @hk15 h (lv_sub hl [0, 1, 2, 3] rfl) hP hS
  · rw [if_pos c1] at h
    refine lv_iconst (v := (1 : Int32)) hx hb dX9_readEntries_112 (by decide) ?_
    refine lv_goto (tgt := 117) hx hb dX9_readEntries_113 (by decide) ?_
    exact bX9_readEntries_117 C hI hK hN @hk15 h (lv_sub hl [0, 1, 2, 3] rfl) hP hS
def X9_readEntries_124 (tp : Ttp) (se : Tse) (ab : Tab)  (cu : Tcu) (ur : Tur) (en : Ten)  : Option (Tcu × Tur × Ten) := (if (X1_place cu) = (X1_stop cu) then some (cu, ur, en) else (letq (X1_refuse cu (2 : Int32) (X1_place cu)) fun q2 => some (q2, ur, en)))
set_option maxRecDepth 20000 in
theorem bX9_readEntries_124 (C : Cx p s m args meth c cX9_readEntries 8 none RX9 (.code yX9_readEntries cX9_readEntries 8 none)) (hI : Apart ad 89) (hK : va_K D vwCl (tysX cy) s) (hN : NW s)  {q : Tcu × Tur × Ten}   (h : X9_readEntries_124 tp se ab cu ur en = some q) {ls : Array Slot} (hl : lv_has ls 8 [(0, .ref (ad 8))]) {H : Heap} {locs : List Loc} (hP : va_P D vwCl (GX cy ad tk sp nm tp kp cu se ur ab lo im sy un en ra li i2) H) (hS : va_S (Ac ad 89) s.heap H locs) : W p l e ({ frames := 5, cells := 0, slots := 0, locals := 135 } : Room) s m args below meth c H locs 0 0 (MQ below (QR none D (GX cy ad tk sp nm tp kp q.1 se q.2.1 ab lo im sy un q.2.2 ra li i2) (Ac ad 89)) args s 0 0 (Ac ad 89)) (F0 m 124 ls []) := by
  obtain ⟨hx, hb, hml, hown, hts, hr, hlk⟩ := id C
  unfold X9_readEntries_124 at h
  refine lv_aload_n hx hb dX9_readEntries_124 rfl (lv_at hl 0 rfl) ?_
  refine gX8_0 C hK hP w209 dX9_readEntries_125 ?_
  refine cPi (run_V (rest := []) C (kX1_place rfl) caX1_place w727 ⟨rfl, rfl, Nat.le_of_ble_eq_true rfl, Nat.le_of_ble_eq_true rfl⟩ hK hN hP (rX3 hK hP) rfl hl.1 rfl (Nat.le_of_ble_eq_true rfl) dX9_readEntries_128 ⟨Nat.zero_le _, Nat.zero_le _⟩) ?_
  refine lv_aload_n hx hb dX9_readEntries_131 rfl (lv_at hl 0 rfl) ?_
  refine gX8_0 C hK hP w209 dX9_readEntries_132 ?_
  refine cPi (run_V (rest := [.int (X1_place cu)]) C (kX1_stop rfl) caX1_stop w738 ⟨rfl, rfl, Nat.le_of_ble_eq_true rfl, Nat.le_of_ble_eq_true rfl⟩ hK hN hP (rX3 hK hP) rfl hl.1 rfl (Nat.le_of_ble_eq_true rfl) dX9_readEntries_135 ⟨Nat.zero_le _, Nat.zero_le _⟩) ?_
  refine lv_icmp_eq (tgt := 156) hx hb dX9_readEntries_138 (by decide) (fun c1 => ?_) (fun c1 => ?_)
  · rw [if_pos c1] at h
    obtain rfl := Option.some.inj h
    exact W.vret hx hb hr (fun t ht _ => ⟨rfl, by rw [ht]; exact hP, hS.F ht⟩) hS.2.2 dX9_readEntries_156 hlk
  · rw [if_neg c1] at h
    refine lv_aload_n hx hb dX9_readEntries_141 rfl (lv_at hl 0 rfl) ?_
    refine gX8_0 C hK hP w209 dX9_readEntries_142 ?_
    refine lv_iconst (v := (2 : Int32)) hx hb dX9_readEntries_145 (by decide) ?_
    refine lv_aload_n hx hb dX9_readEntries_146 rfl (lv_at hl 0 rfl) ?_
    refine gX8_0 C hK hP w209 dX9_readEntries_147 ?_
    refine cPi (run_V (rest := [.int (2 : Int32), .ref (ad 3)]) C (kX1_place rfl) caX1_place w727 ⟨rfl, rfl, Nat.le_of_ble_eq_true rfl, Nat.le_of_ble_eq_true rfl⟩ hK hN hP (rX3 hK hP) rfl hl.1 rfl (Nat.le_of_ble_eq_true rfl) dX9_readEntries_150 ⟨Nat.zero_le _, Nat.zero_le _⟩) ?_
    obtain ⟨q2, h3, h⟩ := lets h
    refine cRv (run_V (rest := []) C (kX1_refuse hI h3) caX1_refuse w722 ⟨rfl, rfl, Nat.le_of_ble_eq_true rfl, Nat.le_of_ble_eq_true rfl⟩ hK hN hP (rX3 hK hP) rfl hl.1 rfl (Nat.le_of_ble_eq_true rfl) dX9_readEntries_153 ⟨Nat.zero_le _, Nat.zero_le _⟩) hS (fun H locs hP hS => ?_)
    have hP : va_P D vwCl (GX cy ad tk sp nm tp kp q2 se ur ab lo im sy un en ra li i2) H := hP
    obtain rfl := Option.some.inj h
    exact W.vret hx hb hr (fun t ht _ => ⟨rfl, by rw [ht]; exact hP, hS.F ht⟩) hS.2.2 dX9_readEntries_156 hlk
def X9_readEntries_15b (tp : Ttp) (se : Tse) (ab : Tab)  (k15 : Tcu → Tur → Ten → Int32 → Int32 → Int32 → Option (Tcu × Tur × Ten)) (cu : Tcu) (ur : Tur) (en : Ten) (v2 : Int32) (v3 : Int32) (v4 : Int32) : Option (Tcu × Tur × Ten) := (if v4 < (8000 : Int32) then (if v3 = 0 then (if (X1_sound cu) = 0 then X9_readEntries_124 tp se ab cu ur en else ((X1_uleb tp cu).bind fun q4 => (if q4.1 = (0 : Int64) then (if 0 < ur.2.1 then X9_readEntries_105 tp se ab k15 q4.2 (ur.1, (ur.2.1 - (1 : Int32)), ur.2.2.1, ur.2.2.2.1, ur.2.2.2.2.1, ur.2.2.2.2.2.1, ur.2.2.2.2.2.2) en v2 v4 else (letq (X1_refuse q4.2 (2 : Int32) (X1_place cu)) fun q8 => X9_readEntries_105 tp se ab k15 q8 ur en v2 v4)) else ((X9_readEntry tp q4.2 se ur ab en v2 (X1_place cu) q4.1).bind fun q10 => X9_readEntries_105 tp se ab k15 q10.1 q10.2.1 q10.2.2 v2 v4)))) else X9_readEntries_124 tp se ab cu ur en) else X9_readEntries_124 tp se ab cu ur en)
def X9_readEntries_15 (tp : Ttp) (se : Tse) (ab : Tab)  (n : Nat) (st : Tcu × Tur × Ten × Int32 × Int32 × Int32) : Option (Tcu × Tur × Ten) := lp (fun rec st => X9_readEntries_15b tp se ab  (fun a0 a1 a2 a3 a4 a5 => rec (a0, a1, a2, a3, a4, a5)) st.1 st.2.1 st.2.2.1 st.2.2.2.1 st.2.2.2.2.1 st.2.2.2.2.2) n st
set_option maxRecDepth 20000 in
theorem bX9_readEntries_15 (C : Cx p s m args meth c cX9_readEntries 8 none RX9 (.code yX9_readEntries cX9_readEntries 8 none)) (hI : Apart ad 89) (hK : va_K D vwCl (tysX cy) s) (hN : NW s)  {q : Tcu × Tur × Ten}  : ∀ (n : Nat) {cu : Tcu} {ur : Tur} {en : Ten} {v2 : Int32} {v3 : Int32} {v4 : Int32}, X9_readEntries_15 tp se ab  n (cu, ur, en, v2, v3, v4) = some q → ∀ {ls : Array Slot}, lv_has ls 8 [(0, .ref (ad 8)), (1, .ref (ad 34)), (2, .int v2), (3, .int v3), (4, .int v4)] → ∀ {H : Heap} {locs : List Loc}, va_P D vwCl (GX cy ad tk sp nm tp kp cu se ur ab lo im sy un en ra li i2) H → va_S (Ac ad 89) s.heap H locs → W p l e ({ frames := 5, cells := 0, slots := 0, locals := 135 } : Room) s m args below meth c H locs 0 0 (MQ below (QR none D (GX cy ad tk sp nm tp kp q.1 se q.2.1 ab lo im sy un q.2.2 ra li i2) (Ac ad 89)) args s 0 0 (Ac ad 89)) (F0 m 15 ls []) := by
  obtain ⟨hx, hb, hml, hown, hts, hr, hlk⟩ := id C
  intro n
  induction n with
  | zero =>
    intro cu ur en v2 v3 v4 h ls hl H locs hP hS
    have h : (none : Option (Tcu × Tur × Ten)) = some q := h
    cases h
  | succ n ih =>
    intro cu ur en v2 v3 v4 h ls hl H locs hP hS
    have h : X9_readEntries_15b tp se ab  (fun a0 a1 a2 a3 a4 a5 => X9_readEntries_15 tp se ab  n (a0, a1, a2, a3, a4, a5)) cu ur en v2 v3 v4 = some q := h
    unfold X9_readEntries_15b at h
    refine lv_iload hx hb dX9_readEntries_15 (lv_at hl 4 rfl) ?_
    refine lv_sipush (v := (8000 : Int32)) hx hb dX9_readEntries_17 (by decide) ?_
    refine b_icmp_ge (tgt := 124) hx hb dX9_readEntries_20 (by decide) (fun c1 => ?_) (fun c1 => ?_)
    · rw [if_neg c1] at h
      exact bX9_readEntries_124 C hI hK hN h (lv_sub hl [0] rfl) hP hS
    · rw [if_pos c1] at h
      refine lv_iload_n hx hb dX9_readEntries_23 rfl (lv_at hl 3 rfl) ?_
      refine lv_if_ne (tgt := 124) hx hb dX9_readEntries_24 (by decide) (fun c2 => ?_) (fun c2 => ?_)
      · rw [if_neg c2] at h
        exact bX9_readEntries_124 C hI hK hN h (lv_sub hl [0] rfl) hP hS
      · rw [if_pos c2] at h
        refine lv_aload_n hx hb dX9_readEntries_27 rfl (lv_at hl 0 rfl) ?_
        refine gX8_0 C hK hP w209 dX9_readEntries_28 ?_
        refine cPi (run_V (rest := []) C (kX1_sound rfl) caX1_sound w697 ⟨rfl, rfl, Nat.le_of_ble_eq_true rfl, Nat.le_of_ble_eq_true rfl⟩ hK hN hP (rX3 hK hP) rfl hl.1 rfl (Nat.le_of_ble_eq_true rfl) dX9_readEntries_31 ⟨Nat.zero_le _, Nat.zero_le _⟩) ?_
        refine lv_if_eq (tgt := 124) hx hb dX9_readEntries_34 (by decide) (fun c3 => ?_) (fun c3 => ?_)
        · rw [if_pos c3] at h
          exact bX9_readEntries_124 C hI hK hN h (lv_sub hl [0] rfl) hP hS
        · rw [if_neg c3] at h
          refine lv_aload_n hx hb dX9_readEntries_37 rfl (lv_at hl 0 rfl) ?_
          refine gX8_0 C hK hP w209 dX9_readEntries_38 ?_
          refine cPi (run_V (rest := []) C (kX1_place rfl) caX1_place w727 ⟨rfl, rfl, Nat.le_of_ble_eq_true rfl, Nat.le_of_ble_eq_true rfl⟩ hK hN hP (rX3 hK hP) rfl hl.1 rfl (Nat.le_of_ble_eq_true rfl) dX9_readEntries_41 ⟨Nat.zero_le _, Nat.zero_le _⟩) ?_
          refine lv_istore (lv' := [(5, .int (X1_place cu)), (0, .ref (ad 8)), (1, .ref (ad 34)), (2, .int v2), (3, .int v3), (4, .int v4)]) hx hb dX9_readEntries_44 hl (by decide) rfl (fun ls hl => ?_)
          refine lv_aload_n hx hb dX9_readEntries_46 rfl (lv_at hl 1 rfl) ?_
          refine gX8_0 C hK hP w209 dX9_readEntries_47 ?_
          obtain ⟨q4, h5, h⟩ := bnd h
          refine cRl (run_V (rest := []) C (kX1_uleb hI h5) caX1_uleb w796 ⟨rfl, rfl, Nat.le_of_ble_eq_true rfl, Nat.le_of_ble_eq_true rfl⟩ hK hN hP (rX3 hK hP) rfl hl.1 rfl (Nat.le_of_ble_eq_true rfl) dX9_readEntries_50 ⟨Nat.zero_le _, Nat.zero_le _⟩) hS (fun H locs hP hS => ?_)
          have hP : va_P D vwCl (GX cy ad tk sp nm tp kp q4.2 se ur ab lo im sy un en ra li i2) H := hP
          refine lv_lstore (lv' := [(6, .long q4.1), (5, .int (X1_place cu)), (0, .ref (ad 8)), (1, .ref (ad 34)), (2, .int v2), (3, .int v3), (4, .int v4)]) hx hb dX9_readEntries_53 hl (by decide) rfl (fun ls hl => ?_)
          refine lv_lload hx hb dX9_readEntries_55 (lv_at hl 0 rfl) ?_
          refine lv_lconst (v := (0 : Int64)) hx hb dX9_readEntries_57 (by decide) ?_
          refine lc_eq (tgt := 75) hx hb dX9_readEntries_58 dX9_readEntries_59 (by decide) (fun c6 => ?_) (fun c6 => ?_)
          · rw [if_pos c6] at h
            refine lv_aload_n hx hb dX9_readEntries_75 rfl (lv_at hl 2 rfl) ?_
            refine gX8_4 (v := ur.2.1) C hK hP rfl w213 dX9_readEntries_76 ?_
            refine b_if_le (tgt := 95) hx hb dX9_readEntries_79 (by decide) (fun c7 => ?_) (fun c7 => ?_)
            · rw [if_neg c7] at h
              refine lv_aload_n hx hb dX9_readEntries_95 rfl (lv_at hl 2 rfl) ?_
              refine gX8_0 C hK hP w209 dX9_readEntries_96 ?_
              refine lv_iconst (v := (2 : Int32)) hx hb dX9_readEntries_99 (by decide) ?_
              refine lv_iload hx hb dX9_readEntries_100 (lv_at hl 1 rfl) ?_
              obtain ⟨q8, h9, h⟩ := lets h
              refine cRv (run_V (rest := []) C (kX1_refuse hI h9) caX1_refuse w722 ⟨rfl, rfl, Nat.le_of_ble_eq_true rfl, Nat.le_of_ble_eq_true rfl⟩ hK hN hP (rX3 hK hP) rfl hl.1 rfl (Nat.le_of_ble_eq_true rfl) dX9_readEntries_102 ⟨Nat.zero_le _, Nat.zero_le _⟩) hS (fun H locs hP hS => ?_)
              have hP : va_P D vwCl (GX cy ad tk sp nm tp kp q8 se ur ab lo im sy un en ra li i2) H := hP
              exact bX9_readEntries_105 C hI hK hN @ih h (lv_sub hl [2, 3, 4, 6] rfl) hP hS
            · rw [if_pos c7] at h
              refine lv_aload_n hx hb dX9_readEntries_82 rfl (lv_at hl 2 rfl) ?_
              refine lv_dup hx hb dX9_readEntries_83 rfl ?_
              refine gX8_4 (v := ur.2.1) C hK hP rfl w213 dX9_readEntries_84 ?_
              refine lv_iconst (v := (1 : Int32)) hx hb dX9_readEntries_87 (by decide) ?_
              refine lv_isub hx hb dX9_readEntries_88 ?_
              refine pX8_4 (v := (ur.2.1 - (1 : Int32))) C hI hK hP hS w213 dX9_readEntries_89 (fun H locs hP hS => ?_)
              have hP : va_P D vwCl (GX cy ad tk sp nm tp kp q4.2 se (ur.1, (ur.2.1 - (1 : Int32)), ur.2.2.1, ur.2.2.2.1, ur.2.2.2.2.1, ur.2.2.2.2.2.1, ur.2.2.2.2.2.2) ab lo im sy un en ra li i2) H := hP
              refine lv_goto (tgt := 105) hx hb dX9_readEntries_92 (by decide) ?_
              exact bX9_readEntries_105 C hI hK hN @ih h (lv_sub hl [2, 3, 4, 6] rfl) hP hS
          · rw [if_neg c6] at h
            refine lv_aload_n hx hb dX9_readEntries_62 rfl (lv_at hl 2 rfl) ?_
            refine lv_aload_n hx hb dX9_readEntries_63 rfl (lv_at hl 3 rfl) ?_
            refine lv_iload_n hx hb dX9_readEntries_64 rfl (lv_at hl 4 rfl) ?_
            refine lv_iload hx hb dX9_readEntries_65 (lv_at hl 1 rfl) ?_
            refine lv_lload hx hb dX9_readEntries_67 (lv_at hl 0 rfl) ?_
            obtain ⟨q10, h11, h⟩ := bnd h
            refine cRv (run_V (rest := []) C (kX9_readEntry hI h11) caX9_readEntry w797 ⟨rfl, rfl, Nat.le_of_ble_eq_true rfl, Nat.le_of_ble_eq_true rfl⟩ hK hN hP (rX8 hK hP) rfl hl.1 rfl (Nat.le_of_ble_eq_true rfl) dX9_readEntries_69 ⟨Nat.zero_le _, Nat.zero_le _⟩) hS (fun H locs hP hS => ?_)
            have hP : va_P D vwCl (GX cy ad tk sp nm tp kp q10.1 se q10.2.1 ab lo im sy un q10.2.2 ra li i2) H := hP
            refine lv_goto (tgt := 105) hx hb dX9_readEntries_72 (by decide) ?_
            exact bX9_readEntries_105 C hI hK hN @ih h (lv_sub hl [2, 3, 4, 6] rfl) hP hS
def X9_readEntries (tp : Ttp) (cu : Tcu) (se : Tse) (ur : Tur) (ab : Tab) (en : Ten) (v2 : Int32) : Option (Tcu × Tur × Ten) := X9_readEntries_15 tp se ab FU (cu, (ur.1, (0 : Int32), ur.2.2.1, (0 : Int32), ur.2.2.2.2.1, ur.2.2.2.2.2.1, ur.2.2.2.2.2.2), en, v2, (0 : Int32), (0 : Int32))
set_option maxRecDepth 20000 in
theorem bX9_readEntries_0 (C : Cx p s m args meth c cX9_readEntries 8 none RX9 (.code yX9_readEntries cX9_readEntries 8 none)) (hI : Apart ad 89) (hK : va_K D vwCl (tysX cy) s) (hN : NW s)  {q : Tcu × Tur × Ten}  {v2 : Int32} (h : X9_readEntries tp cu se ur ab en v2 = some q) {ls : Array Slot} (hl : lv_has ls 8 [(0, .ref (ad 8)), (1, .ref (ad 34)), (2, .int v2)]) {H : Heap} {locs : List Loc} (hP : va_P D vwCl (GX cy ad tk sp nm tp kp cu se ur ab lo im sy un en ra li i2) H) (hS : va_S (Ac ad 89) s.heap H locs) : W p l e ({ frames := 5, cells := 0, slots := 0, locals := 135 } : Room) s m args below meth c H locs 0 0 (MQ below (QR none D (GX cy ad tk sp nm tp kp q.1 se q.2.1 ab lo im sy un q.2.2 ra li i2) (Ac ad 89)) args s 0 0 (Ac ad 89)) (F0 m 0 ls []) := by
  obtain ⟨hx, hb, hml, hown, hts, hr, hlk⟩ := id C
  unfold X9_readEntries at h
  refine lv_aload_n hx hb dX9_readEntries_0 rfl (lv_at hl 0 rfl) ?_
  refine lv_iconst (v := (0 : Int32)) hx hb dX9_readEntries_1 (by decide) ?_
  refine pX8_4 (v := (0 : Int32)) C hI hK hP hS w213 dX9_readEntries_2 (fun H locs hP hS => ?_)
  have hP : va_P D vwCl (GX cy ad tk sp nm tp kp cu se (ur.1, (0 : Int32), ur.2.2.1, ur.2.2.2.1, ur.2.2.2.2.1, ur.2.2.2.2.2.1, ur.2.2.2.2.2.2) ab lo im sy un en ra li i2) H := hP
  refine lv_aload_n hx hb dX9_readEntries_5 rfl (lv_at hl 0 rfl) ?_
  refine lv_iconst (v := (0 : Int32)) hx hb dX9_readEntries_6 (by decide) ?_
  refine pX8_6 (v := (0 : Int32)) C hI hK hP hS w215 dX9_readEntries_7 (fun H locs hP hS => ?_)
  have hP : va_P D vwCl (GX cy ad tk sp nm tp kp cu se (ur.1, (0 : Int32), ur.2.2.1, (0 : Int32), ur.2.2.2.2.1, ur.2.2.2.2.2.1, ur.2.2.2.2.2.2) ab lo im sy un en ra li i2) H := hP
  refine lv_iconst (v := (0 : Int32)) hx hb dX9_readEntries_10 (by decide) ?_
  refine lv_istore_n (lv' := [(3, .int (0 : Int32)), (0, .ref (ad 8)), (1, .ref (ad 34)), (2, .int v2)]) hx hb dX9_readEntries_11 rfl hl (by decide) rfl (fun ls hl => ?_)
  refine lv_iconst (v := (0 : Int32)) hx hb dX9_readEntries_12 (by decide) ?_
  refine lv_istore (lv' := [(4, .int (0 : Int32)), (3, .int (0 : Int32)), (0, .ref (ad 8)), (1, .ref (ad 34)), (2, .int v2)]) hx hb dX9_readEntries_13 hl (by decide) rfl (fun ls hl => ?_)
  exact bX9_readEntries_15 C hI hK hN FU h (lv_sub hl [2, 3, 4, 1, 0] rfl) hP hS
theorem kX9_readEntries (hI : Apart ad 89) {v2 : Int32} {q : Tcu × Tur × Ten} (h : X9_readEntries tp cu se ur ab en v2 = some q) : Met l yX9_readEntries (.code yX9_readEntries cX9_readEntries 8 none :: WA) ({ frames := 5, cells := 0, slots := 0, locals := 135 } : Room) (va_Pc [.ref (ad 8), .ref (ad 34), .int v2] (PR D cy (GX cy ad tk sp nm tp kp cu se ur ab lo im sy un en ra li i2))) (QR none D (GX cy ad tk sp nm tp kp q.1 se q.2.1 ab lo im sy un q.2.2 ra li i2) (Ac ad 89)) 0 0 (Ac ad 89) :=
  met_of (by decide) (Nat.le_of_ble_eq_true rfl) (fun p e s m below meth c ls C hP hK hN hl => bX9_readEntries_0 C hI hK hN h hl hP va_S.rf)
def X10_total (un : Tun)  : Int32 := un.2.2.2.2.2.2.1
set_option maxRecDepth 20000 in
theorem bX10_total_0 (C : Cx p s m args meth c cX10_total 1 (some .int) RX10 (.code yX10_total cX10_total 1 (some .int))) (hK : va_K D vwCl (tysX cy) s) (hN : NW s)  {q : Int32}   (h : X10_total un = q) {ls : Array Slot} (hl : lv_has ls 1 [(0, .ref (ad 27))]) (hP : va_P D vwCl (GX cy ad tk sp nm tp kp cu se ur ab lo im sy un en ra li i2) s.heap) : W p l e ({ frames := 0, cells := 0, slots := 0, locals := 0 } : Room) s m args below meth c s.heap [] 0 0 (MQ below (QP (some (.int q))) args s 0 0 (fun _ => False)) (F0 m 0 ls []) := by
  obtain ⟨hx, hb, hml, hown, hts, hr, hlk⟩ := id C
  unfold X10_total at h
  refine lv_aload_n hx hb dX10_total_0 rfl (lv_at hl 0 rfl) ?_
  refine gX27_6 (v := un.2.2.2.2.2.2.1) C hK hP rfl w302 dX10_total_1 ?_
  obtain rfl := h
  exact W.iret hx hb hr (fun t ht _ => ⟨rfl, ht⟩) (fun _ h9 => by cases h9) dX10_total_4 hlk
theorem kX10_total   {q : Int32} (h : X10_total un = q) : Met l yX10_total (.code yX10_total cX10_total 1 (some .int) :: WA) ({ frames := 0, cells := 0, slots := 0, locals := 0 } : Room) (va_Pc [.ref (ad 27)] (PR D cy (GX cy ad tk sp nm tp kp cu se ur ab lo im sy un en ra li i2))) (QP (some (.int q))) 0 0 (fun _ => False) :=
  met_of (by decide) (Nat.le_of_ble_eq_true rfl) (fun p e s m below meth c ls C hP hK hN hl => bX10_total_0 C hK hN h hl hP)
def X9_readHead_28 (tp : Ttp) (se : Tse) (ur : Tur) (un : Tun)  (cu : Tcu)  : Option (Int64 × Tcu) := ((X1_numberBetween tp cu (2 : Int32) (5 : Int32) (5 : Int32)).bind fun q1 => ((X1_numberBetween tp q1.2 (1 : Int32) (1 : Int32) (1 : Int32)).bind fun q3 => ((X1_numberBetween tp q3.2 (1 : Int32) (8 : Int32) (8 : Int32)).bind fun q5 => ((X1_number tp q5.2 (4 : Int32)).bind fun q7 => (if (X7_isIn se (2 : Int32) q7.1) = 0 then (letq (X1_refuse q7.2 (3 : Int32) (X1_place q5.2)) fun q10 => some ((0 : Int64), q10)) else some (q7.1, q7.2))))))
set_option maxRecDepth 20000 in
theorem bX9_readHead_28 (C : Cx p s m args meth c cX9_readHead 5 (some .long) RX9 (.code yX9_readHead cX9_readHead 5 (some .long))) (hI : Apart ad 89) (hK : va_K D vwCl (tysX cy) s) (hN : NW s)  {q : Int64 × Tcu}   (h : X9_readHead_28 tp se ur un cu = some q) {ls : Array Slot} (hl : lv_has ls 5 [(0, .ref (ad 8))]) {H : Heap} {locs : List Loc} (hP : va_P D vwCl (GX cy ad tk sp nm tp kp cu se ur ab lo im sy un en ra li i2) H) (hS : va_S (Ac ad 89) s.heap H locs) : W p l e ({ frames := 3, cells := 0, slots := 0, locals := 77 } : Room) s m args below meth c H locs 0 0 (MQ below (QR (some (.long q.1)) D (GX cy ad tk sp nm tp kp q.2 se ur ab lo im sy un en ra li i2) (Ac ad 89)) args s 0 0 (Ac ad 89)) (F0 m 28 ls []) := by
  obtain ⟨hx, hb, hml, hown, hts, hr, hlk⟩ := id C
  unfold X9_readHead_28 at h
  refine lv_aload_n hx hb dX9_readHead_28 rfl (lv_at hl 0 rfl) ?_
  refine gX8_0 C hK hP w209 dX9_readHead_29 ?_
  refine lv_iconst (v := (2 : Int32)) hx hb dX9_readHead_32 (by decide) ?_
  refine lv_iconst (v := (5 : Int32)) hx hb dX9_readHead_33 (by decide) ?_
  refine lv_iconst (v := (5 : Int32)) hx hb dX9_readHead_34 (by decide) ?_
  obtain ⟨q1, h2, h⟩ := bnd h
  refine cRi (run_V (rest := []) C (kX1_numberBetween hI h2) caX1_numberBetween w723 ⟨rfl, rfl, Nat.le_of_ble_eq_true rfl, Nat.le_of_ble_eq_true rfl⟩ hK hN hP (rX3 hK hP) rfl hl.1 rfl (Nat.le_of_ble_eq_true rfl) dX9_readHead_35 ⟨Nat.zero_le _, Nat.zero_le _⟩) hS (fun H locs hP hS => ?_)
  have hP : va_P D vwCl (GX cy ad tk sp nm tp kp q1.2 se ur ab lo im sy un en ra li i2) H := hP
  refine lv_pop hx hb dX9_readHead_38 rfl ?_
  refine lv_aload_n hx hb dX9_readHead_39 rfl (lv_at hl 0 rfl) ?_
  refine gX8_0 C hK hP w209 dX9_readHead_40 ?_
  refine lv_iconst (v := (1 : Int32)) hx hb dX9_readHead_43 (by decide) ?_
  refine lv_iconst (v := (1 : Int32)) hx hb dX9_readHead_44 (by decide) ?_
  refine lv_iconst (v := (1 : Int32)) hx hb dX9_readHead_45 (by decide) ?_
  obtain ⟨q3, h4, h⟩ := bnd h
  refine cRi (run_V (rest := []) C (kX1_numberBetween hI h4) caX1_numberBetween w723 ⟨rfl, rfl, Nat.le_of_ble_eq_true rfl, Nat.le_of_ble_eq_true rfl⟩ hK hN hP (rX3 hK hP) rfl hl.1 rfl (Nat.le_of_ble_eq_true rfl) dX9_readHead_46 ⟨Nat.zero_le _, Nat.zero_le _⟩) hS (fun H locs hP hS => ?_)
  have hP : va_P D vwCl (GX cy ad tk sp nm tp kp q3.2 se ur ab lo im sy un en ra li i2) H := hP
  refine lv_pop hx hb dX9_readHead_49 rfl ?_
  refine lv_aload_n hx hb dX9_readHead_50 rfl (lv_at hl 0 rfl) ?_
  refine gX8_0 C hK hP w209 dX9_readHead_51 ?_
  refine lv_iconst (v := (1 : Int32)) hx hb dX9_readHead_54 (by decide) ?_
  refine lv_bipush (v := (8 : Int32)) hx hb dX9_readHead_55 (by decide) ?_
  refine lv_bipush (v := (8 : Int32)) hx hb dX9_readHead_57 (by decide) ?_
  obtain ⟨q5, h6, h⟩ := bnd h
  refine cRi (run_V (rest := []) C (kX1_numberBetween hI h6) caX1_numberBetween w723 ⟨rfl, rfl, Nat.le_of_ble_eq_true rfl, Nat.le_of_ble_eq_true rfl⟩ hK hN hP (rX3 hK hP) rfl hl.1 rfl (Nat.le_of_ble_eq_true rfl) dX9_readHead_59 ⟨Nat.zero_le _, Nat.zero_le _⟩) hS (fun H locs hP hS => ?_)
  have hP : va_P D vwCl (GX cy ad tk sp nm tp kp q5.2 se ur ab lo im sy un en ra li i2) H := hP
  refine lv_pop hx hb dX9_readHead_62 rfl ?_
  refine lv_aload_n hx hb dX9_readHead_63 rfl (lv_at hl 0 rfl) ?_
  refine gX8_0 C hK hP w209 dX9_readHead_64 ?_
  refine cPi (run_V (rest := []) C (kX1_place rfl) caX1_place w727 ⟨rfl, rfl, Nat.le_of_ble_eq_true rfl, Nat.le_of_ble_eq_true rfl⟩ hK hN hP (rX3 hK hP) rfl hl.1 rfl (Nat.le_of_ble_eq_true rfl) dX9_readHead_67 ⟨Nat.zero_le _, Nat.zero_le _⟩) ?_
  refine lv_istore_n (lv' := [(2, .int (X1_place q5.2)), (0, .ref (ad 8))]) hx hb dX9_readHead_70 rfl hl (by decide) rfl (fun ls hl => ?_)
  refine lv_aload_n hx hb dX9_readHead_71 rfl (lv_at hl 1 rfl) ?_
  refine gX8_0 C hK hP w209 dX9_readHead_72 ?_
  refine lv_iconst (v := (4 : Int32)) hx hb dX9_readHead_75 (by decide) ?_
  obtain ⟨q7, h8, h⟩ := bnd h
  refine cRl (run_V (rest := []) C (kX1_number hI h8) caX1_number w731 ⟨rfl, rfl, Nat.le_of_ble_eq_true rfl, Nat.le_of_ble_eq_true rfl⟩ hK hN hP (rX3 hK hP) rfl hl.1 rfl (Nat.le_of_ble_eq_true rfl) dX9_readHead_76 ⟨Nat.zero_le _, Nat.zero_le _⟩) hS (fun H locs hP hS => ?_)
  have hP : va_P D vwCl (GX cy ad tk sp nm tp kp q7.2 se ur ab lo im sy un en ra li i2) H := hP
  refine lv_lstore_n (lv' := [(3, .long q7.1), (2, .int (X1_place q5.2)), (0, .ref (ad 8))]) hx hb dX9_readHead_79 rfl hl (by decide) rfl (fun ls hl => ?_)
  refine lv_aload_n hx hb dX9_readHead_80 rfl (lv_at hl 2 rfl) ?_
  refine gX8_1 C hK hP w210 dX9_readHead_81 ?_
  refine lv_iconst (v := (2 : Int32)) hx hb dX9_readHead_84 (by decide) ?_
  refine lv_lload_n hx hb dX9_readHead_85 rfl (lv_at hl 0 rfl) ?_
  refine cPi (run_V (rest := []) C (kX7_isIn rfl) caX7_isIn w732 ⟨rfl, rfl, Nat.le_of_ble_eq_true rfl, Nat.le_of_ble_eq_true rfl⟩ hK hN hP (rX4 hK hP) rfl hl.1 rfl (Nat.le_of_ble_eq_true rfl) dX9_readHead_86 ⟨Nat.zero_le _, Nat.zero_le _⟩) ?_
  refine lv_if_ne (tgt := 103) hx hb dX9_readHead_89 (by decide) (fun c9 => ?_) (fun c9 => ?_)
  · rw [if_neg c9] at h
    refine lv_lload_n hx hb dX9_readHead_103 rfl (lv_at hl 0 rfl) ?_
    obtain rfl := Option.some.inj h
    exact W.lret hx hb hr (fun t ht _ => ⟨rfl, by rw [ht]; exact hP, hS.F ht⟩) hS.2.2 dX9_readHead_104 hlk
  · rw [if_pos c9] at h
    refine lv_aload_n hx hb dX9_readHead_92 rfl (lv_at hl 2 rfl) ?_
    refine gX8_0 C hK hP w209 dX9_readHead_93 ?_
    refine lv_iconst (v := (3 : Int32)) hx hb dX9_readHead_96 (by decide) ?_
    refine lv_iload_n hx hb dX9_readHead_97 rfl (lv_at hl 1 rfl) ?_
    obtain ⟨q10, h11, h⟩ := lets h
    refine cRv (run_V (rest := []) C (kX1_refuse hI h11) caX1_refuse w722 ⟨rfl, rfl, Nat.le_of_ble_eq_true rfl, Nat.le_of_ble_eq_true rfl⟩ hK hN hP (rX3 hK hP) rfl hl.1 rfl (Nat.le_of_ble_eq_true rfl) dX9_readHead_98 ⟨Nat.zero_le _, Nat.zero_le _⟩) hS (fun H locs hP hS => ?_)
    have hP : va_P D vwCl (GX cy ad tk sp nm tp kp q10 se ur ab lo im sy un en ra li i2) H := hP
    refine lv_lconst (v := (0 : Int64)) hx hb dX9_readHead_101 (by decide) ?_
    obtain rfl := Option.some.inj h
    exact W.lret hx hb hr (fun t ht _ => ⟨rfl, by rw [ht]; exact hP, hS.F ht⟩) hS.2.2 dX9_readHead_102 hlk
def X9_readHead (tp : Ttp) (cu : Tcu) (se : Tse) (ur : Tur) (un : Tun)  : Option (Int64 × Tcu) := ((X1_enterCounted tp cu).bind fun q1 => (if (X10_total un) < (20 : Int32) then X9_readHead_28 tp se ur un q1 else (letq (X1_refuse q1 (4 : Int32) ur.2.2.2.2.1) fun q4 => X9_readHead_28 tp se ur un q4)))
set_option maxRecDepth 20000 in
theorem bX9_readHead_0 (C : Cx p s m args meth c cX9_readHead 5 (some .long) RX9 (.code yX9_readHead cX9_readHead 5 (some .long))) (hI : Apart ad 89) (hK : va_K D vwCl (tysX cy) s) (hN : NW s)  {q : Int64 × Tcu}   (h : X9_readHead tp cu se ur un = some q) {ls : Array Slot} (hl : lv_has ls 5 [(0, .ref (ad 8)), (1, .ref (ad 27))]) {H : Heap} {locs : List Loc} (hP : va_P D vwCl (GX cy ad tk sp nm tp kp cu se ur ab lo im sy un en ra li i2) H) (hS : va_S (Ac ad 89) s.heap H locs) : W p l e ({ frames := 3, cells := 0, slots := 0, locals := 77 } : Room) s m args below meth c H locs 0 0 (MQ below (QR (some (.long q.1)) D (GX cy ad tk sp nm tp kp q.2 se ur ab lo im sy un en ra li i2) (Ac ad 89)) args s 0 0 (Ac ad 89)) (F0 m 0 ls []) := by
  obtain ⟨hx, hb, hml, hown, hts, hr, hlk⟩ := id C
  unfold X9_readHead at h
  refine lv_aload_n hx hb dX9_readHead_0 rfl (lv_at hl 0 rfl) ?_
  refine gX8_0 C hK hP w209 dX9_readHead_1 ?_
  obtain ⟨q1, h2, h⟩ := bnd h
  refine cRv (run_V (rest := []) C (kX1_enterCounted hI h2) caX1_enterCounted w703 ⟨rfl, rfl, Nat.le_of_ble_eq_true rfl, Nat.le_of_ble_eq_true rfl⟩ hK hN hP (rX3 hK hP) rfl hl.1 rfl (Nat.le_of_ble_eq_true rfl) dX9_readHead_4 ⟨Nat.zero_le _, Nat.zero_le _⟩) hS (fun H locs hP hS => ?_)
  have hP : va_P D vwCl (GX cy ad tk sp nm tp kp q1 se ur ab lo im sy un en ra li i2) H := hP
  refine lv_aload_n hx hb dX9_readHead_7 rfl (lv_at hl 1 rfl) ?_
  refine cPi (run_V (rest := []) C (kX10_total rfl) caX10_total w718 ⟨rfl, rfl, Nat.le_of_ble_eq_true rfl, Nat.le_of_ble_eq_true rfl⟩ hK hN hP (rX27 hK hP) rfl hl.1 rfl (Nat.le_of_ble_eq_true rfl) dX9_readHead_8 ⟨Nat.zero_le _, Nat.zero_le _⟩) ?_
  refine lv_bipush (v := (20 : Int32)) hx hb dX9_readHead_11 (by decide) ?_
  refine lv_icmp_lt (tgt := 28) hx hb dX9_readHead_13 (by decide) (fun c3 => ?_) (fun c3 => ?_)
  · rw [if_pos c3] at h
    exact bX9_readHead_28 C hI hK hN h (lv_sub hl [0] rfl) hP hS
  · rw [if_neg c3] at h
    refine lv_aload_n hx hb dX9_readHead_16 rfl (lv_at hl 0 rfl) ?_
    refine gX8_0 C hK hP w209 dX9_readHead_17 ?_
    refine lv_iconst (v := (4 : Int32)) hx hb dX9_readHead_20 (by decide) ?_
    refine lv_aload_n hx hb dX9_readHead_21 rfl (lv_at hl 0 rfl) ?_
    refine gX8_7 (v := ur.2.2.2.2.1) C hK hP rfl w216 dX9_readHead_22 ?_
    obtain ⟨q4, h5, h⟩ := lets h
    refine cRv (run_V (rest := []) C (kX1_refuse hI h5) caX1_refuse w722 ⟨rfl, rfl, Nat.le_of_ble_eq_true rfl, Nat.le_of_ble_eq_true rfl⟩ hK hN hP (rX3 hK hP) rfl hl.1 rfl (Nat.le_of_ble_eq_true rfl) dX9_readHead_25 ⟨Nat.zero_le _, Nat.zero_le _⟩) hS (fun H locs hP hS => ?_)
    have hP : va_P D vwCl (GX cy ad tk sp nm tp kp q4 se ur ab lo im sy un en ra li i2) H := hP
    exact bX9_readHead_28 C hI hK hN h (lv_sub hl [0] rfl) hP hS
theorem kX9_readHead (hI : Apart ad 89)  {q : Int64 × Tcu} (h : X9_readHead tp cu se ur un = some q) : Met l yX9_readHead (.code yX9_readHead cX9_readHead 5 (some .long) :: WA) ({ frames := 3, cells := 0, slots := 0, locals := 77 } : Room) (va_Pc [.ref (ad 8), .ref (ad 27)] (PR D cy (GX cy ad tk sp nm tp kp cu se ur ab lo im sy un en ra li i2))) (QR (some (.long q.1)) D (GX cy ad tk sp nm tp kp q.2 se ur ab lo im sy un en ra li i2) (Ac ad 89)) 0 0 (Ac ad 89) :=
  met_of (by decide) (Nat.le_of_ble_eq_true rfl) (fun p e s m below meth c ls C hP hK hN hl => bX9_readHead_0 C hI hK hN h hl hP va_S.rf)
def X9_settleReferences_65 (tp : Ttp) (ur : Tur) (k2 : Tcu → Ten → Int32 → Int32 → Option (Tcu × Ten)) (cu : Tcu) (en : Ten) (v2 : Int32) (v3 : Int32) : Option (Tcu × Ten) := k2 cu en v2 (v3 + (1 : Int32))
set_option maxRecDepth 20000 in
theorem bX9_settleReferences_65 (C : Cx p s m args meth c cX9_settleReferences 5 none RX9 (.code yX9_settleReferences cX9_settleReferences 5 none)) (hI : Apart ad 89) (hK : va_K D vwCl (tysX cy) s) (hN : NW s) {k2 : Tcu → Ten → Int32 → Int32 → Option (Tcu × Ten)} {q : Tcu × Ten} (hk2 : ∀ {cu : Tcu} {en : Ten} {v2 : Int32} {v3 : Int32}, k2 cu en v2 v3 = some q → ∀ {ls : Array Slot}, lv_has ls 5 [(0, .ref (ad 8)), (1, .ref (ad 34)), (2, .int v2), (3, .int v3)] → ∀ {H : Heap} {locs : List Loc}, va_P D vwCl (GX cy ad tk sp nm tp kp cu se ur ab lo im sy un en ra li i2) H → va_S (Ac ad 89) s.heap H locs → W p l e ({ frames := 4, cells := 0, slots := 0, locals := 94 } : Room) s m args below meth c H locs 0 0 (MQ below (QR none D (GX cy ad tk sp nm tp kp q.1 se ur ab lo im sy un q.2 ra li i2) (Ac ad 89)) args s 0 0 (Ac ad 89)) (F0 m 2 ls [])) {v2 : Int32} {v3 : Int32} (h : X9_settleReferences_65 tp ur k2 cu en v2 v3 = some q) {ls : Array Slot} (hl : lv_has ls 5 [(0, .ref (ad 8)), (1, .ref (ad 34)), (2, .int v2), (3, .int v3)]) {H : Heap} {locs : List Loc} (hP : va_P D vwCl (GX cy ad tk sp nm tp kp cu se ur ab lo im sy un en ra li i2) H) (hS : va_S (Ac ad 89) s.heap H locs) : W p l e ({ frames := 4, cells := 0, slots := 0, locals := 94 } : Room) s m args below meth c H locs 0 0 (MQ below (QR none D (GX cy ad tk sp nm tp kp q.1 se ur ab lo im sy un q.2 ra li i2) (Ac ad 89)) args s 0 0 (Ac ad 89)) (F0 m 65 ls []) := by
  obtain ⟨hx, hb, hml, hown, hts, hr, hlk⟩ := id C
  unfold X9_settleReferences_65 at h
  refine lv_iinc (v := (v3 + (1 : Int32))) (lv' := [(3, .int (v3 + (1 : Int32))), (0, .ref (ad 8)), (1, .ref (ad 34)), (2, .int v2)]) hx hb dX9_settleReferences_65 hl (k := 3) rfl rfl (by decide) rfl (fun ls hl => ?_)
  refine lv_goto (tgt := 2) hx hb dX9_settleReferences_68 (by decide) ?_
  exact hk2 h (lv_sub hl [1, 2, 3, 0] rfl) hP hS
def X9_settleReferences_73b (tp : Ttp) (ur : Tur)  (k73 : Tcu → Ten → Int32 → Int32 → Option (Tcu × Ten)) (cu : Tcu) (en : Ten) (v2 : Int32) (v3 : Int32) : Option (Tcu × Ten) := (if v3 < (X2_total en) then (if (X1_sound cu) = 0 then some (cu, en) else ((X2_settleOrigin en v3 v2).bind fun q3 => k73 cu q3 v2 (v3 + (1 : Int32)))) else some (cu, en))
def X9_settleReferences_73 (tp : Ttp) (ur : Tur)  (n : Nat) (st : Tcu × Ten × Int32 × Int32) : Option (Tcu × Ten) := lp (fun rec st => X9_settleReferences_73b tp ur  (fun a0 a1 a2 a3 => rec (a0, a1, a2, a3)) st.1 st.2.1 st.2.2.1 st.2.2.2) n st
set_option maxRecDepth 20000 in
theorem bX9_settleReferences_73 (C : Cx p s m args meth c cX9_settleReferences 5 none RX9 (.code yX9_settleReferences cX9_settleReferences 5 none)) (hI : Apart ad 89) (hK : va_K D vwCl (tysX cy) s) (hN : NW s)  {q : Tcu × Ten}  : ∀ (n : Nat) {cu : Tcu} {en : Ten} {v2 : Int32} {v3 : Int32}, X9_settleReferences_73 tp ur  n (cu, en, v2, v3) = some q → ∀ {ls : Array Slot}, lv_has ls 5 [(0, .ref (ad 8)), (1, .ref (ad 34)), (2, .int v2), (3, .int v3)] → ∀ {H : Heap} {locs : List Loc}, va_P D vwCl (GX cy ad tk sp nm tp kp cu se ur ab lo im sy un en ra li i2) H → va_S (Ac ad 89) s.heap H locs → W p l e ({ frames := 4, cells := 0, slots := 0, locals := 94 } : Room) s m args below meth c H locs 0 0 (MQ below (QR none D (GX cy ad tk sp nm tp kp q.1 se ur ab lo im sy un q.2 ra li i2) (Ac ad 89)) args s 0 0 (Ac ad 89)) (F0 m 73 ls []) := by
  obtain ⟨hx, hb, hml, hown, hts, hr, hlk⟩ := id C
  intro n
  induction n with
  | zero =>
    intro cu en v2 v3 h ls hl H locs hP hS
    have h : (none : Option (Tcu × Ten)) = some q := h
    cases h
  | succ n ih =>
    intro cu en v2 v3 h ls hl H locs hP hS
    have h : X9_settleReferences_73b tp ur  (fun a0 a1 a2 a3 => X9_settleReferences_73 tp ur  n (a0, a1, a2, a3)) cu en v2 v3 = some q := h
    unfold X9_settleReferences_73b at h
    refine lv_iload_n hx hb dX9_settleReferences_73 rfl (lv_at hl 3 rfl) ?_
    refine lv_aload_n hx hb dX9_settleReferences_74 rfl (lv_at hl 1 rfl) ?_
    refine cPi (run_V (rest := [.int v3]) C (kX2_total rfl) caX2_total w742 ⟨rfl, rfl, Nat.le_of_ble_eq_true rfl, Nat.le_of_ble_eq_true rfl⟩ hK hN hP (rX34 hK hP) rfl hl.1 rfl (Nat.le_of_ble_eq_true rfl) dX9_settleReferences_75 ⟨Nat.zero_le _, Nat.zero_le _⟩) ?_
    refine b_icmp_ge (tgt := 103) hx hb dX9_settleReferences_78 (by decide) (fun c1 => ?_) (fun c1 => ?_)
    · rw [if_neg c1] at h
      obtain rfl := Option.some.inj h
      exact W.vret hx hb hr (fun t ht _ => ⟨rfl, by rw [ht]; exact hP, hS.F ht⟩) hS.2.2 dX9_settleReferences_103 hlk
    · rw [if_pos c1] at h
      refine lv_aload_n hx hb dX9_settleReferences_81 rfl (lv_at hl 0 rfl) ?_
      refine gX8_0 C hK hP w209 dX9_settleReferences_82 ?_
      refine cPi (run_V (rest := []) C (kX1_sound rfl) caX1_sound w697 ⟨rfl, rfl, Nat.le_of_ble_eq_true rfl, Nat.le_of_ble_eq_true rfl⟩ hK hN hP (rX3 hK hP) rfl hl.1 rfl (Nat.le_of_ble_eq_true rfl) dX9_settleReferences_85 ⟨Nat.zero_le _, Nat.zero_le _⟩) ?_
      refine lv_if_eq (tgt := 103) hx hb dX9_settleReferences_88 (by decide) (fun c2 => ?_) (fun c2 => ?_)
      · rw [if_pos c2] at h
        obtain rfl := Option.some.inj h
        exact W.vret hx hb hr (fun t ht _ => ⟨rfl, by rw [ht]; exact hP, hS.F ht⟩) hS.2.2 dX9_settleReferences_103 hlk
      · rw [if_neg c2] at h
        refine lv_aload_n hx hb dX9_settleReferences_91 rfl (lv_at hl 1 rfl) ?_
        refine lv_iload_n hx hb dX9_settleReferences_92 rfl (lv_at hl 3 rfl) ?_
        refine lv_iload_n hx hb dX9_settleReferences_93 rfl (lv_at hl 2 rfl) ?_
        obtain ⟨q3, h4, h⟩ := bnd h
        refine cRv (run_V (rest := []) C (kX2_settleOrigin hI h4) caX2_settleOrigin w915 ⟨rfl, rfl, Nat.le_of_ble_eq_true rfl, Nat.le_of_ble_eq_true rfl⟩ hK hN hP (rX34 hK hP) rfl hl.1 rfl (Nat.le_of_ble_eq_true rfl) dX9_settleReferences_94 ⟨Nat.zero_le _, Nat.zero_le _⟩) hS (fun H locs hP hS => ?_)
        have hP : va_P D vwCl (GX cy ad tk sp nm tp kp cu se ur ab lo im sy un q3 ra li i2) H := hP
        refine lv_iinc (v := (v3 + (1 : Int32))) (lv' := [(3, .int (v3 + (1 : Int32))), (0, .ref (ad 8)), (1, .ref (ad 34)), (2, .int v2)]) hx hb dX9_settleReferences_97 hl (k := 3) rfl rfl (by decide) rfl (fun ls hl => ?_)
        refine lv_goto (tgt := 73) hx hb dX9_settleReferences_100 (by decide) ?_
        exact ih h (lv_sub hl [1, 2, 3, 0] rfl) hP hS
def X9_settleReferences_71 (tp : Ttp) (ur : Tur)  (cu : Tcu) (en : Ten) (v2 : Int32) : Option (Tcu × Ten) := X9_settleReferences_73 tp ur FU (cu, en, v2, v2)
set_option maxRecDepth 20000 in
theorem bX9_settleReferences_71 (C : Cx p s m args meth c cX9_settleReferences 5 none RX9 (.code yX9_settleReferences cX9_settleReferences 5 none)) (hI : Apart ad 89) (hK : va_K D vwCl (tysX cy) s) (hN : NW s)  {q : Tcu × Ten}  {v2 : Int32} (h : X9_settleReferences_71 tp ur cu en v2 = some q) {ls : Array Slot} (hl : lv_has ls 5 [(0, .ref (ad 8)), (1, .ref (ad 34)), (2, .int v2)]) {H : Heap} {locs : List Loc} (hP : va_P D vwCl (GX cy ad tk sp nm tp kp cu se ur ab lo im sy un en ra li i2) H) (hS : va_S (Ac ad 89) s.heap H locs) : W p l e ({ frames := 4, cells := 0, slots := 0, locals := 94 } : Room) s m args below meth c H locs 0 0 (MQ below (QR none D (GX cy ad tk sp nm tp kp q.1 se ur ab lo im sy un q.2 ra li i2) (Ac ad 89)) args s 0 0 (Ac ad 89)) (F0 m 71 ls []) := by
  obtain ⟨hx, hb, hml, hown, hts, hr, hlk⟩ := id C
  unfold X9_settleReferences_71 at h
  refine lv_iload_n hx hb dX9_settleReferences_71 rfl (lv_at hl 2 rfl) ?_
  refine lv_istore_n (lv' := [(3, .int v2), (0, .ref (ad 8)), (1, .ref (ad 34)), (2, .int v2)]) hx hb dX9_settleReferences_72 rfl hl (by decide) rfl (fun ls hl => ?_)
  exact bX9_settleReferences_73 C hI hK hN FU h (lv_sub hl [1, 2, 3, 0] rfl) hP hS
def X9_settleReferences_2b (tp : Ttp) (ur : Tur)  (k2 : Tcu → Ten → Int32 → Int32 → Option (Tcu × Ten)) (cu : Tcu) (en : Ten) (v2 : Int32) (v3 : Int32) : Option (Tcu × Ten) := (if v3 < ur.2.2.2.1 then (if (X1_sound cu) = 0 then X9_settleReferences_71 tp ur cu en v2 else ((X1_numberAt tp (at_i 2000 ur.2.2.1 v3) (4 : Int32)).bind fun q3 => ((X2_placedAt en (((ur.2.2.2.2.1).toInt64) + q3) v2).bind fun q5 => (if q5 = (-1 : Int32) then (letq (X1_refuse cu (3 : Int32) (at_i 2000 ur.2.2.1 v3)) fun q8 => X9_settleReferences_65 tp ur k2 q8 en v2 v3) else X9_settleReferences_65 tp ur k2 cu en v2 v3)))) else X9_settleReferences_71 tp ur cu en v2)
def X9_settleReferences_2 (tp : Ttp) (ur : Tur)  (n : Nat) (st : Tcu × Ten × Int32 × Int32) : Option (Tcu × Ten) := lp (fun rec st => X9_settleReferences_2b tp ur  (fun a0 a1 a2 a3 => rec (a0, a1, a2, a3)) st.1 st.2.1 st.2.2.1 st.2.2.2) n st
set_option maxRecDepth 20000 in
theorem bX9_settleReferences_2 (C : Cx p s m args meth c cX9_settleReferences 5 none RX9 (.code yX9_settleReferences cX9_settleReferences 5 none)) (hI : Apart ad 89) (hK : va_K D vwCl (tysX cy) s) (hN : NW s)  {q : Tcu × Ten}  : ∀ (n : Nat) {cu : Tcu} {en : Ten} {v2 : Int32} {v3 : Int32}, X9_settleReferences_2 tp ur  n (cu, en, v2, v3) = some q → ∀ {ls : Array Slot}, lv_has ls 5 [(0, .ref (ad 8)), (1, .ref (ad 34)), (2, .int v2), (3, .int v3)] → ∀ {H : Heap} {locs : List Loc}, va_P D vwCl (GX cy ad tk sp nm tp kp cu se ur ab lo im sy un en ra li i2) H → va_S (Ac ad 89) s.heap H locs → W p l e ({ frames := 4, cells := 0, slots := 0, locals := 94 } : Room) s m args below meth c H locs 0 0 (MQ below (QR none D (GX cy ad tk sp nm tp kp q.1 se ur ab lo im sy un q.2 ra li i2) (Ac ad 89)) args s 0 0 (Ac ad 89)) (F0 m 2 ls []) := by
  obtain ⟨hx, hb, hml, hown, hts, hr, hlk⟩ := id C
  intro n
  induction n with
  | zero =>
    intro cu en v2 v3 h ls hl H locs hP hS
    have h : (none : Option (Tcu × Ten)) = some q := h
    cases h
  | succ n ih =>
    intro cu en v2 v3 h ls hl H locs hP hS
    have h : X9_settleReferences_2b tp ur  (fun a0 a1 a2 a3 => X9_settleReferences_2 tp ur  n (a0, a1, a2, a3)) cu en v2 v3 = some q := h
    unfold X9_settleReferences_2b at h
    refine lv_iload_n hx hb dX9_settleReferences_2 rfl (lv_at hl 3 rfl) ?_
    refine lv_aload_n hx hb dX9_settleReferences_3 rfl (lv_at hl 0 rfl) ?_
    refine gX8_6 (v := ur.2.2.2.1) C hK hP rfl w215 dX9_settleReferences_4 ?_
    refine b_icmp_ge (tgt := 71) hx hb dX9_settleReferences_7 (by decide) (fun c1 => ?_) (fun c1 => ?_)
    · rw [if_neg c1] at h
      exact bX9_settleReferences_71 C hI hK hN h (lv_sub hl [0, 1, 2] rfl) hP hS
    · rw [if_pos c1] at h
      refine lv_aload_n hx hb dX9_settleReferences_10 rfl (lv_at hl 0 rfl) ?_
      refine gX8_0 C hK hP w209 dX9_settleReferences_11 ?_
      refine cPi (run_V (rest := []) C (kX1_sound rfl) caX1_sound w697 ⟨rfl, rfl, Nat.le_of_ble_eq_true rfl, Nat.le_of_ble_eq_true rfl⟩ hK hN hP (rX3 hK hP) rfl hl.1 rfl (Nat.le_of_ble_eq_true rfl) dX9_settleReferences_14 ⟨Nat.zero_le _, Nat.zero_le _⟩) ?_
      refine lv_if_eq (tgt := 71) hx hb dX9_settleReferences_17 (by decide) (fun c2 => ?_) (fun c2 => ?_)
      · rw [if_pos c2] at h
        exact bX9_settleReferences_71 C hI hK hN h (lv_sub hl [0, 1, 2] rfl) hP hS
      · rw [if_neg c2] at h
        refine lv_aload_n hx hb dX9_settleReferences_20 rfl (lv_at hl 0 rfl) ?_
        refine gX8_5 C hK hP w214 dX9_settleReferences_21 ?_
        refine lv_iload_n hx hb dX9_settleReferences_24 rfl (lv_at hl 3 rfl) ?_
        refine xat_i (rest := []) C hK hN hP eX10 (Nat.le_of_ble_eq_true rfl) w802 hl.1 (Nat.le_of_ble_eq_true rfl) dX9_settleReferences_25 ⟨Nat.le_of_ble_eq_true rfl, Nat.le_of_ble_eq_true rfl⟩ ⟨Nat.zero_le _, Nat.zero_le _⟩ ?_
        refine lv_istore (lv' := [(4, .int (at_i 2000 ur.2.2.1 v3)), (0, .ref (ad 8)), (1, .ref (ad 34)), (2, .int v2), (3, .int v3)]) hx hb dX9_settleReferences_28 hl (by decide) rfl (fun ls hl => ?_)
        refine lv_aload_n hx hb dX9_settleReferences_30 rfl (lv_at hl 2 rfl) ?_
        refine lv_aload_n hx hb dX9_settleReferences_31 rfl (lv_at hl 1 rfl) ?_
        refine gX8_7 (v := ur.2.2.2.2.1) C hK hP rfl w216 dX9_settleReferences_32 ?_
        refine lv_i2l (v := ((ur.2.2.2.2.1).toInt64)) hx hb dX9_settleReferences_35 rfl ?_
        refine lv_aload_n hx hb dX9_settleReferences_36 rfl (lv_at hl 1 rfl) ?_
        refine gX8_0 C hK hP w209 dX9_settleReferences_37 ?_
        refine lv_iload hx hb dX9_settleReferences_40 (lv_at hl 0 rfl) ?_
        refine lv_iconst (v := (4 : Int32)) hx hb dX9_settleReferences_42 (by decide) ?_
        obtain ⟨q3, h4, h⟩ := bnd h
        refine cPl (run_V (rest := [.long ((ur.2.2.2.2.1).toInt64), .ref (ad 34)]) C (kX1_numberAt h4) caX1_numberAt w906 ⟨rfl, rfl, Nat.le_of_ble_eq_true rfl, Nat.le_of_ble_eq_true rfl⟩ hK hN hP (rX3 hK hP) rfl hl.1 rfl (Nat.le_of_ble_eq_true rfl) dX9_settleReferences_43 ⟨Nat.zero_le _, Nat.zero_le _⟩) ?_
        refine lv_ladd hx hb dX9_settleReferences_46 ?_
        refine lv_iload_n hx hb dX9_settleReferences_47 rfl (lv_at hl 3 rfl) ?_
        obtain ⟨q5, h6, h⟩ := bnd h
        refine cPi (run_V (rest := []) C (kX2_placedAt h6) caX2_placedAt w907 ⟨rfl, rfl, Nat.le_of_ble_eq_true rfl, Nat.le_of_ble_eq_true rfl⟩ hK hN hP (rX34 hK hP) rfl hl.1 rfl (Nat.le_of_ble_eq_true rfl) dX9_settleReferences_48 ⟨Nat.zero_le _, Nat.zero_le _⟩) ?_
        refine lv_iconst (v := (-1 : Int32)) hx hb dX9_settleReferences_51 (by decide) ?_
        refine lv_icmp_ne (tgt := 65) hx hb dX9_settleReferences_52 (by decide) (fun c7 => ?_) (fun c7 => ?_)
        · rw [if_neg c7] at h
          exact bX9_settleReferences_65 C hI hK hN @ih h (lv_sub hl [1, 2, 3, 4] rfl) hP hS
        · rw [if_pos c7] at h
          refine lv_aload_n hx hb dX9_settleReferences_55 rfl (lv_at hl 1 rfl) ?_
          refine gX8_0 C hK hP w209 dX9_settleReferences_56 ?_
          refine lv_iconst (v := (3 : Int32)) hx hb dX9_settleReferences_59 (by decide) ?_
          refine lv_iload hx hb dX9_settleReferences_60 (lv_at hl 0 rfl) ?_
          obtain ⟨q8, h9, h⟩ := lets h
          refine cRv (run_V (rest := []) C (kX1_refuse hI h9) caX1_refuse w722 ⟨rfl, rfl, Nat.le_of_ble_eq_true rfl, Nat.le_of_ble_eq_true rfl⟩ hK hN hP (rX3 hK hP) rfl hl.1 rfl (Nat.le_of_ble_eq_true rfl) dX9_settleReferences_62 ⟨Nat.zero_le _, Nat.zero_le _⟩) hS (fun H locs hP hS => ?_)
          have hP : va_P D vwCl (GX cy ad tk sp nm tp kp q8 se ur ab lo im sy un en ra li i2) H := hP
          exact bX9_settleReferences_65 C hI hK hN @ih h (lv_sub hl [1, 2, 3, 4] rfl) hP hS
def X9_settleReferences (tp : Ttp) (cu : Tcu) (ur : Tur) (en : Ten) (v2 : Int32) : Option (Tcu × Ten) := X9_settleReferences_2 tp ur FU (cu, en, v2, (0 : Int32))
set_option maxRecDepth 20000 in
theorem bX9_settleReferences_0 (C : Cx p s m args meth c cX9_settleReferences 5 none RX9 (.code yX9_settleReferences cX9_settleReferences 5 none)) (hI : Apart ad 89) (hK : va_K D vwCl (tysX cy) s) (hN : NW s)  {q : Tcu × Ten}  {v2 : Int32} (h : X9_settleReferences tp cu ur en v2 = some q) {ls : Array Slot} (hl : lv_has ls 5 [(0, .ref (ad 8)), (1, .ref (ad 34)), (2, .int v2)]) {H : Heap} {locs : List Loc} (hP : va_P D vwCl (GX cy ad tk sp nm tp kp cu se ur ab lo im sy un en ra li i2) H) (hS : va_S (Ac ad 89) s.heap H locs) : W p l e ({ frames := 4, cells := 0, slots := 0, locals := 94 } : Room) s m args below meth c H locs 0 0 (MQ below (QR none D (GX cy ad tk sp nm tp kp q.1 se ur ab lo im sy un q.2 ra li i2) (Ac ad 89)) args s 0 0 (Ac ad 89)) (F0 m 0 ls []) := by
  obtain ⟨hx, hb, hml, hown, hts, hr, hlk⟩ := id C
  unfold X9_settleReferences at h
  refine lv_iconst (v := (0 : Int32)) hx hb dX9_settleReferences_0 (by decide) ?_
  refine lv_istore_n (lv' := [(3, .int (0 : Int32)), (0, .ref (ad 8)), (1, .ref (ad 34)), (2, .int v2)]) hx hb dX9_settleReferences_1 rfl hl (by decide) rfl (fun ls hl => ?_)
  exact bX9_settleReferences_2 C hI hK hN FU h (lv_sub hl [1, 2, 3, 0] rfl) hP hS
theorem kX9_settleReferences (hI : Apart ad 89) {v2 : Int32} {q : Tcu × Ten} (h : X9_settleReferences tp cu ur en v2 = some q) : Met l yX9_settleReferences (.code yX9_settleReferences cX9_settleReferences 5 none :: WA) ({ frames := 4, cells := 0, slots := 0, locals := 94 } : Room) (va_Pc [.ref (ad 8), .ref (ad 34), .int v2] (PR D cy (GX cy ad tk sp nm tp kp cu se ur ab lo im sy un en ra li i2))) (QR none D (GX cy ad tk sp nm tp kp q.1 se ur ab lo im sy un q.2 ra li i2) (Ac ad 89)) 0 0 (Ac ad 89) :=
  met_of (by decide) (Nat.le_of_ble_eq_true rfl) (fun p e s m below meth c ls C hP hK hN hl => bX9_settleReferences_0 C hI hK hN h hl hP va_S.rf)
def X9_readAll_37b (tp : Ttp) (se : Tse)  (k37 : Tcu → Tur → Tab → Tun → Ten → Int32 → Int32 → Option (Tcu × Tur × Tab × Tun × Ten)) (cu : Tcu) (ur : Tur) (ab : Tab) (un : Tun) (en : Ten) (v2 : Int32) (v3 : Int32) : Option (Tcu × Tur × Tab × Tun × Ten) := (if (20 : Int32) < v3 then some (cu, ur, ab, un, en) else (if ur.2.2.2.2.1 < v2 then (if (X1_sound cu) = 0 then some (cu, ur, ab, un, en) else (letq (X1_within cu ur.2.2.2.2.1 v2) fun q4 => ((X9_readHead tp q4 se ur un).bind fun q6 => (letq (X10_add un ur.2.2.2.2.1 (X2_total en)) fun q8 => (letq (X1_within q6.2 ((X7_beginOf se (2 : Int32)) + ((q6.1).toInt32)) (X7_stopOf se (2 : Int32))) fun q10 => ((X0_read tp q10 ab).bind fun q12 => (letq (X1_within q12.1 (X1_place q6.2) (X1_stop q6.2)) fun q14 => ((X9_readEntries tp q14 se ur q12.2 en q8.1).bind fun q16 => ((X9_settleReferences tp q16.1 q16.2.1 q16.2.2 (X2_total en)).bind fun q18 => k37 q18.1 (q16.2.1.1, q16.2.1.2.1, q16.2.1.2.2.1, q16.2.1.2.2.2.1, (X1_stop q6.2), q16.2.1.2.2.2.2.2.1, q16.2.1.2.2.2.2.2.2) q12.2 q8.2 q18.2 v2 (v3 + (1 : Int32))))))))))) else some (cu, ur, ab, un, en)))
def X9_readAll_37 (tp : Ttp) (se : Tse)  (n : Nat) (st : Tcu × Tur × Tab × Tun × Ten × Int32 × Int32) : Option (Tcu × Tur × Tab × Tun × Ten) := lp (fun rec st => X9_readAll_37b tp se  (fun a0 a1 a2 a3 a4 a5 a6 => rec (a0, a1, a2, a3, a4, a5, a6)) st.1 st.2.1 st.2.2.1 st.2.2.2.1 st.2.2.2.2.1 st.2.2.2.2.2.1 st.2.2.2.2.2.2) n st
set_option maxRecDepth 20000 in
theorem bX9_readAll_37 (C : Cx p s m args meth c cX9_readAll 10 none RX9 (.code yX9_readAll cX9_readAll 10 none)) (hI : Apart ad 89) (hK : va_K D vwCl (tysX cy) s) (hN : NW s)  {q : Tcu × Tur × Tab × Tun × Ten}  : ∀ (n : Nat) {cu : Tcu} {ur : Tur} {ab : Tab} {un : Tun} {en : Ten} {v2 : Int32} {v3 : Int32}, X9_readAll_37 tp se  n (cu, ur, ab, un, en, v2, v3) = some q → ∀ {ls : Array Slot}, lv_has ls 10 [(0, .ref (ad 8)), (1, .ref (ad 21)), (2, .int v2), (3, .int v3)] → ∀ {H : Heap} {locs : List Loc}, va_P D vwCl (GX cy ad tk sp nm tp kp cu se ur ab lo im sy un en ra li i2) H → va_S (Ac ad 89) s.heap H locs → W p l e ({ frames := 6, cells := 0, slots := 0, locals := 162 } : Room) s m args below meth c H locs 0 0 (MQ below (QR none D (GX cy ad tk sp nm tp kp q.1 se q.2.1 q.2.2.1 lo im sy q.2.2.2.1 q.2.2.2.2 ra li i2) (Ac ad 89)) args s 0 0 (Ac ad 89)) (F0 m 37 ls []) := by
  obtain ⟨hx, hb, hml, hown, hts, hr, hlk⟩ := id C
  intro n
  induction n with
  | zero =>
    intro cu ur ab un en v2 v3 h ls hl H locs hP hS
    have h : (none : Option (Tcu × Tur × Tab × Tun × Ten)) = some q := h
    cases h
  | succ n ih =>
    intro cu ur ab un en v2 v3 h ls hl H locs hP hS
    have h : X9_readAll_37b tp se  (fun a0 a1 a2 a3 a4 a5 a6 => X9_readAll_37 tp se  n (a0, a1, a2, a3, a4, a5, a6)) cu ur ab un en v2 v3 = some q := h
    unfold X9_readAll_37b at h
    refine lv_iload_n hx hb dX9_readAll_37 rfl (lv_at hl 3 rfl) ?_
    refine lv_bipush (v := (20 : Int32)) hx hb dX9_readAll_38 (by decide) ?_
    refine lv_icmp_gt (tgt := 206) hx hb dX9_readAll_40 (by decide) (fun c1 => ?_) (fun c1 => ?_)
    · rw [if_pos c1] at h
      obtain rfl := Option.some.inj h
      exact W.vret hx hb hr (fun t ht _ => ⟨rfl, by rw [ht]; exact hP, hS.F ht⟩) hS.2.2 dX9_readAll_206 hlk
    · rw [if_neg c1] at h
      refine lv_aload_n hx hb dX9_readAll_43 rfl (lv_at hl 0 rfl) ?_
      refine gX8_7 (v := ur.2.2.2.2.1) C hK hP rfl w216 dX9_readAll_44 ?_
      refine lv_iload_n hx hb dX9_readAll_47 rfl (lv_at hl 2 rfl) ?_
      refine b_icmp_ge (tgt := 206) hx hb dX9_readAll_48 (by decide) (fun c2 => ?_) (fun c2 => ?_)
      · rw [if_neg c2] at h
        obtain rfl := Option.some.inj h
        exact W.vret hx hb hr (fun t ht _ => ⟨rfl, by rw [ht]; exact hP, hS.F ht⟩) hS.2.2 dX9_readAll_206 hlk
      · rw [if_pos c2] at h
        refine lv_aload_n hx hb dX9_readAll_51 rfl (lv_at hl 0 rfl) ?_
        refine gX8_0 C hK hP w209 dX9_readAll_52 ?_
        refine cPi (run_V (rest := []) C (kX1_sound rfl) caX1_sound w697 ⟨rfl, rfl, Nat.le_of_ble_eq_true rfl, Nat.le_of_ble_eq_true rfl⟩ hK hN hP (rX3 hK hP) rfl hl.1 rfl (Nat.le_of_ble_eq_true rfl) dX9_readAll_55 ⟨Nat.zero_le _, Nat.zero_le _⟩) ?_
        refine lv_if_eq (tgt := 206) hx hb dX9_readAll_58 (by decide) (fun c3 => ?_) (fun c3 => ?_)
        · rw [if_pos c3] at h
          obtain rfl := Option.some.inj h
          exact W.vret hx hb hr (fun t ht _ => ⟨rfl, by rw [ht]; exact hP, hS.F ht⟩) hS.2.2 dX9_readAll_206 hlk
        · rw [if_neg c3] at h
          refine lv_aload_n hx hb dX9_readAll_61 rfl (lv_at hl 0 rfl) ?_
          refine gX8_0 C hK hP w209 dX9_readAll_62 ?_
          refine lv_aload_n hx hb dX9_readAll_65 rfl (lv_at hl 0 rfl) ?_
          refine gX8_7 (v := ur.2.2.2.2.1) C hK hP rfl w216 dX9_readAll_66 ?_
          refine lv_iload_n hx hb dX9_readAll_69 rfl (lv_at hl 2 rfl) ?_
          obtain ⟨q4, h5, h⟩ := lets h
          refine cRv (run_V (rest := []) C (kX1_within hI h5) caX1_within w698 ⟨rfl, rfl, Nat.le_of_ble_eq_true rfl, Nat.le_of_ble_eq_true rfl⟩ hK hN hP (rX3 hK hP) rfl hl.1 rfl (Nat.le_of_ble_eq_true rfl) dX9_readAll_70 ⟨Nat.zero_le _, Nat.zero_le _⟩) hS (fun H locs hP hS => ?_)
          have hP : va_P D vwCl (GX cy ad tk sp nm tp kp q4 se ur ab lo im sy un en ra li i2) H := hP
          refine lv_aload_n hx hb dX9_readAll_73 rfl (lv_at hl 0 rfl) ?_
          refine lv_aload_n hx hb dX9_readAll_74 rfl (lv_at hl 1 rfl) ?_
          refine gX21_1N C hK hP hN w442 dX9_readAll_75 ?_
          obtain ⟨q6, h7, h⟩ := bnd h
          refine cRl (run_V (rest := []) C (kX9_readHead hI h7) caX9_readHead w699 ⟨rfl, rfl, Nat.le_of_ble_eq_true rfl, Nat.le_of_ble_eq_true rfl⟩ hK hN hP (rX8 hK hP) rfl hl.1 rfl (Nat.le_of_ble_eq_true rfl) dX9_readAll_78 ⟨Nat.zero_le _, Nat.zero_le _⟩) hS (fun H locs hP hS => ?_)
          have hP : va_P D vwCl (GX cy ad tk sp nm tp kp q6.2 se ur ab lo im sy un en ra li i2) H := hP
          refine lv_lstore (lv' := [(4, .long q6.1), (0, .ref (ad 8)), (1, .ref (ad 21)), (2, .int v2), (3, .int v3)]) hx hb dX9_readAll_81 hl (by decide) rfl (fun ls hl => ?_)
          refine lv_aload_n hx hb dX9_readAll_83 rfl (lv_at hl 1 rfl) ?_
          refine gX8_0 C hK hP w209 dX9_readAll_84 ?_
          refine cPi (run_V (rest := []) C (kX1_place rfl) caX1_place w727 ⟨rfl, rfl, Nat.le_of_ble_eq_true rfl, Nat.le_of_ble_eq_true rfl⟩ hK hN hP (rX3 hK hP) rfl hl.1 rfl (Nat.le_of_ble_eq_true rfl) dX9_readAll_87 ⟨Nat.zero_le _, Nat.zero_le _⟩) ?_
          refine lv_istore (lv' := [(6, .int (X1_place q6.2)), (4, .long q6.1), (0, .ref (ad 8)), (1, .ref (ad 21)), (2, .int v2), (3, .int v3)]) hx hb dX9_readAll_90 hl (by decide) rfl (fun ls hl => ?_)
          refine lv_aload_n hx hb dX9_readAll_92 rfl (lv_at hl 2 rfl) ?_
          refine gX8_0 C hK hP w209 dX9_readAll_93 ?_
          refine cPi (run_V (rest := []) C (kX1_stop rfl) caX1_stop w738 ⟨rfl, rfl, Nat.le_of_ble_eq_true rfl, Nat.le_of_ble_eq_true rfl⟩ hK hN hP (rX3 hK hP) rfl hl.1 rfl (Nat.le_of_ble_eq_true rfl) dX9_readAll_96 ⟨Nat.zero_le _, Nat.zero_le _⟩) ?_
          refine lv_istore (lv' := [(7, .int (X1_stop q6.2)), (6, .int (X1_place q6.2)), (4, .long q6.1), (0, .ref (ad 8)), (1, .ref (ad 21)), (2, .int v2), (3, .int v3)]) hx hb dX9_readAll_99 hl (by decide) rfl (fun ls hl => ?_)
          refine lv_aload_n hx hb dX9_readAll_101 rfl (lv_at hl 4 rfl) ?_
          refine gX21_2N C hK hP hN w449 dX9_readAll_102 ?_
          refine cPi (run_V (rest := []) C (kX2_total rfl) caX2_total w742 ⟨rfl, rfl, Nat.le_of_ble_eq_true rfl, Nat.le_of_ble_eq_true rfl⟩ hK hN hP (rX34 hK hP) rfl hl.1 rfl (Nat.le_of_ble_eq_true rfl) dX9_readAll_105 ⟨Nat.zero_le _, Nat.zero_le _⟩) ?_
          refine lv_istore (lv' := [(8, .int (X2_total en)), (7, .int (X1_stop q6.2)), (6, .int (X1_place q6.2)), (4, .long q6.1), (0, .ref (ad 8)), (1, .ref (ad 21)), (2, .int v2), (3, .int v3)]) hx hb dX9_readAll_108 hl (by decide) rfl (fun ls hl => ?_)
          refine lv_aload_n hx hb dX9_readAll_110 rfl (lv_at hl 5 rfl) ?_
          refine gX21_1N C hK hP hN w442 dX9_readAll_111 ?_
          refine lv_aload_n hx hb dX9_readAll_114 rfl (lv_at hl 4 rfl) ?_
          refine gX8_7 (v := ur.2.2.2.2.1) C hK hP rfl w216 dX9_readAll_115 ?_
          refine lv_iload hx hb dX9_readAll_118 (lv_at hl 0 rfl) ?_
          obtain ⟨q8, h9, h⟩ := lets h
          refine cRi (run_V (rest := []) C (kX10_add hI h9) caX10_add w746 ⟨rfl, rfl, Nat.le_of_ble_eq_true rfl, Nat.le_of_ble_eq_true rfl⟩ hK hN hP (rX27 hK hP) rfl hl.1 rfl (Nat.le_of_ble_eq_true rfl) dX9_readAll_120 ⟨Nat.zero_le _, Nat.zero_le _⟩) hS (fun H locs hP hS => ?_)
          have hP : va_P D vwCl (GX cy ad tk sp nm tp kp q6.2 se ur ab lo im sy q8.2 en ra li i2) H := hP
          refine lv_istore (lv' := [(9, .int q8.1), (8, .int (X2_total en)), (7, .int (X1_stop q6.2)), (6, .int (X1_place q6.2)), (4, .long q6.1), (0, .ref (ad 8)), (1, .ref (ad 21)), (2, .int v2), (3, .int v3)]) hx hb dX9_readAll_123 hl (by decide) rfl (fun ls hl => ?_)
          refine lv_aload_n hx hb dX9_readAll_125 rfl (lv_at hl 5 rfl) ?_
          refine gX8_0 C hK hP w209 dX9_readAll_126 ?_
          refine lv_aload_n hx hb dX9_readAll_129 rfl (lv_at hl 5 rfl) ?_
          refine gX8_1 C hK hP w210 dX9_readAll_130 ?_
          refine lv_iconst (v := (2 : Int32)) hx hb dX9_readAll_133 (by decide) ?_
          refine cPi (run_V (rest := [.ref (ad 3)]) C (kX7_beginOf rfl) caX7_beginOf w696 ⟨rfl, rfl, Nat.le_of_ble_eq_true rfl, Nat.le_of_ble_eq_true rfl⟩ hK hN hP (rX4 hK hP) rfl hl.1 rfl (Nat.le_of_ble_eq_true rfl) dX9_readAll_134 ⟨Nat.zero_le _, Nat.zero_le _⟩) ?_
          refine lv_lload hx hb dX9_readAll_137 (lv_at hl 4 rfl) ?_
          refine lv_l2i (v := ((q6.1).toInt32)) hx hb dX9_readAll_139 rfl ?_
          refine lv_iadd hx hb dX9_readAll_140 ?_
          refine lv_aload_n hx hb dX9_readAll_141 rfl (lv_at hl 5 rfl) ?_
          refine gX8_1 C hK hP w210 dX9_readAll_142 ?_
          refine lv_iconst (v := (2 : Int32)) hx hb dX9_readAll_145 (by decide) ?_
          refine cPi (run_V (rest := [.int ((X7_beginOf se (2 : Int32)) + ((q6.1).toInt32)), .ref (ad 3)]) C (kX7_stopOf rfl) caX7_stopOf w695 ⟨rfl, rfl, Nat.le_of_ble_eq_true rfl, Nat.le_of_ble_eq_true rfl⟩ hK hN hP (rX4 hK hP) rfl hl.1 rfl (Nat.le_of_ble_eq_true rfl) dX9_readAll_146 ⟨Nat.zero_le _, Nat.zero_le _⟩) ?_
          obtain ⟨q10, h11, h⟩ := lets h
          refine cRv (run_V (rest := []) C (kX1_within hI h11) caX1_within w698 ⟨rfl, rfl, Nat.le_of_ble_eq_true rfl, Nat.le_of_ble_eq_true rfl⟩ hK hN hP (rX3 hK hP) rfl hl.1 rfl (Nat.le_of_ble_eq_true rfl) dX9_readAll_149 ⟨Nat.zero_le _, Nat.zero_le _⟩) hS (fun H locs hP hS => ?_)
          have hP : va_P D vwCl (GX cy ad tk sp nm tp kp q10 se ur ab lo im sy q8.2 en ra li i2) H := hP
          refine lv_aload_n hx hb dX9_readAll_152 rfl (lv_at hl 5 rfl) ?_
          refine gX8_2 C hK hP w211 dX9_readAll_153 ?_
          refine lv_aload_n hx hb dX9_readAll_156 rfl (lv_at hl 5 rfl) ?_
          refine gX8_0 C hK hP w209 dX9_readAll_157 ?_
          obtain ⟨q12, h13, h⟩ := bnd h
          refine cRv (run_V (rest := []) C (kX0_read hI h13) caX0_read w751 ⟨rfl, rfl, Nat.le_of_ble_eq_true rfl, Nat.le_of_ble_eq_true rfl⟩ hK hN hP (rX11 hK hP) rfl hl.1 rfl (Nat.le_of_ble_eq_true rfl) dX9_readAll_160 ⟨Nat.zero_le _, Nat.zero_le _⟩) hS (fun H locs hP hS => ?_)
          have hP : va_P D vwCl (GX cy ad tk sp nm tp kp q12.1 se ur q12.2 lo im sy q8.2 en ra li i2) H := hP
          refine lv_aload_n hx hb dX9_readAll_163 rfl (lv_at hl 5 rfl) ?_
          refine gX8_0 C hK hP w209 dX9_readAll_164 ?_
          refine lv_iload hx hb dX9_readAll_167 (lv_at hl 3 rfl) ?_
          refine lv_iload hx hb dX9_readAll_169 (lv_at hl 2 rfl) ?_
          obtain ⟨q14, h15, h⟩ := lets h
          refine cRv (run_V (rest := []) C (kX1_within hI h15) caX1_within w698 ⟨rfl, rfl, Nat.le_of_ble_eq_true rfl, Nat.le_of_ble_eq_true rfl⟩ hK hN hP (rX3 hK hP) rfl hl.1 rfl (Nat.le_of_ble_eq_true rfl) dX9_readAll_171 ⟨Nat.zero_le _, Nat.zero_le _⟩) hS (fun H locs hP hS => ?_)
          have hP : va_P D vwCl (GX cy ad tk sp nm tp kp q14 se ur q12.2 lo im sy q8.2 en ra li i2) H := hP
          refine lv_aload_n hx hb dX9_readAll_174 rfl (lv_at hl 5 rfl) ?_
          refine lv_aload_n hx hb dX9_readAll_175 rfl (lv_at hl 6 rfl) ?_
          refine gX21_2N C hK hP hN w449 dX9_readAll_176 ?_
          refine lv_iload hx hb dX9_readAll_179 (lv_at hl 0 rfl) ?_
          obtain ⟨q16, h17, h⟩ := bnd h
          refine cRv (run_V (rest := []) C (kX9_readEntries hI h17) caX9_readEntries w792 ⟨rfl, rfl, Nat.le_of_ble_eq_true rfl, Nat.le_of_ble_eq_true rfl⟩ hK hN hP (rX8 hK hP) rfl hl.1 rfl (Nat.le_of_ble_eq_true rfl) dX9_readAll_181 ⟨Nat.zero_le _, Nat.zero_le _⟩) hS (fun H locs hP hS => ?_)
          have hP : va_P D vwCl (GX cy ad tk sp nm tp kp q16.1 se q16.2.1 q12.2 lo im sy q8.2 q16.2.2 ra li i2) H := hP
          refine lv_aload_n hx hb dX9_readAll_184 rfl (lv_at hl 5 rfl) ?_
          refine lv_aload_n hx hb dX9_readAll_185 rfl (lv_at hl 6 rfl) ?_
          refine gX21_2N C hK hP hN w449 dX9_readAll_186 ?_
          refine lv_iload hx hb dX9_readAll_189 (lv_at hl 1 rfl) ?_
          obtain ⟨q18, h19, h⟩ := bnd h
          refine cRv (run_V (rest := []) C (kX9_settleReferences hI h19) caX9_settleReferences w902 ⟨rfl, rfl, Nat.le_of_ble_eq_true rfl, Nat.le_of_ble_eq_true rfl⟩ hK hN hP (rX8 hK hP) rfl hl.1 rfl (Nat.le_of_ble_eq_true rfl) dX9_readAll_191 ⟨Nat.zero_le _, Nat.zero_le _⟩) hS (fun H locs hP hS => ?_)
          have hP : va_P D vwCl (GX cy ad tk sp nm tp kp q18.1 se q16.2.1 q12.2 lo im sy q8.2 q18.2 ra li i2) H := hP
          refine lv_aload_n hx hb dX9_readAll_194 rfl (lv_at hl 5 rfl) ?_
          refine lv_iload hx hb dX9_readAll_195 (lv_at hl 2 rfl) ?_
          refine pX8_7 (v := (X1_stop q6.2)) C hI hK hP hS w216 dX9_readAll_197 (fun H locs hP hS => ?_)
          have hP : va_P D vwCl (GX cy ad tk sp nm tp kp q18.1 se (q16.2.1.1, q16.2.1.2.1, q16.2.1.2.2.1, q16.2.1.2.2.2.1, (X1_stop q6.2), q16.2.1.2.2.2.2.2.1, q16.2.1.2.2.2.2.2.2) q12.2 lo im sy q8.2 q18.2 ra li i2) H := hP
          refine lv_iinc (v := (v3 + (1 : Int32))) (lv' := [(3, .int (v3 + (1 : Int32))), (9, .int q8.1), (8, .int (X2_total en)), (7, .int (X1_stop q6.2)), (6, .int (X1_place q6.2)), (4, .long q6.1), (0, .ref (ad 8)), (1, .ref (ad 21)), (2, .int v2)]) hx hb dX9_readAll_200 hl (k := 8) rfl rfl (by decide) rfl (fun ls hl => ?_)
          refine lv_goto (tgt := 37) hx hb dX9_readAll_203 (by decide) ?_
          exact ih h (lv_sub hl [6, 7, 8, 0] rfl) hP hS
def X9_readAll (tp : Ttp) (cu : Tcu) (se : Tse) (ur : Tur) (ab : Tab) (un : Tun) (en : Ten)  : Option (Tcu × Tur × Tab × Tun × Ten) := (letq (X10_clear un) fun q1 => (letq (X2_clear en) fun q3 => X9_readAll_37 tp se FU (cu, (ur.1, ur.2.1, ur.2.2.1, ur.2.2.2.1, (X7_beginOf se (3 : Int32)), ur.2.2.2.2.2.1, ur.2.2.2.2.2.2), ab, q1, q3, (X7_stopOf se (3 : Int32)), (0 : Int32))))
set_option maxRecDepth 20000 in
theorem bX9_readAll_0 (C : Cx p s m args meth c cX9_readAll 10 none RX9 (.code yX9_readAll cX9_readAll 10 none)) (hI : Apart ad 89) (hK : va_K D vwCl (tysX cy) s) (hN : NW s)  {q : Tcu × Tur × Tab × Tun × Ten}   (h : X9_readAll tp cu se ur ab un en = some q) {ls : Array Slot} (hl : lv_has ls 10 [(0, .ref (ad 8)), (1, .ref (ad 21))]) {H : Heap} {locs : List Loc} (hP : va_P D vwCl (GX cy ad tk sp nm tp kp cu se ur ab lo im sy un en ra li i2) H) (hS : va_S (Ac ad 89) s.heap H locs) : W p l e ({ frames := 6, cells := 0, slots := 0, locals := 162 } : Room) s m args below meth c H locs 0 0 (MQ below (QR none D (GX cy ad tk sp nm tp kp q.1 se q.2.1 q.2.2.1 lo im sy q.2.2.2.1 q.2.2.2.2 ra li i2) (Ac ad 89)) args s 0 0 (Ac ad 89)) (F0 m 0 ls []) := by
  obtain ⟨hx, hb, hml, hown, hts, hr, hlk⟩ := id C
  unfold X9_readAll at h
  refine lv_aload_n hx hb dX9_readAll_0 rfl (lv_at hl 1 rfl) ?_
  refine gX21_1N C hK hP hN w442 dX9_readAll_1 ?_
  obtain ⟨q1, h2, h⟩ := lets h
  refine cRv (run_V (rest := []) C (kX10_clear hI h2) caX10_clear w687 ⟨rfl, rfl, Nat.le_of_ble_eq_true rfl, Nat.le_of_ble_eq_true rfl⟩ hK hN hP (rX27 hK hP) rfl hl.1 rfl (Nat.le_of_ble_eq_true rfl) dX9_readAll_4 ⟨Nat.zero_le _, Nat.zero_le _⟩) hS (fun H locs hP hS => ?_)
  have hP : va_P D vwCl (GX cy ad tk sp nm tp kp cu se ur ab lo im sy q1 en ra li i2) H := hP
  refine lv_aload_n hx hb dX9_readAll_7 rfl (lv_at hl 1 rfl) ?_
  refine gX21_2N C hK hP hN w449 dX9_readAll_8 ?_
  obtain ⟨q3, h4, h⟩ := lets h
  refine cRv (run_V (rest := []) C (kX2_clear hI h4) caX2_clear w691 ⟨rfl, rfl, Nat.le_of_ble_eq_true rfl, Nat.le_of_ble_eq_true rfl⟩ hK hN hP (rX34 hK hP) rfl hl.1 rfl (Nat.le_of_ble_eq_true rfl) dX9_readAll_11 ⟨Nat.zero_le _, Nat.zero_le _⟩) hS (fun H locs hP hS => ?_)
  have hP : va_P D vwCl (GX cy ad tk sp nm tp kp cu se ur ab lo im sy q1 q3 ra li i2) H := hP
  refine lv_aload_n hx hb dX9_readAll_14 rfl (lv_at hl 0 rfl) ?_
  refine gX8_1 C hK hP w210 dX9_readAll_15 ?_
  refine lv_iconst (v := (3 : Int32)) hx hb dX9_readAll_18 (by decide) ?_
  refine cPi (run_V (rest := []) C (kX7_stopOf rfl) caX7_stopOf w695 ⟨rfl, rfl, Nat.le_of_ble_eq_true rfl, Nat.le_of_ble_eq_true rfl⟩ hK hN hP (rX4 hK hP) rfl hl.1 rfl (Nat.le_of_ble_eq_true rfl) dX9_readAll_19 ⟨Nat.zero_le _, Nat.zero_le _⟩) ?_
  refine lv_istore_n (lv' := [(2, .int (X7_stopOf se (3 : Int32))), (0, .ref (ad 8)), (1, .ref (ad 21))]) hx hb dX9_readAll_22 rfl hl (by decide) rfl (fun ls hl => ?_)
  refine lv_aload_n hx hb dX9_readAll_23 rfl (lv_at hl 1 rfl) ?_
  refine lv_aload_n hx hb dX9_readAll_24 rfl (lv_at hl 1 rfl) ?_
  refine gX8_1 C hK hP w210 dX9_readAll_25 ?_
  refine lv_iconst (v := (3 : Int32)) hx hb dX9_readAll_28 (by decide) ?_
  refine cPi (run_V (rest := [.ref (ad 8)]) C (kX7_beginOf rfl) caX7_beginOf w696 ⟨rfl, rfl, Nat.le_of_ble_eq_true rfl, Nat.le_of_ble_eq_true rfl⟩ hK hN hP (rX4 hK hP) rfl hl.1 rfl (Nat.le_of_ble_eq_true rfl) dX9_readAll_29 ⟨Nat.zero_le _, Nat.zero_le _⟩) ?_
  refine pX8_7 (v := (X7_beginOf se (3 : Int32))) C hI hK hP hS w216 dX9_readAll_32 (fun H locs hP hS => ?_)
  have hP : va_P D vwCl (GX cy ad tk sp nm tp kp cu se (ur.1, ur.2.1, ur.2.2.1, ur.2.2.2.1, (X7_beginOf se (3 : Int32)), ur.2.2.2.2.2.1, ur.2.2.2.2.2.2) ab lo im sy q1 q3 ra li i2) H := hP
  refine lv_iconst (v := (0 : Int32)) hx hb dX9_readAll_35 (by decide) ?_
  refine lv_istore_n (lv' := [(3, .int (0 : Int32)), (2, .int (X7_stopOf se (3 : Int32))), (0, .ref (ad 8)), (1, .ref (ad 21))]) hx hb dX9_readAll_36 rfl hl (by decide) rfl (fun ls hl => ?_)
  exact bX9_readAll_37 C hI hK hN FU h (lv_sub hl [2, 3, 1, 0] rfl) hP hS
theorem kX9_readAll (hI : Apart ad 89)  {q : Tcu × Tur × Tab × Tun × Ten} (h : X9_readAll tp cu se ur ab un en = some q) : Met l yX9_readAll (.code yX9_readAll cX9_readAll 10 none :: WA) ({ frames := 6, cells := 0, slots := 0, locals := 162 } : Room) (va_Pc [.ref (ad 8), .ref (ad 21)] (PR D cy (GX cy ad tk sp nm tp kp cu se ur ab lo im sy un en ra li i2))) (QR none D (GX cy ad tk sp nm tp kp q.1 se q.2.1 q.2.2.1 lo im sy q.2.2.2.1 q.2.2.2.2 ra li i2) (Ac ad 89)) 0 0 (Ac ad 89) :=
  met_of (by decide) (Nat.le_of_ble_eq_true rfl) (fun p e s m below meth c ls C hP hK hN hl => bX9_readAll_0 C hI hK hN h hl hP va_S.rf)
def X10_beginOf (un : Tun) (v1 : Int32) : Int32 := (at_i 20 un.1 v1)
set_option maxRecDepth 20000 in
theorem bX10_beginOf_0 (C : Cx p s m args meth c cX10_beginOf 2 (some .int) RX10 (.code yX10_beginOf cX10_beginOf 2 (some .int))) (hK : va_K D vwCl (tysX cy) s) (hN : NW s)  {q : Int32}  {v1 : Int32} (h : X10_beginOf un v1 = q) {ls : Array Slot} (hl : lv_has ls 2 [(0, .ref (ad 27)), (1, .int v1)]) (hP : va_P D vwCl (GX cy ad tk sp nm tp kp cu se ur ab lo im sy un en ra li i2) s.heap) : W p l e ({ frames := 1, cells := 0, slots := 0, locals := 21 } : Room) s m args below meth c s.heap [] 0 0 (MQ below (QP (some (.int q))) args s 0 0 (fun _ => False)) (F0 m 0 ls []) := by
  obtain ⟨hx, hb, hml, hown, hts, hr, hlk⟩ := id C
  unfold X10_beginOf at h
  refine lv_aload_n hx hb dX10_beginOf_0 rfl (lv_at hl 0 rfl) ?_
  refine gX27_0 C hK hP w296 dX10_beginOf_1 ?_
  refine lv_iload_n hx hb dX10_beginOf_4 rfl (lv_at hl 1 rfl) ?_
  refine xat_i (rest := []) C hK hN hP eX28 (Nat.le_of_ble_eq_true rfl) w950 hl.1 (Nat.le_of_ble_eq_true rfl) dX10_beginOf_5 ⟨Nat.le_of_ble_eq_true rfl, Nat.le_of_ble_eq_true rfl⟩ ⟨Nat.zero_le _, Nat.zero_le _⟩ ?_
  obtain rfl := h
  exact W.iret hx hb hr (fun t ht _ => ⟨rfl, ht⟩) (fun _ h9 => by cases h9) dX10_beginOf_8 hlk
theorem kX10_beginOf  {v1 : Int32} {q : Int32} (h : X10_beginOf un v1 = q) : Met l yX10_beginOf (.code yX10_beginOf cX10_beginOf 2 (some .int) :: WA) ({ frames := 1, cells := 0, slots := 0, locals := 21 } : Room) (va_Pc [.ref (ad 27), .int v1] (PR D cy (GX cy ad tk sp nm tp kp cu se ur ab lo im sy un en ra li i2))) (QP (some (.int q))) 0 0 (fun _ => False) :=
  met_of (by decide) (Nat.le_of_ble_eq_true rfl) (fun p e s m below meth c ls C hP hK hN hl => bX10_beginOf_0 C hK hN h hl hP)
def X10_filePlaceOf (un : Tun) (v1 : Int32) : Int32 := (if v1 < 0 then (-1 : Int32) else (if v1 < un.2.2.2.2.2.2.2 then (at_i 40 un.2.2.2.2.1 v1) else (-1 : Int32)))
set_option maxRecDepth 20000 in
theorem bX10_filePlaceOf_0 (C : Cx p s m args meth c cX10_filePlaceOf 2 (some .int) RX10 (.code yX10_filePlaceOf cX10_filePlaceOf 2 (some .int))) (hK : va_K D vwCl (tysX cy) s) (hN : NW s)  {q : Int32}  {v1 : Int32} (h : X10_filePlaceOf un v1 = q) {ls : Array Slot} (hl : lv_has ls 2 [(0, .ref (ad 27)), (1, .int v1)]) (hP : va_P D vwCl (GX cy ad tk sp nm tp kp cu se ur ab lo im sy un en ra li i2) s.heap) : W p l e ({ frames := 1, cells := 0, slots := 0, locals := 21 } : Room) s m args below meth c s.heap [] 0 0 (MQ below (QP (some (.int q))) args s 0 0 (fun _ => False)) (F0 m 0 ls []) := by
  obtain ⟨hx, hb, hml, hown, hts, hr, hlk⟩ := id C
  unfold X10_filePlaceOf at h
  refine lv_iload_n hx hb dX10_filePlaceOf_0 rfl (lv_at hl 1 rfl) ?_
  refine lv_if_lt (tgt := 23) hx hb dX10_filePlaceOf_1 (by decide) (fun c1 => ?_) (fun c1 => ?_)
  · rw [if_pos c1] at h
    refine lv_iconst (v := (-1 : Int32)) hx hb dX10_filePlaceOf_23 (by decide) ?_
    obtain rfl := h
    exact W.iret hx hb hr (fun t ht _ => ⟨rfl, ht⟩) (fun _ h9 => by cases h9) dX10_filePlaceOf_24 hlk
  · rw [if_neg c1] at h
    refine lv_iload_n hx hb dX10_filePlaceOf_4 rfl (lv_at hl 1 rfl) ?_
    refine lv_aload_n hx hb dX10_filePlaceOf_5 rfl (lv_at hl 0 rfl) ?_
    refine gX27_7 (v := un.2.2.2.2.2.2.2) C hK hP rfl w303 dX10_filePlaceOf_6 ?_
    refine b_icmp_ge (tgt := 23) hx hb dX10_filePlaceOf_9 (by decide) (fun c2 => ?_) (fun c2 => ?_)
    · rw [if_neg c2] at h
      refine lv_iconst (v := (-1 : Int32)) hx hb dX10_filePlaceOf_23 (by decide) ?_
      obtain rfl := h
      exact W.iret hx hb hr (fun t ht _ => ⟨rfl, ht⟩) (fun _ h9 => by cases h9) dX10_filePlaceOf_24 hlk
    · rw [if_pos c2] at h
      refine lv_aload_n hx hb dX10_filePlaceOf_12 rfl (lv_at hl 0 rfl) ?_
      refine gX27_4 C hK hP w300 dX10_filePlaceOf_13 ?_
      refine lv_iload_n hx hb dX10_filePlaceOf_16 rfl (lv_at hl 1 rfl) ?_
      refine xat_i (rest := []) C hK hN hP eX32 (Nat.le_of_ble_eq_true rfl) w950 hl.1 (Nat.le_of_ble_eq_true rfl) dX10_filePlaceOf_17 ⟨Nat.le_of_ble_eq_true rfl, Nat.le_of_ble_eq_true rfl⟩ ⟨Nat.zero_le _, Nat.zero_le _⟩ ?_
      refine lv_goto (tgt := 24) hx hb dX10_filePlaceOf_20 (by decide) ?_
      obtain rfl := h
      exact W.iret hx hb hr (fun t ht _ => ⟨rfl, ht⟩) (fun _ h9 => by cases h9) dX10_filePlaceOf_24 hlk
theorem kX10_filePlaceOf  {v1 : Int32} {q : Int32} (h : X10_filePlaceOf un v1 = q) : Met l yX10_filePlaceOf (.code yX10_filePlaceOf cX10_filePlaceOf 2 (some .int) :: WA) ({ frames := 1, cells := 0, slots := 0, locals := 21 } : Room) (va_Pc [.ref (ad 27), .int v1] (PR D cy (GX cy ad tk sp nm tp kp cu se ur ab lo im sy un en ra li i2))) (QP (some (.int q))) 0 0 (fun _ => False) :=
  met_of (by decide) (Nat.le_of_ble_eq_true rfl) (fun p e s m below meth c ls C hP hK hN hl => bX10_filePlaceOf_0 C hK hN h hl hP)
def X10_fileLengthOf (un : Tun) (v1 : Int32) : Int32 := (if v1 < 0 then (-1 : Int32) else (if v1 < un.2.2.2.2.2.2.2 then (at_i 40 un.2.2.2.2.2.1 v1) else (-1 : Int32)))
set_option maxRecDepth 20000 in
theorem bX10_fileLengthOf_0 (C : Cx p s m args meth c cX10_fileLengthOf 2 (some .int) RX10 (.code yX10_fileLengthOf cX10_fileLengthOf 2 (some .int))) (hK : va_K D vwCl (tysX cy) s) (hN : NW s)  {q : Int32}  {v1 : Int32} (h : X10_fileLengthOf un v1 = q) {ls : Array Slot} (hl : lv_has ls 2 [(0, .ref (ad 27)), (1, .int v1)]) (hP : va_P D vwCl (GX cy ad tk sp nm tp kp cu se ur ab lo im sy un en ra li i2) s.heap) : W p l e ({ frames := 1, cells := 0, slots := 0, locals := 21 } : Room) s m args below meth c s.heap [] 0 0 (MQ below (QP (some (.int q))) args s 0 0 (fun _ => False)) (F0 m 0 ls []) := by
  obtain ⟨hx, hb, hml, hown, hts, hr, hlk⟩ := id C
  unfold X10_fileLengthOf at h
  refine lv_iload_n hx hb dX10_fileLengthOf_0 rfl (lv_at hl 1 rfl) ?_
  refine lv_if_lt (tgt := 23) hx hb dX10_fileLengthOf_1 (by decide) (fun c1 => ?_) (fun c1 => ?_)
  · rw [if_pos c1] at h
    refine lv_iconst (v := (-1 : Int32)) hx hb dX10_fileLengthOf_23 (by decide) ?_
    obtain rfl := h
    exact W.iret hx hb hr (fun t ht _ => ⟨rfl, ht⟩) (fun _ h9 => by cases h9) dX10_fileLengthOf_24 hlk
  · rw [if_neg c1] at h
    refine lv_iload_n hx hb dX10_fileLengthOf_4 rfl (lv_at hl 1 rfl) ?_
    refine lv_aload_n hx hb dX10_fileLengthOf_5 rfl (lv_at hl 0 rfl) ?_
    refine gX27_7 (v := un.2.2.2.2.2.2.2) C hK hP rfl w303 dX10_fileLengthOf_6 ?_
    refine b_icmp_ge (tgt := 23) hx hb dX10_fileLengthOf_9 (by decide) (fun c2 => ?_) (fun c2 => ?_)
    · rw [if_neg c2] at h
      refine lv_iconst (v := (-1 : Int32)) hx hb dX10_fileLengthOf_23 (by decide) ?_
      obtain rfl := h
      exact W.iret hx hb hr (fun t ht _ => ⟨rfl, ht⟩) (fun _ h9 => by cases h9) dX10_fileLengthOf_24 hlk
    · rw [if_pos c2] at h
      refine lv_aload_n hx hb dX10_fileLengthOf_12 rfl (lv_at hl 0 rfl) ?_
      refine gX27_5 C hK hP w301 dX10_fileLengthOf_13 ?_
      refine lv_iload_n hx hb dX10_fileLengthOf_16 rfl (lv_at hl 1 rfl) ?_
      refine xat_i (rest := []) C hK hN hP eX33 (Nat.le_of_ble_eq_true rfl) w950 hl.1 (Nat.le_of_ble_eq_true rfl) dX10_fileLengthOf_17 ⟨Nat.le_of_ble_eq_true rfl, Nat.le_of_ble_eq_true rfl⟩ ⟨Nat.zero_le _, Nat.zero_le _⟩ ?_
      refine lv_goto (tgt := 24) hx hb dX10_fileLengthOf_20 (by decide) ?_
      obtain rfl := h
      exact W.iret hx hb hr (fun t ht _ => ⟨rfl, ht⟩) (fun _ h9 => by cases h9) dX10_fileLengthOf_24 hlk
theorem kX10_fileLengthOf  {v1 : Int32} {q : Int32} (h : X10_fileLengthOf un v1 = q) : Met l yX10_fileLengthOf (.code yX10_fileLengthOf cX10_fileLengthOf 2 (some .int) :: WA) ({ frames := 1, cells := 0, slots := 0, locals := 21 } : Room) (va_Pc [.ref (ad 27), .int v1] (PR D cy (GX cy ad tk sp nm tp kp cu se ur ab lo im sy un en ra li i2))) (QP (some (.int q))) 0 0 (fun _ => False) :=
  met_of (by decide) (Nat.le_of_ble_eq_true rfl) (fun p e s m below meth c ls C hP hK hN hl => bX10_fileLengthOf_0 C hK hN h hl hP)
def X11_append_49  (k3 : Tnm → Ttp → Int32 → Int32 → Option (Tnm × Ttp)) (nm : Tnm) (tp : Ttp) (v1 : Int32) (v2 : Int32) : Option (Tnm × Ttp) := k3 nm tp v1 (v2 + (-8 : Int32))
set_option maxRecDepth 20000 in
theorem bX11_append_49 (C : Cx p s m args meth c cX11_append 3 none RX11 (.code yX11_append cX11_append 3 none)) (hI : Apart ad 89) (hK : va_K D vwCl (tysX cy) s) (hN : NW s) {k3 : Tnm → Ttp → Int32 → Int32 → Option (Tnm × Ttp)} {q : Tnm × Ttp} (hk3 : ∀ {nm : Tnm} {tp : Ttp} {v1 : Int32} {v2 : Int32}, k3 nm tp v1 v2 = some q → ∀ {ls : Array Slot}, lv_has ls 3 [(0, .ref (ad 0)), (1, .int v1), (2, .int v2)] → ∀ {H : Heap} {locs : List Loc}, va_P D vwCl (GX cy ad tk sp nm tp kp cu se ur ab lo im sy un en ra li i2) H → va_S (Ac ad 89) s.heap H locs → W p l e ({ frames := 0, cells := 0, slots := 0, locals := 0 } : Room) s m args below meth c H locs 0 0 (MQ below (QR none D (GX cy ad tk sp q.1 q.2 kp cu se ur ab lo im sy un en ra li i2) (Ac ad 89)) args s 0 0 (Ac ad 89)) (F0 m 3 ls [])) {v1 : Int32} {v2 : Int32} (h : X11_append_49 k3 nm tp v1 v2 = some q) {ls : Array Slot} (hl : lv_has ls 3 [(0, .ref (ad 0)), (1, .int v1), (2, .int v2)]) {H : Heap} {locs : List Loc} (hP : va_P D vwCl (GX cy ad tk sp nm tp kp cu se ur ab lo im sy un en ra li i2) H) (hS : va_S (Ac ad 89) s.heap H locs) : W p l e ({ frames := 0, cells := 0, slots := 0, locals := 0 } : Room) s m args below meth c H locs 0 0 (MQ below (QR none D (GX cy ad tk sp q.1 q.2 kp cu se ur ab lo im sy un en ra li i2) (Ac ad 89)) args s 0 0 (Ac ad 89)) (F0 m 49 ls []) := by
  obtain ⟨hx, hb, hml, hown, hts, hr, hlk⟩ := id C
  unfold X11_append_49 at h
  refine lv_iinc (v := (v2 + (-8 : Int32))) (lv' := [(2, .int (v2 + (-8 : Int32))), (0, .ref (ad 0)), (1, .int v1)]) hx hb dX11_append_49 hl (k := 2) rfl rfl (by decide) rfl (fun ls hl => ?_)
  refine lv_goto (tgt := 3) hx hb dX11_append_52 (by decide) ?_
  exact hk3 h (lv_sub hl [1, 2, 0] rfl) hP hS
def X11_append_3b   (k3 : Tnm → Ttp → Int32 → Int32 → Option (Tnm × Ttp)) (nm : Tnm) (tp : Ttp) (v1 : Int32) (v2 : Int32) : Option (Tnm × Ttp) := (if v2 < 0 then some (nm, tp) else (if nm < 0 then X11_append_49 k3 nm tp v1 v2 else (if nm < (8000 : Int32) then (if inb nm 8000 = true then X11_append_49 k3 (nm + (1 : Int32)) (upd tp (nm).toNatClampNeg (vp_nar .byte (((v1 >>> (v2 &&& 31))).toInt8.toInt32))) v1 v2 else none) else X11_append_49 k3 nm tp v1 v2)))
def X11_append_3   (n : Nat) (st : Tnm × Ttp × Int32 × Int32) : Option (Tnm × Ttp) := lp (fun rec st => X11_append_3b   (fun a0 a1 a2 a3 => rec (a0, a1, a2, a3)) st.1 st.2.1 st.2.2.1 st.2.2.2) n st
set_option maxRecDepth 20000 in
theorem bX11_append_3 (C : Cx p s m args meth c cX11_append 3 none RX11 (.code yX11_append cX11_append 3 none)) (hI : Apart ad 89) (hK : va_K D vwCl (tysX cy) s) (hN : NW s)  {q : Tnm × Ttp}  : ∀ (n : Nat) {nm : Tnm} {tp : Ttp} {v1 : Int32} {v2 : Int32}, X11_append_3   n (nm, tp, v1, v2) = some q → ∀ {ls : Array Slot}, lv_has ls 3 [(0, .ref (ad 0)), (1, .int v1), (2, .int v2)] → ∀ {H : Heap} {locs : List Loc}, va_P D vwCl (GX cy ad tk sp nm tp kp cu se ur ab lo im sy un en ra li i2) H → va_S (Ac ad 89) s.heap H locs → W p l e ({ frames := 0, cells := 0, slots := 0, locals := 0 } : Room) s m args below meth c H locs 0 0 (MQ below (QR none D (GX cy ad tk sp q.1 q.2 kp cu se ur ab lo im sy un en ra li i2) (Ac ad 89)) args s 0 0 (Ac ad 89)) (F0 m 3 ls []) := by
  obtain ⟨hx, hb, hml, hown, hts, hr, hlk⟩ := id C
  intro n
  induction n with
  | zero =>
    intro nm tp v1 v2 h ls hl H locs hP hS
    have h : (none : Option (Tnm × Ttp)) = some q := h
    cases h
  | succ n ih =>
    intro nm tp v1 v2 h ls hl H locs hP hS
    have h : X11_append_3b   (fun a0 a1 a2 a3 => X11_append_3   n (a0, a1, a2, a3)) nm tp v1 v2 = some q := h
    unfold X11_append_3b at h
    refine lv_iload_n hx hb dX11_append_3 rfl (lv_at hl 2 rfl) ?_
    refine lv_if_lt (tgt := 55) hx hb dX11_append_4 (by decide) (fun c1 => ?_) (fun c1 => ?_)
    · rw [if_pos c1] at h
      obtain rfl := Option.some.inj h
      exact W.vret hx hb hr (fun t ht _ => ⟨rfl, by rw [ht]; exact hP, hS.F ht⟩) hS.2.2 dX11_append_55 hlk
    · rw [if_neg c1] at h
      refine lv_aload_n hx hb dX11_append_7 rfl (lv_at hl 0 rfl) ?_
      refine gX0_8 (v := nm) C hK hP rfl w480 dX11_append_8 ?_
      refine lv_if_lt (tgt := 49) hx hb dX11_append_11 (by decide) (fun c2 => ?_) (fun c2 => ?_)
      · rw [if_pos c2] at h
        exact bX11_append_49 C hI hK hN @ih h (lv_sub hl [0, 1, 2] rfl) hP hS
      · rw [if_neg c2] at h
        refine lv_aload_n hx hb dX11_append_14 rfl (lv_at hl 0 rfl) ?_
        refine gX0_8 (v := nm) C hK hP rfl w480 dX11_append_15 ?_
        refine lv_aload_n hx hb dX11_append_18 rfl (lv_at hl 0 rfl) ?_
        refine gX0_0 C hK hP w472 dX11_append_19 ?_
        refine lX1 C hK hP dX11_append_22 ?_
        refine b_icmp_ge (tgt := 49) hx hb dX11_append_23 (by decide) (fun c3 => ?_) (fun c3 => ?_)
        · rw [if_neg c3] at h
          exact bX11_append_49 C hI hK hN @ih h (lv_sub hl [0, 1, 2] rfl) hP hS
        · rw [if_pos c3] at h
          refine lv_aload_n hx hb dX11_append_26 rfl (lv_at hl 0 rfl) ?_
          refine gX0_0 C hK hP w472 dX11_append_27 ?_
          refine lv_aload_n hx hb dX11_append_30 rfl (lv_at hl 0 rfl) ?_
          refine gX0_8 (v := nm) C hK hP rfl w480 dX11_append_31 ?_
          refine lv_iload_n hx hb dX11_append_34 rfl (lv_at hl 1 rfl) ?_
          refine lv_iload_n hx hb dX11_append_35 rfl (lv_at hl 2 rfl) ?_
          refine lv_ishr hx hb dX11_append_36 ?_
          refine lv_i2b (v := (((v1 >>> (v2 &&& 31))).toInt8.toInt32)) hx hb dX11_append_37 rfl ?_
          obtain ⟨n4, h⟩ := grd h
          refine sX1 (f := tp) C hI hK hP hS rfl n4 dX11_append_38 (fun H locs hP hS => ?_)
          have hP : va_P D vwCl (GX cy ad tk sp nm (upd tp (nm).toNatClampNeg (vp_nar .byte (((v1 >>> (v2 &&& 31))).toInt8.toInt32))) kp cu se ur ab lo im sy un en ra li i2) H := hP
          refine lv_aload_n hx hb dX11_append_39 rfl (lv_at hl 0 rfl) ?_
          refine lv_dup hx hb dX11_append_40 rfl ?_
          refine gX0_8 (v := nm) C hK hP rfl w480 dX11_append_41 ?_
          refine lv_iconst (v := (1 : Int32)) hx hb dX11_append_44 (by decide) ?_
          refine lv_iadd hx hb dX11_append_45 ?_
          refine pX0_8 (v := (nm + (1 : Int32))) C hI hK hP hS w480 dX11_append_46 (fun H locs hP hS => ?_)
          have hP : va_P D vwCl (GX cy ad tk sp (nm + (1 : Int32)) (upd tp (nm).toNatClampNeg (vp_nar .byte (((v1 >>> (v2 &&& 31))).toInt8.toInt32))) kp cu se ur ab lo im sy un en ra li i2) H := hP
          exact bX11_append_49 C hI hK hN @ih h (lv_sub hl [0, 1, 2] rfl) hP hS
def X11_append (nm : Tnm) (tp : Ttp) (v1 : Int32) : Option (Tnm × Ttp) := X11_append_3 FU (nm, tp, v1, (24 : Int32))
set_option maxRecDepth 20000 in
theorem bX11_append_0 (C : Cx p s m args meth c cX11_append 3 none RX11 (.code yX11_append cX11_append 3 none)) (hI : Apart ad 89) (hK : va_K D vwCl (tysX cy) s) (hN : NW s)  {q : Tnm × Ttp}  {v1 : Int32} (h : X11_append nm tp v1 = some q) {ls : Array Slot} (hl : lv_has ls 3 [(0, .ref (ad 0)), (1, .int v1)]) {H : Heap} {locs : List Loc} (hP : va_P D vwCl (GX cy ad tk sp nm tp kp cu se ur ab lo im sy un en ra li i2) H) (hS : va_S (Ac ad 89) s.heap H locs) : W p l e ({ frames := 0, cells := 0, slots := 0, locals := 0 } : Room) s m args below meth c H locs 0 0 (MQ below (QR none D (GX cy ad tk sp q.1 q.2 kp cu se ur ab lo im sy un en ra li i2) (Ac ad 89)) args s 0 0 (Ac ad 89)) (F0 m 0 ls []) := by
  obtain ⟨hx, hb, hml, hown, hts, hr, hlk⟩ := id C
  unfold X11_append at h
  refine lv_bipush (v := (24 : Int32)) hx hb dX11_append_0 (by decide) ?_
  refine lv_istore_n (lv' := [(2, .int (24 : Int32)), (0, .ref (ad 0)), (1, .int v1)]) hx hb dX11_append_2 rfl hl (by decide) rfl (fun ls hl => ?_)
  exact bX11_append_3 C hI hK hN FU h (lv_sub hl [1, 2, 0] rfl) hP hS
theorem kX11_append (hI : Apart ad 89) {v1 : Int32} {q : Tnm × Ttp} (h : X11_append nm tp v1 = some q) : Met l yX11_append (.code yX11_append cX11_append 3 none :: WA) ({ frames := 0, cells := 0, slots := 0, locals := 0 } : Room) (va_Pc [.ref (ad 0), .int v1] (PR D cy (GX cy ad tk sp nm tp kp cu se ur ab lo im sy un en ra li i2))) (QR none D (GX cy ad tk sp q.1 q.2 kp cu se ur ab lo im sy un en ra li i2) (Ac ad 89)) 0 0 (Ac ad 89) :=
  met_of (by decide) (Nat.le_of_ble_eq_true rfl) (fun p e s m below meth c ls C hP hK hN hl => bX11_append_0 C hI hK hN h hl hP va_S.rf)
def X11_feed (nm : Tnm) (tp : Ttp) (v1 : Int32) (v2 : Int32) (v3 : Int32) (v4 : Int32) (v5 : Int32) : Option (Int32 × Tnm × Ttp) := (if (8000 : Int32) < (nm + (20 : Int32)) then some ((-1 : Int32), nm, tp) else ((X11_append nm tp v1).bind fun q2 => ((X11_append q2.1 q2.2 v2).bind fun q4 => ((X11_append q4.1 q4.2 v3).bind fun q6 => ((X11_append q6.1 q6.2 v4).bind fun q8 => ((X11_append q8.1 q8.2 v5).bind fun q10 => some (q10.1, q10.1, q10.2)))))))
set_option maxRecDepth 20000 in
theorem bX11_feed_0 (C : Cx p s m args meth c cX11_feed 6 (some .int) RX11 (.code yX11_feed cX11_feed 6 (some .int))) (hI : Apart ad 89) (hK : va_K D vwCl (tysX cy) s) (hN : NW s)  {q : Int32 × Tnm × Ttp}  {v1 : Int32} {v2 : Int32} {v3 : Int32} {v4 : Int32} {v5 : Int32} (h : X11_feed nm tp v1 v2 v3 v4 v5 = some q) {ls : Array Slot} (hl : lv_has ls 6 [(0, .ref (ad 0)), (1, .int v1), (2, .int v2), (3, .int v3), (4, .int v4), (5, .int v5)]) {H : Heap} {locs : List Loc} (hP : va_P D vwCl (GX cy ad tk sp nm tp kp cu se ur ab lo im sy un en ra li i2) H) (hS : va_S (Ac ad 89) s.heap H locs) : W p l e ({ frames := 1, cells := 0, slots := 0, locals := 22 } : Room) s m args below meth c H locs 0 0 (MQ below (QR (some (.int q.1)) D (GX cy ad tk sp q.2.1 q.2.2 kp cu se ur ab lo im sy un en ra li i2) (Ac ad 89)) args s 0 0 (Ac ad 89)) (F0 m 0 ls []) := by
  obtain ⟨hx, hb, hml, hown, hts, hr, hlk⟩ := id C
  unfold X11_feed at h
  refine lv_aload_n hx hb dX11_feed_0 rfl (lv_at hl 0 rfl) ?_
  refine gX0_8 (v := nm) C hK hP rfl w480 dX11_feed_1 ?_
  refine lv_bipush (v := (20 : Int32)) hx hb dX11_feed_4 (by decide) ?_
  refine lv_iadd hx hb dX11_feed_6 ?_
  refine lv_sipush (v := (8000 : Int32)) hx hb dX11_feed_7 (by decide) ?_
  refine b_icmp_le (tgt := 15) hx hb dX11_feed_10 (by decide) (fun c1 => ?_) (fun c1 => ?_)
  · rw [if_neg c1] at h
    refine lv_aload_n hx hb dX11_feed_15 rfl (lv_at hl 0 rfl) ?_
    refine lv_iload_n hx hb dX11_feed_16 rfl (lv_at hl 1 rfl) ?_
    obtain ⟨q2, h3, h⟩ := bnd h
    refine cRv (run_V (rest := []) C (kX11_append hI h3) caX11_append w504 ⟨rfl, rfl, Nat.le_of_ble_eq_true rfl, Nat.le_of_ble_eq_true rfl⟩ hK hN hP (rX0 hK hP) rfl hl.1 rfl (Nat.le_of_ble_eq_true rfl) dX11_feed_17 ⟨Nat.zero_le _, Nat.zero_le _⟩) hS (fun H locs hP hS => ?_)
    have hP : va_P D vwCl (GX cy ad tk sp q2.1 q2.2 kp cu se ur ab lo im sy un en ra li i2) H := hP
    refine lv_aload_n hx hb dX11_feed_20 rfl (lv_at hl 0 rfl) ?_
    refine lv_iload_n hx hb dX11_feed_21 rfl (lv_at hl 2 rfl) ?_
    obtain ⟨q4, h5, h⟩ := bnd h
    refine cRv (run_V (rest := []) C (kX11_append hI h5) caX11_append w504 ⟨rfl, rfl, Nat.le_of_ble_eq_true rfl, Nat.le_of_ble_eq_true rfl⟩ hK hN hP (rX0 hK hP) rfl hl.1 rfl (Nat.le_of_ble_eq_true rfl) dX11_feed_22 ⟨Nat.zero_le _, Nat.zero_le _⟩) hS (fun H locs hP hS => ?_)
    have hP : va_P D vwCl (GX cy ad tk sp q4.1 q4.2 kp cu se ur ab lo im sy un en ra li i2) H := hP
    refine lv_aload_n hx hb dX11_feed_25 rfl (lv_at hl 0 rfl) ?_
    refine lv_iload_n hx hb dX11_feed_26 rfl (lv_at hl 3 rfl) ?_
    obtain ⟨q6, h7, h⟩ := bnd h
    refine cRv (run_V (rest := []) C (kX11_append hI h7) caX11_append w504 ⟨rfl, rfl, Nat.le_of_ble_eq_true rfl, Nat.le_of_ble_eq_true rfl⟩ hK hN hP (rX0 hK hP) rfl hl.1 rfl (Nat.le_of_ble_eq_true rfl) dX11_feed_27 ⟨Nat.zero_le _, Nat.zero_le _⟩) hS (fun H locs hP hS => ?_)
    have hP : va_P D vwCl (GX cy ad tk sp q6.1 q6.2 kp cu se ur ab lo im sy un en ra li i2) H := hP
    refine lv_aload_n hx hb dX11_feed_30 rfl (lv_at hl 0 rfl) ?_
    refine lv_iload hx hb dX11_feed_31 (lv_at hl 4 rfl) ?_
    obtain ⟨q8, h9, h⟩ := bnd h
    refine cRv (run_V (rest := []) C (kX11_append hI h9) caX11_append w504 ⟨rfl, rfl, Nat.le_of_ble_eq_true rfl, Nat.le_of_ble_eq_true rfl⟩ hK hN hP (rX0 hK hP) rfl hl.1 rfl (Nat.le_of_ble_eq_true rfl) dX11_feed_33 ⟨Nat.zero_le _, Nat.zero_le _⟩) hS (fun H locs hP hS => ?_)
    have hP : va_P D vwCl (GX cy ad tk sp q8.1 q8.2 kp cu se ur ab lo im sy un en ra li i2) H := hP
    refine lv_aload_n hx hb dX11_feed_36 rfl (lv_at hl 0 rfl) ?_
    refine lv_iload hx hb dX11_feed_37 (lv_at hl 5 rfl) ?_
    obtain ⟨q10, h11, h⟩ := bnd h
    refine cRv (run_V (rest := []) C (kX11_append hI h11) caX11_append w504 ⟨rfl, rfl, Nat.le_of_ble_eq_true rfl, Nat.le_of_ble_eq_true rfl⟩ hK hN hP (rX0 hK hP) rfl hl.1 rfl (Nat.le_of_ble_eq_true rfl) dX11_feed_39 ⟨Nat.zero_le _, Nat.zero_le _⟩) hS (fun H locs hP hS => ?_)
    have hP : va_P D vwCl (GX cy ad tk sp q10.1 q10.2 kp cu se ur ab lo im sy un en ra li i2) H := hP
    refine lv_aload_n hx hb dX11_feed_42 rfl (lv_at hl 0 rfl) ?_
    refine gX0_8 (v := q10.1) C hK hP rfl w480 dX11_feed_43 ?_
    obtain rfl := Option.some.inj h
    exact W.iret hx hb hr (fun t ht _ => ⟨rfl, by rw [ht]; exact hP, hS.F ht⟩) hS.2.2 dX11_feed_46 hlk
  · rw [if_pos c1] at h
    refine lv_iconst (v := (-1 : Int32)) hx hb dX11_feed_13 (by decide) ?_
    obtain rfl := Option.some.inj h
    exact W.iret hx hb hr (fun t ht _ => ⟨rfl, by rw [ht]; exact hP, hS.F ht⟩) hS.2.2 dX11_feed_14 hlk
theorem kX11_feed (hI : Apart ad 89) {v1 : Int32} {v2 : Int32} {v3 : Int32} {v4 : Int32} {v5 : Int32} {q : Int32 × Tnm × Ttp} (h : X11_feed nm tp v1 v2 v3 v4 v5 = some q) : Met l yX11_feed (.code yX11_feed cX11_feed 6 (some .int) :: WA) ({ frames := 1, cells := 0, slots := 0, locals := 22 } : Room) (va_Pc [.ref (ad 0), .int v1, .int v2, .int v3, .int v4, .int v5] (PR D cy (GX cy ad tk sp nm tp kp cu se ur ab lo im sy un en ra li i2))) (QR (some (.int q.1)) D (GX cy ad tk sp q.2.1 q.2.2 kp cu se ur ab lo im sy un en ra li i2) (Ac ad 89)) 0 0 (Ac ad 89) :=
  met_of (by decide) (Nat.le_of_ble_eq_true rfl) (fun p e s m below meth c ls C hP hK hN hl => bX11_feed_0 C hI hK hN h hl hP va_S.rf)
def X11_end (nm : Tnm) (v1 : Int32) : Int32 × Tnm := (if v1 < 0 then ((0 : Int32), nm) else (if nm < v1 then ((0 : Int32), nm) else ((1 : Int32), v1)))
set_option maxRecDepth 20000 in
theorem bX11_end_0 (C : Cx p s m args meth c cX11_end 2 (some .boolean) RX11 (.code yX11_end cX11_end 2 (some .boolean))) (hI : Apart ad 89) (hK : va_K D vwCl (tysX cy) s) (hN : NW s)  {q : Int32 × Tnm}  {v1 : Int32} (h : X11_end nm v1 = q) {ls : Array Slot} (hl : lv_has ls 2 [(0, .ref (ad 0)), (1, .int v1)]) {H : Heap} {locs : List Loc} (hP : va_P D vwCl (GX cy ad tk sp nm tp kp cu se ur ab lo im sy un en ra li i2) H) (hS : va_S (Ac ad 89) s.heap H locs) : W p l e ({ frames := 0, cells := 0, slots := 0, locals := 0 } : Room) s m args below meth c H locs 0 0 (MQ below (QR (some (.int q.1)) D (GX cy ad tk sp q.2 tp kp cu se ur ab lo im sy un en ra li i2) (Ac ad 89)) args s 0 0 (Ac ad 89)) (F0 m 0 ls []) := by
  obtain ⟨hx, hb, hml, hown, hts, hr, hlk⟩ := id C
  unfold X11_end at h
  refine lv_iload_n hx hb dX11_end_0 rfl (lv_at hl 1 rfl) ?_
  refine lv_if_lt (tgt := 12) hx hb dX11_end_1 (by decide) (fun c1 => ?_) (fun c1 => ?_)
  · rw [if_pos c1] at h
    refine lv_iconst (v := (0 : Int32)) hx hb dX11_end_12 (by decide) ?_
    obtain rfl := h
    exact W.zret (ty := .boolean) hx hb hr (by decide) (fun t ht _ => ⟨rfl, by rw [ht]; exact hP, hS.F ht⟩) hS.2.2 dX11_end_13 hlk
  · rw [if_neg c1] at h
    refine lv_iload_n hx hb dX11_end_4 rfl (lv_at hl 1 rfl) ?_
    refine lv_aload_n hx hb dX11_end_5 rfl (lv_at hl 0 rfl) ?_
    refine gX0_8 (v := nm) C hK hP rfl w480 dX11_end_6 ?_
    refine b_icmp_le (tgt := 14) hx hb dX11_end_9 (by decide) (fun c2 => ?_) (fun c2 => ?_)
    · rw [if_neg c2] at h
      refine lv_aload_n hx hb dX11_end_14 rfl (lv_at hl 0 rfl) ?_
      refine lv_iload_n hx hb dX11_end_15 rfl (lv_at hl 1 rfl) ?_
      refine pX0_8 (v := v1) C hI hK hP hS w480 dX11_end_16 (fun H locs hP hS => ?_)
      have hP : va_P D vwCl (GX cy ad tk sp v1 tp kp cu se ur ab lo im sy un en ra li i2) H := hP
      refine lv_iconst (v := (1 : Int32)) hx hb dX11_end_19 (by decide) ?_
      obtain rfl := h
      exact W.zret (ty := .boolean) hx hb hr (by decide) (fun t ht _ => ⟨rfl, by rw [ht]; exact hP, hS.F ht⟩) hS.2.2 dX11_end_20 hlk
    · rw [if_pos c2] at h
      refine lv_iconst (v := (0 : Int32)) hx hb dX11_end_12 (by decide) ?_
      obtain rfl := h
      exact W.zret (ty := .boolean) hx hb hr (by decide) (fun t ht _ => ⟨rfl, by rw [ht]; exact hP, hS.F ht⟩) hS.2.2 dX11_end_13 hlk
theorem kX11_end (hI : Apart ad 89) {v1 : Int32} {q : Int32 × Tnm} (h : X11_end nm v1 = q) : Met l yX11_end (.code yX11_end cX11_end 2 (some .boolean) :: WA) ({ frames := 0, cells := 0, slots := 0, locals := 0 } : Room) (va_Pc [.ref (ad 0), .int v1] (PR D cy (GX cy ad tk sp nm tp kp cu se ur ab lo im sy un en ra li i2))) (QR (some (.int q.1)) D (GX cy ad tk sp q.2 tp kp cu se ur ab lo im sy un en ra li i2) (Ac ad 89)) 0 0 (Ac ad 89) :=
  met_of (by decide) (Nat.le_of_ble_eq_true rfl) (fun p e s m below meth c ls C hP hK hN hl => bX11_end_0 C hI hK hN h hl hP va_S.rf)
def X11_poke (nm : Tnm) (tp : Ttp) (v1 : Int32) (v2 : Int32) : Option (Int32 × Ttp) := (if v1 < 0 then some ((0 : Int32), tp) else (if v1 < nm then (if v1 < (8000 : Int32) then (if inb v1 8000 = true then some ((1 : Int32), (upd tp (v1).toNatClampNeg (vp_nar .byte ((v2).toInt8.toInt32)))) else none) else some ((0 : Int32), tp)) else some ((0 : Int32), tp)))
set_option maxRecDepth 20000 in
theorem bX11_poke_0 (C : Cx p s m args meth c cX11_poke 3 (some .boolean) RX11 (.code yX11_poke cX11_poke 3 (some .boolean))) (hI : Apart ad 89) (hK : va_K D vwCl (tysX cy) s) (hN : NW s)  {q : Int32 × Ttp}  {v1 : Int32} {v2 : Int32} (h : X11_poke nm tp v1 v2 = some q) {ls : Array Slot} (hl : lv_has ls 3 [(0, .ref (ad 0)), (1, .int v1), (2, .int v2)]) {H : Heap} {locs : List Loc} (hP : va_P D vwCl (GX cy ad tk sp nm tp kp cu se ur ab lo im sy un en ra li i2) H) (hS : va_S (Ac ad 89) s.heap H locs) : W p l e ({ frames := 0, cells := 0, slots := 0, locals := 0 } : Room) s m args below meth c H locs 0 0 (MQ below (QR (some (.int q.1)) D (GX cy ad tk sp nm q.2 kp cu se ur ab lo im sy un en ra li i2) (Ac ad 89)) args s 0 0 (Ac ad 89)) (F0 m 0 ls []) := by
  obtain ⟨hx, hb, hml, hown, hts, hr, hlk⟩ := id C
  unfold X11_poke at h
  refine lv_iload_n hx hb dX11_poke_0 rfl (lv_at hl 1 rfl) ?_
  refine lv_if_lt (tgt := 21) hx hb dX11_poke_1 (by decide) (fun c1 => ?_) (fun c1 => ?_)
  · rw [if_pos c1] at h
    refine lv_iconst (v := (0 : Int32)) hx hb dX11_poke_21 (by decide) ?_
    obtain rfl := Option.some.inj h
    exact W.zret (ty := .boolean) hx hb hr (by decide) (fun t ht _ => ⟨rfl, by rw [ht]; exact hP, hS.F ht⟩) hS.2.2 dX11_poke_22 hlk
  · rw [if_neg c1] at h
    refine lv_iload_n hx hb dX11_poke_4 rfl (lv_at hl 1 rfl) ?_
    refine lv_aload_n hx hb dX11_poke_5 rfl (lv_at hl 0 rfl) ?_
    refine gX0_8 (v := nm) C hK hP rfl w480 dX11_poke_6 ?_
    refine b_icmp_ge (tgt := 21) hx hb dX11_poke_9 (by decide) (fun c2 => ?_) (fun c2 => ?_)
    · rw [if_neg c2] at h
      refine lv_iconst (v := (0 : Int32)) hx hb dX11_poke_21 (by decide) ?_
      obtain rfl := Option.some.inj h
      exact W.zret (ty := .boolean) hx hb hr (by decide) (fun t ht _ => ⟨rfl, by rw [ht]; exact hP, hS.F ht⟩) hS.2.2 dX11_poke_22 hlk
    · rw [if_pos c2] at h
      refine lv_iload_n hx hb dX11_poke_12 rfl (lv_at hl 1 rfl) ?_
      refine lv_aload_n hx hb dX11_poke_13 rfl (lv_at hl 0 rfl) ?_
      refine gX0_0 C hK hP w472 dX11_poke_14 ?_
      refine lX1 C hK hP dX11_poke_17 ?_
      refine lv_icmp_lt (tgt := 23) hx hb dX11_poke_18 (by decide) (fun c3 => ?_) (fun c3 => ?_)
      · rw [if_pos c3] at h
        refine lv_aload_n hx hb dX11_poke_23 rfl (lv_at hl 0 rfl) ?_
        refine gX0_0 C hK hP w472 dX11_poke_24 ?_
        refine lv_iload_n hx hb dX11_poke_27 rfl (lv_at hl 1 rfl) ?_
        refine lv_iload_n hx hb dX11_poke_28 rfl (lv_at hl 2 rfl) ?_
        refine lv_i2b (v := ((v2).toInt8.toInt32)) hx hb dX11_poke_29 rfl ?_
        obtain ⟨n4, h⟩ := grd h
        refine sX1 (f := tp) C hI hK hP hS rfl n4 dX11_poke_30 (fun H locs hP hS => ?_)
        have hP : va_P D vwCl (GX cy ad tk sp nm (upd tp (v1).toNatClampNeg (vp_nar .byte ((v2).toInt8.toInt32))) kp cu se ur ab lo im sy un en ra li i2) H := hP
        refine lv_iconst (v := (1 : Int32)) hx hb dX11_poke_31 (by decide) ?_
        obtain rfl := Option.some.inj h
        exact W.zret (ty := .boolean) hx hb hr (by decide) (fun t ht _ => ⟨rfl, by rw [ht]; exact hP, hS.F ht⟩) hS.2.2 dX11_poke_32 hlk
      · rw [if_neg c3] at h
        refine lv_iconst (v := (0 : Int32)) hx hb dX11_poke_21 (by decide) ?_
        obtain rfl := Option.some.inj h
        exact W.zret (ty := .boolean) hx hb hr (by decide) (fun t ht _ => ⟨rfl, by rw [ht]; exact hP, hS.F ht⟩) hS.2.2 dX11_poke_22 hlk
theorem kX11_poke (hI : Apart ad 89) {v1 : Int32} {v2 : Int32} {q : Int32 × Ttp} (h : X11_poke nm tp v1 v2 = some q) : Met l yX11_poke (.code yX11_poke cX11_poke 3 (some .boolean) :: WA) ({ frames := 0, cells := 0, slots := 0, locals := 0 } : Room) (va_Pc [.ref (ad 0), .int v1, .int v2] (PR D cy (GX cy ad tk sp nm tp kp cu se ur ab lo im sy un en ra li i2))) (QR (some (.int q.1)) D (GX cy ad tk sp nm q.2 kp cu se ur ab lo im sy un en ra li i2) (Ac ad 89)) 0 0 (Ac ad 89) :=
  met_of (by decide) (Nat.le_of_ble_eq_true rfl) (fun p e s m below meth c ls C hP hK hN hl => bX11_poke_0 C hI hK hN h hl hP va_S.rf)
end
