section
variable {t adK adV : Nat → Nat} {k : Nat}
variable {p : Program} {l : Launch} {e : Env} {s : State} {m : MethodId} {args : Array Value} {below : List Frame} {meth : Method} {c : Code} {D : va_G} {cy : Nat → ClassId} {ad : Nat → Nat}
variable {tk : Nat} {sp : Nat} {nm : Tnm} {tp : Ttp} {kp : Tkp} {cu : Tcu} {se : Tse} {ur : Tur} {ab : Tab} {lo : Tlo} {im : Tim} {sy : Tsy} {un : Tun} {en : Ten} {ra : Tra} {li : Tli} {i2 : Ti2}
def X9_readValue (tp : Ttp) (cu : Tcu) (se : Tse) (ur : Tur) (v1 : Int32) (v2 : Int64) : Option (Int64 × Tcu × Tur) := (if v1 = (1 : Int32) then ((X9_readAddress tp cu).bind fun q2 => some (q2.1, q2.2, ur)) else (if v1 = (5 : Int32) then ((X1_number tp cu (2 : Int32)).bind fun q5 => some (q5.1, q5.2, ur)) else (if v1 = (6 : Int32) then ((X1_number tp cu (4 : Int32)).bind fun q8 => some (q8.1, q8.2, ur)) else (if v1 = (7 : Int32) then ((X1_number tp cu (8 : Int32)).bind fun q11 => some (q11.1, q11.2, ur)) else (if v1 = (8 : Int32) then ((X1_text tp cu).bind fun q14 => some ((((X1_place cu)).toInt64), q14.2, (ur.1, ur.2.1, ur.2.2.1, ur.2.2.2.1, ur.2.2.2.2.1, (X1_place cu), q14.1))) else (if v1 = (11 : Int32) then ((X1_number tp cu (1 : Int32)).bind fun q17 => some (q17.1, q17.2, ur)) else (if v1 = (13 : Int32) then ((X1_sleb tp cu).bind fun q20 => some (q20.1, q20.2, ur)) else (if v1 = (14 : Int32) then ((X9_readToldText tp cu se ur).bind fun q23 => some (q23.1, q23.2.1, q23.2.2)) else (if v1 = (15 : Int32) then ((X1_uleb tp cu).bind fun q26 => some (q26.1, q26.2, ur)) else (if v1 = (19 : Int32) then ((X9_readReference tp cu ur).bind fun q29 => some (q29.1, q29.2.1, q29.2.2)) else (if v1 = (23 : Int32) then ((X1_number tp cu (4 : Int32)).bind fun q32 => some (q32.1, q32.2, ur)) else (if v1 = (24 : Int32) then ((X9_skipBytes tp cu).bind fun q35 => some (q35.1, q35.2, ur)) else (if v1 = (25 : Int32) then some ((1 : Int64), cu, ur) else some (v2, cu, ur))))))))))))))
set_option maxRecDepth 20000 in
theorem bX9_readValue_0 (C : Cx p s m args meth c cX9_readValue 4 (some .long) RX9 (.code yX9_readValue cX9_readValue 4 (some .long))) (hI : Apart ad 89) (hK : va_K D vwCl (tysX cy) s) (hN : NW s)  {q : Int64 × Tcu × Tur}  {v1 : Int32} {v2 : Int64} (h : X9_readValue tp cu se ur v1 v2 = some q) {ls : Array Slot} (hl : lv_has ls 4 [(0, .ref (ad 8)), (1, .int v1), (2, .long v2)]) {H : Heap} {locs : List Loc} (hP : va_P D vwCl (GX cy ad tk sp nm tp kp cu se ur ab lo im sy un en ra li i2) H) (hS : va_S (Ac ad 89) s.heap H locs) : W p l e ({ frames := 3, cells := 0, slots := 0, locals := 75 } : Room) s m args below meth c H locs 0 0 (MQ below (QR (some (.long q.1)) D (GX cy ad tk sp nm tp kp q.2.1 se q.2.2 ab lo im sy un en ra li i2) (Ac ad 89)) args s 0 0 (Ac ad 89)) (F0 m 0 ls []) := by
  obtain ⟨hx, hb, hml, hown, hts, hr, hlk⟩ := id C
  unfold X9_readValue at h
  refine lv_iload_n hx hb dX9_readValue_0 rfl (lv_at hl 1 rfl) ?_
  by_cases c1 : v1 = (1 : Int32)
  · rw [if_pos c1] at h
    rw [c1]
    refine lv_tableIn (off := 115) (tgt := 116) hx hb dX9_readValue_1 (by decide) (by decide) (by decide) (by decide) ?_
    refine lv_aload_n hx hb dX9_readValue_116 rfl (lv_at hl 0 rfl) ?_
    obtain ⟨q2, h3, h⟩ := bnd h
    refine cRl (run_V (rest := []) C (kX9_readAddress hI h3) caX9_readAddress w839 ⟨rfl, rfl, Nat.le_of_ble_eq_true rfl, Nat.le_of_ble_eq_true rfl⟩ hK hN hP (rX8 hK hP) rfl hl.1 rfl (Nat.le_of_ble_eq_true rfl) dX9_readValue_117 ⟨Nat.zero_le _, Nat.zero_le _⟩) hS (fun H locs hP hS => ?_)
    have hP : va_P D vwCl (GX cy ad tk sp nm tp kp q2.2 se ur ab lo im sy un en ra li i2) H := hP
    obtain rfl := Option.some.inj h
    exact W.lret hx hb hr (fun t ht _ => ⟨rfl, by rw [ht]; exact hP, hS.F ht⟩) hS.2.2 dX9_readValue_120 hlk
  rw [if_neg c1] at h
  by_cases c4 : v1 = (5 : Int32)
  · rw [if_pos c4] at h
    rw [c4]
    refine lv_tableIn (off := 129) (tgt := 130) hx hb dX9_readValue_1 (by decide) (by decide) (by decide) (by decide) ?_
    refine lv_aload_n hx hb dX9_readValue_130 rfl (lv_at hl 0 rfl) ?_
    refine gX8_0 C hK hP w213 dX9_readValue_131 ?_
    refine lv_iconst (v := (2 : Int32)) hx hb dX9_readValue_134 (by decide) ?_
    obtain ⟨q5, h6, h⟩ := bnd h
    refine cRl (run_V (rest := []) C (kX1_number hI h6) caX1_number w741 ⟨rfl, rfl, Nat.le_of_ble_eq_true rfl, Nat.le_of_ble_eq_true rfl⟩ hK hN hP (rX3 hK hP) rfl hl.1 rfl (Nat.le_of_ble_eq_true rfl) dX9_readValue_135 ⟨Nat.zero_le _, Nat.zero_le _⟩) hS (fun H locs hP hS => ?_)
    have hP : va_P D vwCl (GX cy ad tk sp nm tp kp q5.2 se ur ab lo im sy un en ra li i2) H := hP
    obtain rfl := Option.some.inj h
    exact W.lret hx hb hr (fun t ht _ => ⟨rfl, by rw [ht]; exact hP, hS.F ht⟩) hS.2.2 dX9_readValue_138 hlk
  rw [if_neg c4] at h
  by_cases c7 : v1 = (6 : Int32)
  · rw [if_pos c7] at h
    rw [c7]
    refine lv_tableIn (off := 138) (tgt := 139) hx hb dX9_readValue_1 (by decide) (by decide) (by decide) (by decide) ?_
    refine lv_aload_n hx hb dX9_readValue_139 rfl (lv_at hl 0 rfl) ?_
    refine gX8_0 C hK hP w213 dX9_readValue_140 ?_
    refine lv_iconst (v := (4 : Int32)) hx hb dX9_readValue_143 (by decide) ?_
    obtain ⟨q8, h9, h⟩ := bnd h
    refine cRl (run_V (rest := []) C (kX1_number hI h9) caX1_number w741 ⟨rfl, rfl, Nat.le_of_ble_eq_true rfl, Nat.le_of_ble_eq_true rfl⟩ hK hN hP (rX3 hK hP) rfl hl.1 rfl (Nat.le_of_ble_eq_true rfl) dX9_readValue_144 ⟨Nat.zero_le _, Nat.zero_le _⟩) hS (fun H locs hP hS => ?_)
    have hP : va_P D vwCl (GX cy ad tk sp nm tp kp q8.2 se ur ab lo im sy un en ra li i2) H := hP
    obtain rfl := Option.some.inj h
    exact W.lret hx hb hr (fun t ht _ => ⟨rfl, by rw [ht]; exact hP, hS.F ht⟩) hS.2.2 dX9_readValue_147 hlk
  rw [if_neg c7] at h
  by_cases c10 : v1 = (7 : Int32)
  · rw [if_pos c10] at h
    rw [c10]
    refine lv_tableIn (off := 147) (tgt := 148) hx hb dX9_readValue_1 (by decide) (by decide) (by decide) (by decide) ?_
    refine lv_aload_n hx hb dX9_readValue_148 rfl (lv_at hl 0 rfl) ?_
    refine gX8_0 C hK hP w213 dX9_readValue_149 ?_
    refine lv_bipush (v := (8 : Int32)) hx hb dX9_readValue_152 (by decide) ?_
    obtain ⟨q11, h12, h⟩ := bnd h
    refine cRl (run_V (rest := []) C (kX1_number hI h12) caX1_number w741 ⟨rfl, rfl, Nat.le_of_ble_eq_true rfl, Nat.le_of_ble_eq_true rfl⟩ hK hN hP (rX3 hK hP) rfl hl.1 rfl (Nat.le_of_ble_eq_true rfl) dX9_readValue_154 ⟨Nat.zero_le _, Nat.zero_le _⟩) hS (fun H locs hP hS => ?_)
    have hP : va_P D vwCl (GX cy ad tk sp nm tp kp q11.2 se ur ab lo im sy un en ra li i2) H := hP
    obtain rfl := Option.some.inj h
    exact W.lret hx hb hr (fun t ht _ => ⟨rfl, by rw [ht]; exact hP, hS.F ht⟩) hS.2.2 dX9_readValue_157 hlk
  rw [if_neg c10] at h
  by_cases c13 : v1 = (8 : Int32)
  · rw [if_pos c13] at h
    rw [c13]
    refine lv_tableIn (off := 173) (tgt := 174) hx hb dX9_readValue_1 (by decide) (by decide) (by decide) (by decide) ?_
    refine lv_aload_n hx hb dX9_readValue_174 rfl (lv_at hl 0 rfl) ?_
    refine lv_aload_n hx hb dX9_readValue_175 rfl (lv_at hl 0 rfl) ?_
    refine gX8_0 C hK hP w213 dX9_readValue_176 ?_
    refine cPi (run_V (rest := [.ref (ad 8)]) C (kX1_place rfl) caX1_place w737 ⟨rfl, rfl, Nat.le_of_ble_eq_true rfl, Nat.le_of_ble_eq_true rfl⟩ hK hN hP (rX3 hK hP) rfl hl.1 rfl (Nat.le_of_ble_eq_true rfl) dX9_readValue_179 ⟨Nat.zero_le _, Nat.zero_le _⟩) ?_
    refine pX8_8 (v := (X1_place cu)) C hI hK hP hS w221 dX9_readValue_182 (fun H locs hP hS => ?_)
    have hP : va_P D vwCl (GX cy ad tk sp nm tp kp cu se (ur.1, ur.2.1, ur.2.2.1, ur.2.2.2.1, ur.2.2.2.2.1, (X1_place cu), ur.2.2.2.2.2.2) ab lo im sy un en ra li i2) H := hP
    refine lv_aload_n hx hb dX9_readValue_185 rfl (lv_at hl 0 rfl) ?_
    refine lv_aload_n hx hb dX9_readValue_186 rfl (lv_at hl 0 rfl) ?_
    refine gX8_0 C hK hP w213 dX9_readValue_187 ?_
    obtain ⟨q14, h15, h⟩ := bnd h
    refine cRi (run_V (rest := [.ref (ad 8)]) C (kX1_text hI h15) caX1_text w844 ⟨rfl, rfl, Nat.le_of_ble_eq_true rfl, Nat.le_of_ble_eq_true rfl⟩ hK hN hP (rX3 hK hP) rfl hl.1 rfl (Nat.le_of_ble_eq_true rfl) dX9_readValue_190 ⟨Nat.zero_le _, Nat.zero_le _⟩) hS (fun H locs hP hS => ?_)
    have hP : va_P D vwCl (GX cy ad tk sp nm tp kp q14.2 se (ur.1, ur.2.1, ur.2.2.1, ur.2.2.2.1, ur.2.2.2.2.1, (X1_place cu), ur.2.2.2.2.2.2) ab lo im sy un en ra li i2) H := hP
    refine pX8_9 (v := q14.1) C hI hK hP hS w222 dX9_readValue_193 (fun H locs hP hS => ?_)
    have hP : va_P D vwCl (GX cy ad tk sp nm tp kp q14.2 se (ur.1, ur.2.1, ur.2.2.1, ur.2.2.2.1, ur.2.2.2.2.1, (X1_place cu), q14.1) ab lo im sy un en ra li i2) H := hP
    refine lv_aload_n hx hb dX9_readValue_196 rfl (lv_at hl 0 rfl) ?_
    refine gX8_8 (v := (X1_place cu)) C hK hP rfl w221 dX9_readValue_197 ?_
    refine lv_i2l (v := (((X1_place cu)).toInt64)) hx hb dX9_readValue_200 rfl ?_
    obtain rfl := Option.some.inj h
    exact W.lret hx hb hr (fun t ht _ => ⟨rfl, by rw [ht]; exact hP, hS.F ht⟩) hS.2.2 dX9_readValue_201 hlk
  rw [if_neg c13] at h
  by_cases c16 : v1 = (11 : Int32)
  · rw [if_pos c16] at h
    rw [c16]
    refine lv_tableIn (off := 120) (tgt := 121) hx hb dX9_readValue_1 (by decide) (by decide) (by decide) (by decide) ?_
    refine lv_aload_n hx hb dX9_readValue_121 rfl (lv_at hl 0 rfl) ?_
    refine gX8_0 C hK hP w213 dX9_readValue_122 ?_
    refine lv_iconst (v := (1 : Int32)) hx hb dX9_readValue_125 (by decide) ?_
    obtain ⟨q17, h18, h⟩ := bnd h
    refine cRl (run_V (rest := []) C (kX1_number hI h18) caX1_number w741 ⟨rfl, rfl, Nat.le_of_ble_eq_true rfl, Nat.le_of_ble_eq_true rfl⟩ hK hN hP (rX3 hK hP) rfl hl.1 rfl (Nat.le_of_ble_eq_true rfl) dX9_readValue_126 ⟨Nat.zero_le _, Nat.zero_le _⟩) hS (fun H locs hP hS => ?_)
    have hP : va_P D vwCl (GX cy ad tk sp nm tp kp q17.2 se ur ab lo im sy un en ra li i2) H := hP
    obtain rfl := Option.some.inj h
    exact W.lret hx hb hr (fun t ht _ => ⟨rfl, by rw [ht]; exact hP, hS.F ht⟩) hS.2.2 dX9_readValue_129 hlk
  rw [if_neg c16] at h
  by_cases c19 : v1 = (13 : Int32)
  · rw [if_pos c19] at h
    rw [c19]
    refine lv_tableIn (off := 165) (tgt := 166) hx hb dX9_readValue_1 (by decide) (by decide) (by decide) (by decide) ?_
    refine lv_aload_n hx hb dX9_readValue_166 rfl (lv_at hl 0 rfl) ?_
    refine gX8_0 C hK hP w213 dX9_readValue_167 ?_
    obtain ⟨q20, h21, h⟩ := bnd h
    refine cRl (run_V (rest := []) C (kX1_sleb hI h21) caX1_sleb w843 ⟨rfl, rfl, Nat.le_of_ble_eq_true rfl, Nat.le_of_ble_eq_true rfl⟩ hK hN hP (rX3 hK hP) rfl hl.1 rfl (Nat.le_of_ble_eq_true rfl) dX9_readValue_170 ⟨Nat.zero_le _, Nat.zero_le _⟩) hS (fun H locs hP hS => ?_)
    have hP : va_P D vwCl (GX cy ad tk sp nm tp kp q20.2 se ur ab lo im sy un en ra li i2) H := hP
    obtain rfl := Option.some.inj h
    exact W.lret hx hb hr (fun t ht _ => ⟨rfl, by rw [ht]; exact hP, hS.F ht⟩) hS.2.2 dX9_readValue_173 hlk
  rw [if_neg c19] at h
  by_cases c22 : v1 = (14 : Int32)
  · rw [if_pos c22] at h
    rw [c22]
    refine lv_tableIn (off := 201) (tgt := 202) hx hb dX9_readValue_1 (by decide) (by decide) (by decide) (by decide) ?_
    refine lv_aload_n hx hb dX9_readValue_202 rfl (lv_at hl 0 rfl) ?_
    obtain ⟨q23, h24, h⟩ := bnd h
    refine cRl (run_V (rest := []) C (kX9_readToldText hI h24) caX9_readToldText w848 ⟨rfl, rfl, Nat.le_of_ble_eq_true rfl, Nat.le_of_ble_eq_true rfl⟩ hK hN hP (rX8 hK hP) rfl hl.1 rfl (Nat.le_of_ble_eq_true rfl) dX9_readValue_203 ⟨Nat.zero_le _, Nat.zero_le _⟩) hS (fun H locs hP hS => ?_)
    have hP : va_P D vwCl (GX cy ad tk sp nm tp kp q23.2.1 se q23.2.2 ab lo im sy un en ra li i2) H := hP
    obtain rfl := Option.some.inj h
    exact W.lret hx hb hr (fun t ht _ => ⟨rfl, by rw [ht]; exact hP, hS.F ht⟩) hS.2.2 dX9_readValue_206 hlk
  rw [if_neg c22] at h
  by_cases c25 : v1 = (15 : Int32)
  · rw [if_pos c25] at h
    rw [c25]
    refine lv_tableIn (off := 157) (tgt := 158) hx hb dX9_readValue_1 (by decide) (by decide) (by decide) (by decide) ?_
    refine lv_aload_n hx hb dX9_readValue_158 rfl (lv_at hl 0 rfl) ?_
    refine gX8_0 C hK hP w213 dX9_readValue_159 ?_
    obtain ⟨q26, h27, h⟩ := bnd h
    refine cRl (run_V (rest := []) C (kX1_uleb hI h27) caX1_uleb w806 ⟨rfl, rfl, Nat.le_of_ble_eq_true rfl, Nat.le_of_ble_eq_true rfl⟩ hK hN hP (rX3 hK hP) rfl hl.1 rfl (Nat.le_of_ble_eq_true rfl) dX9_readValue_162 ⟨Nat.zero_le _, Nat.zero_le _⟩) hS (fun H locs hP hS => ?_)
    have hP : va_P D vwCl (GX cy ad tk sp nm tp kp q26.2 se ur ab lo im sy un en ra li i2) H := hP
    obtain rfl := Option.some.inj h
    exact W.lret hx hb hr (fun t ht _ => ⟨rfl, by rw [ht]; exact hP, hS.F ht⟩) hS.2.2 dX9_readValue_165 hlk
  rw [if_neg c25] at h
  by_cases c28 : v1 = (19 : Int32)
  · rw [if_pos c28] at h
    rw [c28]
    refine lv_tableIn (off := 206) (tgt := 207) hx hb dX9_readValue_1 (by decide) (by decide) (by decide) (by decide) ?_
    refine lv_aload_n hx hb dX9_readValue_207 rfl (lv_at hl 0 rfl) ?_
    obtain ⟨q29, h30, h⟩ := bnd h
    refine cRl (run_V (rest := []) C (kX9_readReference hI h30) caX9_readReference w853 ⟨rfl, rfl, Nat.le_of_ble_eq_true rfl, Nat.le_of_ble_eq_true rfl⟩ hK hN hP (rX8 hK hP) rfl hl.1 rfl (Nat.le_of_ble_eq_true rfl) dX9_readValue_208 ⟨Nat.zero_le _, Nat.zero_le _⟩) hS (fun H locs hP hS => ?_)
    have hP : va_P D vwCl (GX cy ad tk sp nm tp kp q29.2.1 se q29.2.2 ab lo im sy un en ra li i2) H := hP
    obtain rfl := Option.some.inj h
    exact W.lret hx hb hr (fun t ht _ => ⟨rfl, by rw [ht]; exact hP, hS.F ht⟩) hS.2.2 dX9_readValue_211 hlk
  rw [if_neg c28] at h
  by_cases c31 : v1 = (23 : Int32)
  · rw [if_pos c31] at h
    rw [c31]
    refine lv_tableIn (off := 138) (tgt := 139) hx hb dX9_readValue_1 (by decide) (by decide) (by decide) (by decide) ?_
    refine lv_aload_n hx hb dX9_readValue_139 rfl (lv_at hl 0 rfl) ?_
    refine gX8_0 C hK hP w213 dX9_readValue_140 ?_
    refine lv_iconst (v := (4 : Int32)) hx hb dX9_readValue_143 (by decide) ?_
    obtain ⟨q32, h33, h⟩ := bnd h
    refine cRl (run_V (rest := []) C (kX1_number hI h33) caX1_number w741 ⟨rfl, rfl, Nat.le_of_ble_eq_true rfl, Nat.le_of_ble_eq_true rfl⟩ hK hN hP (rX3 hK hP) rfl hl.1 rfl (Nat.le_of_ble_eq_true rfl) dX9_readValue_144 ⟨Nat.zero_le _, Nat.zero_le _⟩) hS (fun H locs hP hS => ?_)
    have hP : va_P D vwCl (GX cy ad tk sp nm tp kp q32.2 se ur ab lo im sy un en ra li i2) H := hP
    obtain rfl := Option.some.inj h
    exact W.lret hx hb hr (fun t ht _ => ⟨rfl, by rw [ht]; exact hP, hS.F ht⟩) hS.2.2 dX9_readValue_147 hlk
  rw [if_neg c31] at h
  by_cases c34 : v1 = (24 : Int32)
  · rw [if_pos c34] at h
    rw [c34]
    refine lv_tableIn (off := 211) (tgt := 212) hx hb dX9_readValue_1 (by decide) (by decide) (by decide) (by decide) ?_
    refine lv_aload_n hx hb dX9_readValue_212 rfl (lv_at hl 0 rfl) ?_
    obtain ⟨q35, h36, h⟩ := bnd h
    refine cRl (run_V (rest := []) C (kX9_skipBytes hI h36) caX9_skipBytes w858 ⟨rfl, rfl, Nat.le_of_ble_eq_true rfl, Nat.le_of_ble_eq_true rfl⟩ hK hN hP (rX8 hK hP) rfl hl.1 rfl (Nat.le_of_ble_eq_true rfl) dX9_readValue_213 ⟨Nat.zero_le _, Nat.zero_le _⟩) hS (fun H locs hP hS => ?_)
    have hP : va_P D vwCl (GX cy ad tk sp nm tp kp q35.2 se ur ab lo im sy un en ra li i2) H := hP
    obtain rfl := Option.some.inj h
    exact W.lret hx hb hr (fun t ht _ => ⟨rfl, by rw [ht]; exact hP, hS.F ht⟩) hS.2.2 dX9_readValue_216 hlk
  rw [if_neg c34] at h
  by_cases c37 : v1 = (25 : Int32)
  · rw [if_pos c37] at h
    rw [c37]
    refine lv_tableIn (off := 216) (tgt := 217) hx hb dX9_readValue_1 (by decide) (by decide) (by decide) (by decide) ?_
    refine lv_lconst (v := (1 : Int64)) hx hb dX9_readValue_217 (by decide) ?_
    obtain rfl := Option.some.inj h
    exact W.lret hx hb hr (fun t ht _ => ⟨rfl, by rw [ht]; exact hP, hS.F ht⟩) hS.2.2 dX9_readValue_218 hlk
  rw [if_neg c37] at h
  refine tsw_d (tgt := 219) hx hb dX9_readValue_1 [(1 : Int32), (5 : Int32), (6 : Int32), (7 : Int32), (8 : Int32), (11 : Int32), (13 : Int32), (14 : Int32), (15 : Int32), (19 : Int32), (23 : Int32), (24 : Int32), (25 : Int32)] (by simp only [List.mem_cons, List.not_mem_nil, or_false]; rintro _ (rfl | rfl | rfl | rfl | rfl | rfl | rfl | rfl | rfl | rfl | rfl | rfl | rfl) <;> assumption) (by decide +kernel) (by decide) ?_
  refine lv_lload_n hx hb dX9_readValue_219 rfl (lv_at hl 2 rfl) ?_
  obtain rfl := Option.some.inj h
  exact W.lret hx hb hr (fun t ht _ => ⟨rfl, by rw [ht]; exact hP, hS.F ht⟩) hS.2.2 dX9_readValue_220 hlk
theorem kX9_readValue (hI : Apart ad 89) {v1 : Int32} {v2 : Int64} {q : Int64 × Tcu × Tur} (h : X9_readValue tp cu se ur v1 v2 = some q) : Met l yX9_readValue (.code yX9_readValue cX9_readValue 4 (some .long) :: WA) ({ frames := 3, cells := 0, slots := 0, locals := 75 } : Room) (va_Pc [.ref (ad 8), .int v1, .long v2] (PR D cy (GX cy ad tk sp nm tp kp cu se ur ab lo im sy un en ra li i2))) (QR (some (.long q.1)) D (GX cy ad tk sp nm tp kp q.2.1 se q.2.2 ab lo im sy un en ra li i2) (Ac ad 89)) 0 0 (Ac ad 89) :=
  met_of (by decide) (Nat.le_of_ble_eq_true rfl) (fun p e s m below meth c ls C hP hK hN hl => bX9_readValue_0 C hI hK hN h hl hP va_S.rf)
def X9_readEntry_212 (tp : Ttp) (se : Tse) (ab : Tab) (k124 : Tcu → Tur → Ten → Int32 → Int32 → Int32 → Int32 → Option (Tcu × Tur × Ten)) (cu : Tcu) (ur : Tur) (en : Ten) (v6 : Int32) (v8 : Int32) (v9 : Int32) (v10 : Int32) : Option (Tcu × Tur × Ten) := k124 cu ur en v6 v8 v9 (v10 + (1 : Int32))
set_option maxRecDepth 20000 in
theorem bX9_readEntry_212 (C : Cx p s m args meth c cX9_readEntry 14 none RX9 (.code yX9_readEntry cX9_readEntry 14 none)) (hI : Apart ad 89) (hK : va_K D vwCl (tysX cy) s) (hN : NW s) {k124 : Tcu → Tur → Ten → Int32 → Int32 → Int32 → Int32 → Option (Tcu × Tur × Ten)} {q : Tcu × Tur × Ten} (hk124 : ∀ {cu : Tcu} {ur : Tur} {en : Ten} {v6 : Int32} {v8 : Int32} {v9 : Int32} {v10 : Int32}, k124 cu ur en v6 v8 v9 v10 = some q → ∀ {ls : Array Slot}, lv_has ls 14 [(0, .ref (ad 8)), (1, .ref (ad 34)), (6, .int v6), (8, .int v8), (9, .int v9), (10, .int v10)] → ∀ {H : Heap} {locs : List Loc}, va_P D vwCl (GX cy ad tk sp nm tp kp cu se ur ab lo im sy un en ra li i2) H → va_S (Ac ad 89) s.heap H locs → W p l e ({ frames := 4, cells := 0, slots := 0, locals := 102 } : Room) s m args below meth c H locs 0 0 (MQ below (QR none D (GX cy ad tk sp nm tp kp q.1 se q.2.1 ab lo im sy un q.2.2 ra li i2) (Ac ad 89)) args s 0 0 (Ac ad 89)) (F0 m 124 ls [])) {v6 : Int32} {v8 : Int32} {v9 : Int32} {v10 : Int32} (h : X9_readEntry_212 tp se ab k124 cu ur en v6 v8 v9 v10 = some q) {ls : Array Slot} (hl : lv_has ls 14 [(0, .ref (ad 8)), (1, .ref (ad 34)), (6, .int v6), (8, .int v8), (9, .int v9), (10, .int v10)]) {H : Heap} {locs : List Loc} (hP : va_P D vwCl (GX cy ad tk sp nm tp kp cu se ur ab lo im sy un en ra li i2) H) (hS : va_S (Ac ad 89) s.heap H locs) : W p l e ({ frames := 4, cells := 0, slots := 0, locals := 102 } : Room) s m args below meth c H locs 0 0 (MQ below (QR none D (GX cy ad tk sp nm tp kp q.1 se q.2.1 ab lo im sy un q.2.2 ra li i2) (Ac ad 89)) args s 0 0 (Ac ad 89)) (F0 m 212 ls []) := by
  obtain ⟨hx, hb, hml, hown, hts, hr, hlk⟩ := id C
  unfold X9_readEntry_212 at h
  refine lv_iinc (v := (v10 + (1 : Int32))) (lv' := [(10, .int (v10 + (1 : Int32))), (0, .ref (ad 8)), (1, .ref (ad 34)), (6, .int v6), (8, .int v8), (9, .int v9)]) hx hb dX9_readEntry_212 hl (k := 5) rfl rfl (by decide) rfl (fun ls hl => ?_)
  refine lv_goto (tgt := 124) hx hb dX9_readEntry_215 (by decide) ?_
  exact hk124 h (lv_sub hl [1, 2, 3, 4, 5, 0] rfl) hP hS
def X9_readEntry_218 (tp : Ttp) (se : Tse) (ab : Tab)  (cu : Tcu) (ur : Tur) (en : Ten) (v6 : Int32) (v8 : Int32) : Option (Tcu × Tur × Ten) := (if (X0_hasChildren ab v6) = 0 then some (cu, ur, en) else some (cu, ((put_i 24 ur.1 ur.2.1 v8), (ur.2.1 + (1 : Int32)), ur.2.2.1, ur.2.2.2.1, ur.2.2.2.2.1, ur.2.2.2.2.2.1, ur.2.2.2.2.2.2), en))
set_option maxRecDepth 20000 in
theorem bX9_readEntry_218 (C : Cx p s m args meth c cX9_readEntry 14 none RX9 (.code yX9_readEntry cX9_readEntry 14 none)) (hI : Apart ad 89) (hK : va_K D vwCl (tysX cy) s) (hN : NW s)  {q : Tcu × Tur × Ten}  {v6 : Int32} {v8 : Int32} (h : X9_readEntry_218 tp se ab cu ur en v6 v8 = some q) {ls : Array Slot} (hl : lv_has ls 14 [(0, .ref (ad 8)), (6, .int v6), (8, .int v8)]) {H : Heap} {locs : List Loc} (hP : va_P D vwCl (GX cy ad tk sp nm tp kp cu se ur ab lo im sy un en ra li i2) H) (hS : va_S (Ac ad 89) s.heap H locs) : W p l e ({ frames := 4, cells := 0, slots := 0, locals := 102 } : Room) s m args below meth c H locs 0 0 (MQ below (QR none D (GX cy ad tk sp nm tp kp q.1 se q.2.1 ab lo im sy un q.2.2 ra li i2) (Ac ad 89)) args s 0 0 (Ac ad 89)) (F0 m 218 ls []) := by
  obtain ⟨hx, hb, hml, hown, hts, hr, hlk⟩ := id C
  unfold X9_readEntry_218 at h
  refine lv_aload_n hx hb dX9_readEntry_218 rfl (lv_at hl 0 rfl) ?_
  refine gX8_2 C hK hP w215 dX9_readEntry_219 ?_
  refine lv_iload hx hb dX9_readEntry_222 (lv_at hl 1 rfl) ?_
  refine cPi (run_V (rest := []) C (kX0_hasChildren rfl) caX0_hasChildren w908 ⟨rfl, rfl, Nat.le_of_ble_eq_true rfl, Nat.le_of_ble_eq_true rfl⟩ hK hN hP (rX11 hK hP) rfl hl.1 rfl (Nat.le_of_ble_eq_true rfl) dX9_readEntry_224 ⟨Nat.zero_le _, Nat.zero_le _⟩) ?_
  refine lv_if_eq (tgt := 253) hx hb dX9_readEntry_227 (by decide) (fun c1 => ?_) (fun c1 => ?_)
  · rw [if_pos c1] at h
    obtain rfl := Option.some.inj h
    exact W.vret hx hb hr (fun t ht _ => ⟨rfl, by rw [ht]; exact hP, hS.F ht⟩) hS.2.2 dX9_readEntry_253 hlk
  · rw [if_neg c1] at h
    refine lv_aload_n hx hb dX9_readEntry_230 rfl (lv_at hl 0 rfl) ?_
    refine gX8_3 C hK hP w216 dX9_readEntry_231 ?_
    refine lv_aload_n hx hb dX9_readEntry_234 rfl (lv_at hl 0 rfl) ?_
    refine gX8_4 (v := ur.2.1) C hK hP rfl w217 dX9_readEntry_235 ?_
    refine lv_iload hx hb dX9_readEntry_238 (lv_at hl 2 rfl) ?_
    refine xput_i (rest := []) C hK hN hP (GX_D hI) hS eX9 (Nat.le_of_ble_eq_true rfl) w857 hl.1 (Nat.le_of_ble_eq_true rfl) dX9_readEntry_240 ⟨Nat.le_of_ble_eq_true rfl, Nat.le_of_ble_eq_true rfl⟩ ⟨Nat.zero_le _, Nat.zero_le _⟩ (fun H locs hP hS => ?_)
    have hP : va_P D vwCl (GX cy ad tk sp nm tp kp cu se ((put_i 24 ur.1 ur.2.1 v8), ur.2.1, ur.2.2.1, ur.2.2.2.1, ur.2.2.2.2.1, ur.2.2.2.2.2.1, ur.2.2.2.2.2.2) ab lo im sy un en ra li i2) H := hP
    refine lv_aload_n hx hb dX9_readEntry_243 rfl (lv_at hl 0 rfl) ?_
    refine lv_dup hx hb dX9_readEntry_244 rfl ?_
    refine gX8_4 (v := ur.2.1) C hK hP rfl w217 dX9_readEntry_245 ?_
    refine lv_iconst (v := (1 : Int32)) hx hb dX9_readEntry_248 (by decide) ?_
    refine lv_iadd hx hb dX9_readEntry_249 ?_
    refine pX8_4 (v := (ur.2.1 + (1 : Int32))) C hI hK hP hS w217 dX9_readEntry_250 (fun H locs hP hS => ?_)
    have hP : va_P D vwCl (GX cy ad tk sp nm tp kp cu se ((put_i 24 ur.1 ur.2.1 v8), (ur.2.1 + (1 : Int32)), ur.2.2.1, ur.2.2.2.1, ur.2.2.2.2.1, ur.2.2.2.2.2.1, ur.2.2.2.2.2.2) ab lo im sy un en ra li i2) H := hP
    obtain rfl := Option.some.inj h
    exact W.vret hx hb hr (fun t ht _ => ⟨rfl, by rw [ht]; exact hP, hS.F ht⟩) hS.2.2 dX9_readEntry_253 hlk
def X9_readEntry_124b (tp : Ttp) (se : Tse) (ab : Tab)  (k124 : Tcu → Tur → Ten → Int32 → Int32 → Int32 → Int32 → Option (Tcu × Tur × Ten)) (cu : Tcu) (ur : Tur) (en : Ten) (v6 : Int32) (v8 : Int32) (v9 : Int32) (v10 : Int32) : Option (Tcu × Tur × Ten) := (if v10 < (16 : Int32) then (if v10 < v9 then (if (X1_sound cu) = 0 then X9_readEntry_218 tp se ab cu ur en v6 v8 else ((X9_readValue tp cu se ur (X0_formOf ab v6 v10) (X0_valueOf ab v6 v10)).bind fun q4 => (if (X1_sound q4.2.1) = 0 then X9_readEntry_212 tp se ab k124 q4.2.1 q4.2.2 en v6 v8 v9 v10 else (letq (X9_keepValue q4.2.2 en v8 (X0_attributeOf ab v6 v10) (X0_formOf ab v6 v10) q4.1) fun q7 => X9_readEntry_212 tp se ab k124 q4.2.1 q4.2.2 q7 v6 v8 v9 v10)))) else X9_readEntry_218 tp se ab cu ur en v6 v8) else X9_readEntry_218 tp se ab cu ur en v6 v8)
def X9_readEntry_124 (tp : Ttp) (se : Tse) (ab : Tab)  (n : Nat) (st : Tcu × Tur × Ten × Int32 × Int32 × Int32 × Int32) : Option (Tcu × Tur × Ten) := lp (fun rec st => X9_readEntry_124b tp se ab  (fun a0 a1 a2 a3 a4 a5 a6 => rec (a0, a1, a2, a3, a4, a5, a6)) st.1 st.2.1 st.2.2.1 st.2.2.2.1 st.2.2.2.2.1 st.2.2.2.2.2.1 st.2.2.2.2.2.2) n st
set_option maxRecDepth 20000 in
theorem bX9_readEntry_124 (C : Cx p s m args meth c cX9_readEntry 14 none RX9 (.code yX9_readEntry cX9_readEntry 14 none)) (hI : Apart ad 89) (hK : va_K D vwCl (tysX cy) s) (hN : NW s)  {q : Tcu × Tur × Ten}  : ∀ (n : Nat) {cu : Tcu} {ur : Tur} {en : Ten} {v6 : Int32} {v8 : Int32} {v9 : Int32} {v10 : Int32}, X9_readEntry_124 tp se ab  n (cu, ur, en, v6, v8, v9, v10) = some q → ∀ {ls : Array Slot}, lv_has ls 14 [(0, .ref (ad 8)), (1, .ref (ad 34)), (6, .int v6), (8, .int v8), (9, .int v9), (10, .int v10)] → ∀ {H : Heap} {locs : List Loc}, va_P D vwCl (GX cy ad tk sp nm tp kp cu se ur ab lo im sy un en ra li i2) H → va_S (Ac ad 89) s.heap H locs → W p l e ({ frames := 4, cells := 0, slots := 0, locals := 102 } : Room) s m args below meth c H locs 0 0 (MQ below (QR none D (GX cy ad tk sp nm tp kp q.1 se q.2.1 ab lo im sy un q.2.2 ra li i2) (Ac ad 89)) args s 0 0 (Ac ad 89)) (F0 m 124 ls []) := by
  obtain ⟨hx, hb, hml, hown, hts, hr, hlk⟩ := id C
  intro n
  induction n with
  | zero =>
    intro cu ur en v6 v8 v9 v10 h ls hl H locs hP hS
    have h : (none : Option (Tcu × Tur × Ten)) = some q := h
    cases h
  | succ n ih =>
    intro cu ur en v6 v8 v9 v10 h ls hl H locs hP hS
    have h : X9_readEntry_124b tp se ab  (fun a0 a1 a2 a3 a4 a5 a6 => X9_readEntry_124 tp se ab  n (a0, a1, a2, a3, a4, a5, a6)) cu ur en v6 v8 v9 v10 = some q := h
    unfold X9_readEntry_124b at h
    refine lv_iload hx hb dX9_readEntry_124 (lv_at hl 5 rfl) ?_
    refine lv_bipush (v := (16 : Int32)) hx hb dX9_readEntry_126 (by decide) ?_
    refine b_icmp_ge (tgt := 218) hx hb dX9_readEntry_128 (by decide) (fun c1 => ?_) (fun c1 => ?_)
    · rw [if_neg c1] at h
      exact bX9_readEntry_218 C hI hK hN h (lv_sub hl [0, 2, 3] rfl) hP hS
    · rw [if_pos c1] at h
      refine lv_iload hx hb dX9_readEntry_131 (lv_at hl 5 rfl) ?_
      refine lv_iload hx hb dX9_readEntry_133 (lv_at hl 4 rfl) ?_
      refine b_icmp_ge (tgt := 218) hx hb dX9_readEntry_135 (by decide) (fun c2 => ?_) (fun c2 => ?_)
      · rw [if_neg c2] at h
        exact bX9_readEntry_218 C hI hK hN h (lv_sub hl [0, 2, 3] rfl) hP hS
      · rw [if_pos c2] at h
        refine lv_aload_n hx hb dX9_readEntry_138 rfl (lv_at hl 0 rfl) ?_
        refine gX8_0 C hK hP w213 dX9_readEntry_139 ?_
        refine cPi (run_V (rest := []) C (kX1_sound rfl) caX1_sound w707 ⟨rfl, rfl, Nat.le_of_ble_eq_true rfl, Nat.le_of_ble_eq_true rfl⟩ hK hN hP (rX3 hK hP) rfl hl.1 rfl (Nat.le_of_ble_eq_true rfl) dX9_readEntry_142 ⟨Nat.zero_le _, Nat.zero_le _⟩) ?_
        refine lv_if_eq (tgt := 218) hx hb dX9_readEntry_145 (by decide) (fun c3 => ?_) (fun c3 => ?_)
        · rw [if_pos c3] at h
          exact bX9_readEntry_218 C hI hK hN h (lv_sub hl [0, 2, 3] rfl) hP hS
        · rw [if_neg c3] at h
          refine lv_aload_n hx hb dX9_readEntry_148 rfl (lv_at hl 0 rfl) ?_
          refine gX8_2 C hK hP w215 dX9_readEntry_149 ?_
          refine lv_iload hx hb dX9_readEntry_152 (lv_at hl 2 rfl) ?_
          refine lv_iload hx hb dX9_readEntry_154 (lv_at hl 5 rfl) ?_
          refine cPi (run_V (rest := []) C (kX0_formOf rfl) caX0_formOf w827 ⟨rfl, rfl, Nat.le_of_ble_eq_true rfl, Nat.le_of_ble_eq_true rfl⟩ hK hN hP (rX11 hK hP) rfl hl.1 rfl (Nat.le_of_ble_eq_true rfl) dX9_readEntry_156 ⟨Nat.zero_le _, Nat.zero_le _⟩) ?_
          refine lv_istore (lv' := [(11, .int (X0_formOf ab v6 v10)), (0, .ref (ad 8)), (1, .ref (ad 34)), (6, .int v6), (8, .int v8), (9, .int v9), (10, .int v10)]) hx hb dX9_readEntry_159 hl (by decide) rfl (fun ls hl => ?_)
          refine lv_aload_n hx hb dX9_readEntry_161 rfl (lv_at hl 1 rfl) ?_
          refine lv_iload hx hb dX9_readEntry_162 (lv_at hl 0 rfl) ?_
          refine lv_aload_n hx hb dX9_readEntry_164 rfl (lv_at hl 1 rfl) ?_
          refine gX8_2 C hK hP w215 dX9_readEntry_165 ?_
          refine lv_iload hx hb dX9_readEntry_168 (lv_at hl 3 rfl) ?_
          refine lv_iload hx hb dX9_readEntry_170 (lv_at hl 6 rfl) ?_
          refine cPl (run_V (rest := [.int (X0_formOf ab v6 v10), .ref (ad 8)]) C (kX0_valueOf rfl) caX0_valueOf w831 ⟨rfl, rfl, Nat.le_of_ble_eq_true rfl, Nat.le_of_ble_eq_true rfl⟩ hK hN hP (rX11 hK hP) rfl hl.1 rfl (Nat.le_of_ble_eq_true rfl) dX9_readEntry_172 ⟨Nat.zero_le _, Nat.zero_le _⟩) ?_
          obtain ⟨q4, h5, h⟩ := bnd h
          refine cRl (run_V (rest := []) C (kX9_readValue hI h5) caX9_readValue w835 ⟨rfl, rfl, Nat.le_of_ble_eq_true rfl, Nat.le_of_ble_eq_true rfl⟩ hK hN hP (rX8 hK hP) rfl hl.1 rfl (Nat.le_of_ble_eq_true rfl) dX9_readEntry_175 ⟨Nat.zero_le _, Nat.zero_le _⟩) hS (fun H locs hP hS => ?_)
          have hP : va_P D vwCl (GX cy ad tk sp nm tp kp q4.2.1 se q4.2.2 ab lo im sy un en ra li i2) H := hP
          refine lv_lstore (lv' := [(12, .long q4.1), (11, .int (X0_formOf ab v6 v10)), (0, .ref (ad 8)), (1, .ref (ad 34)), (6, .int v6), (8, .int v8), (9, .int v9), (10, .int v10)]) hx hb dX9_readEntry_178 hl (by decide) rfl (fun ls hl => ?_)
          refine lv_aload_n hx hb dX9_readEntry_180 rfl (lv_at hl 2 rfl) ?_
          refine gX8_0 C hK hP w213 dX9_readEntry_181 ?_
          refine cPi (run_V (rest := []) C (kX1_sound rfl) caX1_sound w707 ⟨rfl, rfl, Nat.le_of_ble_eq_true rfl, Nat.le_of_ble_eq_true rfl⟩ hK hN hP (rX3 hK hP) rfl hl.1 rfl (Nat.le_of_ble_eq_true rfl) dX9_readEntry_184 ⟨Nat.zero_le _, Nat.zero_le _⟩) ?_
          refine lv_if_eq (tgt := 212) hx hb dX9_readEntry_187 (by decide) (fun c6 => ?_) (fun c6 => ?_)
          · rw [if_pos c6] at h
            exact bX9_readEntry_212 C hI hK hN @ih h (lv_sub hl [2, 3, 4, 5, 6, 7] rfl) hP hS
          · rw [if_neg c6] at h
            refine lv_aload_n hx hb dX9_readEntry_190 rfl (lv_at hl 2 rfl) ?_
            refine lv_aload_n hx hb dX9_readEntry_191 rfl (lv_at hl 3 rfl) ?_
            refine lv_iload hx hb dX9_readEntry_192 (lv_at hl 5 rfl) ?_
            refine lv_aload_n hx hb dX9_readEntry_194 rfl (lv_at hl 2 rfl) ?_
            refine gX8_2 C hK hP w215 dX9_readEntry_195 ?_
            refine lv_iload hx hb dX9_readEntry_198 (lv_at hl 4 rfl) ?_
            refine lv_iload hx hb dX9_readEntry_200 (lv_at hl 7 rfl) ?_
            refine cPl (run_V (rest := [.int v8, .ref (ad 34), .ref (ad 8)]) C (kX0_attributeOf rfl) caX0_attributeOf w863 ⟨rfl, rfl, Nat.le_of_ble_eq_true rfl, Nat.le_of_ble_eq_true rfl⟩ hK hN hP (rX11 hK hP) rfl hl.1 rfl (Nat.le_of_ble_eq_true rfl) dX9_readEntry_202 ⟨Nat.zero_le _, Nat.zero_le _⟩) ?_
            refine lv_iload hx hb dX9_readEntry_205 (lv_at hl 1 rfl) ?_
            refine lv_lload hx hb dX9_readEntry_207 (lv_at hl 0 rfl) ?_
            obtain ⟨q7, h8, h⟩ := lets h
            refine cRv (run_V (rest := []) C (kX9_keepValue hI h8) caX9_keepValue w867 ⟨rfl, rfl, Nat.le_of_ble_eq_true rfl, Nat.le_of_ble_eq_true rfl⟩ hK hN hP (rX8 hK hP) rfl hl.1 rfl (Nat.le_of_ble_eq_true rfl) dX9_readEntry_209 ⟨Nat.zero_le _, Nat.zero_le _⟩) hS (fun H locs hP hS => ?_)
            have hP : va_P D vwCl (GX cy ad tk sp nm tp kp q4.2.1 se q4.2.2 ab lo im sy un q7 ra li i2) H := hP
            exact bX9_readEntry_212 C hI hK hN @ih h (lv_sub hl [2, 3, 4, 5, 6, 7] rfl) hP hS
def X9_readEntry_89 (tp : Ttp) (se : Tse) (ab : Tab)  (cu : Tcu) (ur : Tur) (en : Ten) (v2 : Int32) (v3 : Int32) (v6 : Int32) (z0 : Int32) : Option (Tcu × Tur × Ten) := (letq (X2_add en (X0_tagOf ab v6) z0 v2 v3) fun q1 => X9_readEntry_124 tp se ab FU (cu, ur, q1.2, v6, q1.1, (X0_pairTotalOf ab v6), (0 : Int32)))
set_option maxRecDepth 20000 in
theorem bX9_readEntry_89 (C : Cx p s m args meth c cX9_readEntry 14 none RX9 (.code yX9_readEntry cX9_readEntry 14 none)) (hI : Apart ad 89) (hK : va_K D vwCl (tysX cy) s) (hN : NW s)  {q : Tcu × Tur × Ten}  {v2 : Int32} {v3 : Int32} {v6 : Int32} {z0 : Int32} (h : X9_readEntry_89 tp se ab cu ur en v2 v3 v6 z0 = some q) {ls : Array Slot} (hl : lv_has ls 14 [(0, .ref (ad 8)), (1, .ref (ad 34)), (2, .int v2), (3, .int v3), (6, .int v6)]) {H : Heap} {locs : List Loc} (hP : va_P D vwCl (GX cy ad tk sp nm tp kp cu se ur ab lo im sy un en ra li i2) H) (hS : va_S (Ac ad 89) s.heap H locs) : W p l e ({ frames := 4, cells := 0, slots := 0, locals := 102 } : Room) s m args below meth c H locs 0 0 (MQ below (QR none D (GX cy ad tk sp nm tp kp q.1 se q.2.1 ab lo im sy un q.2.2 ra li i2) (Ac ad 89)) args s 0 0 (Ac ad 89)) (F0 m 89 ls [.int z0]) := by
  obtain ⟨hx, hb, hml, hown, hts, hr, hlk⟩ := id C
  unfold X9_readEntry_89 at h
  refine lv_istore (lv' := [(7, .int z0), (0, .ref (ad 8)), (1, .ref (ad 34)), (2, .int v2), (3, .int v3), (6, .int v6)]) hx hb dX9_readEntry_89 hl (by decide) rfl (fun ls hl => ?_)
  refine lv_aload_n hx hb dX9_readEntry_91 rfl (lv_at hl 2 rfl) ?_
  refine lv_aload_n hx hb dX9_readEntry_92 rfl (lv_at hl 1 rfl) ?_
  refine gX8_2 C hK hP w215 dX9_readEntry_93 ?_
  refine lv_iload hx hb dX9_readEntry_96 (lv_at hl 5 rfl) ?_
  refine cPl (run_V (rest := [.ref (ad 34)]) C (kX0_tagOf rfl) caX0_tagOf w813 ⟨rfl, rfl, Nat.le_of_ble_eq_true rfl, Nat.le_of_ble_eq_true rfl⟩ hK hN hP (rX11 hK hP) rfl hl.1 rfl (Nat.le_of_ble_eq_true rfl) dX9_readEntry_98 ⟨Nat.zero_le _, Nat.zero_le _⟩) ?_
  refine lv_iload hx hb dX9_readEntry_101 (lv_at hl 0 rfl) ?_
  refine lv_iload_n hx hb dX9_readEntry_103 rfl (lv_at hl 3 rfl) ?_
  refine lv_iload_n hx hb dX9_readEntry_104 rfl (lv_at hl 4 rfl) ?_
  obtain ⟨q1, h2, h⟩ := lets h
  refine cRi (run_V (rest := []) C (kX2_add hI h2) caX2_add w817 ⟨rfl, rfl, Nat.le_of_ble_eq_true rfl, Nat.le_of_ble_eq_true rfl⟩ hK hN hP (rX34 hK hP) rfl hl.1 rfl (Nat.le_of_ble_eq_true rfl) dX9_readEntry_105 ⟨Nat.zero_le _, Nat.zero_le _⟩) hS (fun H locs hP hS => ?_)
  have hP : va_P D vwCl (GX cy ad tk sp nm tp kp cu se ur ab lo im sy un q1.2 ra li i2) H := hP
  refine lv_istore (lv' := [(8, .int q1.1), (7, .int z0), (0, .ref (ad 8)), (1, .ref (ad 34)), (2, .int v2), (3, .int v3), (6, .int v6)]) hx hb dX9_readEntry_108 hl (by decide) rfl (fun ls hl => ?_)
  refine lv_aload_n hx hb dX9_readEntry_110 rfl (lv_at hl 2 rfl) ?_
  refine gX8_2 C hK hP w215 dX9_readEntry_111 ?_
  refine lv_iload hx hb dX9_readEntry_114 (lv_at hl 6 rfl) ?_
  refine cPi (run_V (rest := []) C (kX0_pairTotalOf rfl) caX0_pairTotalOf w823 ⟨rfl, rfl, Nat.le_of_ble_eq_true rfl, Nat.le_of_ble_eq_true rfl⟩ hK hN hP (rX11 hK hP) rfl hl.1 rfl (Nat.le_of_ble_eq_true rfl) dX9_readEntry_116 ⟨Nat.zero_le _, Nat.zero_le _⟩) ?_
  refine lv_istore (lv' := [(9, .int (X0_pairTotalOf ab v6)), (8, .int q1.1), (7, .int z0), (0, .ref (ad 8)), (1, .ref (ad 34)), (2, .int v2), (3, .int v3), (6, .int v6)]) hx hb dX9_readEntry_119 hl (by decide) rfl (fun ls hl => ?_)
  refine lv_iconst (v := (0 : Int32)) hx hb dX9_readEntry_121 (by decide) ?_
  refine lv_istore (lv' := [(10, .int (0 : Int32)), (9, .int (X0_pairTotalOf ab v6)), (8, .int q1.1), (7, .int z0), (0, .ref (ad 8)), (1, .ref (ad 34)), (2, .int v2), (3, .int v3), (6, .int v6)]) hx hb dX9_readEntry_122 hl (by decide) rfl (fun ls hl => ?_)
  exact bX9_readEntry_124 C hI hK hN FU h (lv_sub hl [4, 5, 8, 2, 1, 0] rfl) hP hS
def X9_readEntry_54 (tp : Ttp) (se : Tse) (ab : Tab)  (cu : Tcu) (ur : Tur) (en : Ten) (v2 : Int32) (v3 : Int32) (v6 : Int32) : Option (Tcu × Tur × Ten) := (if (X1_sound cu) = 0 then some (cu, ur, en) else (if 0 < ur.2.1 then X9_readEntry_89 tp se ab cu ur en v2 v3 v6 (at_i 24 ur.1 (ur.2.1 - (1 : Int32))) else X9_readEntry_89 tp se ab cu ur en v2 v3 v6 (-1 : Int32)))
set_option maxRecDepth 20000 in
theorem bX9_readEntry_54 (C : Cx p s m args meth c cX9_readEntry 14 none RX9 (.code yX9_readEntry cX9_readEntry 14 none)) (hI : Apart ad 89) (hK : va_K D vwCl (tysX cy) s) (hN : NW s)  {q : Tcu × Tur × Ten}  {v2 : Int32} {v3 : Int32} {v6 : Int32} (h : X9_readEntry_54 tp se ab cu ur en v2 v3 v6 = some q) {ls : Array Slot} (hl : lv_has ls 14 [(0, .ref (ad 8)), (1, .ref (ad 34)), (2, .int v2), (3, .int v3), (6, .int v6)]) {H : Heap} {locs : List Loc} (hP : va_P D vwCl (GX cy ad tk sp nm tp kp cu se ur ab lo im sy un en ra li i2) H) (hS : va_S (Ac ad 89) s.heap H locs) : W p l e ({ frames := 4, cells := 0, slots := 0, locals := 102 } : Room) s m args below meth c H locs 0 0 (MQ below (QR none D (GX cy ad tk sp nm tp kp q.1 se q.2.1 ab lo im sy un q.2.2 ra li i2) (Ac ad 89)) args s 0 0 (Ac ad 89)) (F0 m 54 ls []) := by
  obtain ⟨hx, hb, hml, hown, hts, hr, hlk⟩ := id C
  unfold X9_readEntry_54 at h
  refine lv_aload_n hx hb dX9_readEntry_54 rfl (lv_at hl 0 rfl) ?_
  refine gX8_0 C hK hP w213 dX9_readEntry_55 ?_
  refine cPi (run_V (rest := []) C (kX1_sound rfl) caX1_sound w707 ⟨rfl, rfl, Nat.le_of_ble_eq_true rfl, Nat.le_of_ble_eq_true rfl⟩ hK hN hP (rX3 hK hP) rfl hl.1 rfl (Nat.le_of_ble_eq_true rfl) dX9_readEntry_58 ⟨Nat.zero_le _, Nat.zero_le _⟩) ?_
  refine lv_if_ne (tgt := 65) hx hb dX9_readEntry_61 (by decide) (fun c1 => ?_) (fun c1 => ?_)
  · rw [if_neg c1] at h
    refine lv_aload_n hx hb dX9_readEntry_65 rfl (lv_at hl 0 rfl) ?_
    refine gX8_4 (v := ur.2.1) C hK hP rfl w217 dX9_readEntry_66 ?_
    refine b_if_le (tgt := 88) hx hb dX9_readEntry_69 (by decide) (fun c2 => ?_) (fun c2 => ?_)
    · rw [if_neg c2] at h
      refine lv_iconst (v := (-1 : Int32)) hx hb dX9_readEntry_88 (by decide) ?_
      exact bX9_readEntry_89 C hI hK hN h (lv_sub hl [0, 1, 2, 3, 4] rfl) hP hS
    · rw [if_pos c2] at h
      refine lv_aload_n hx hb dX9_readEntry_72 rfl (lv_at hl 0 rfl) ?_
      refine gX8_3 C hK hP w216 dX9_readEntry_73 ?_
      refine lv_aload_n hx hb dX9_readEntry_76 rfl (lv_at hl 0 rfl) ?_
      refine gX8_4 (v := ur.2.1) C hK hP rfl w217 dX9_readEntry_77 ?_
      refine lv_iconst (v := (1 : Int32)) hx hb dX9_readEntry_80 (by decide) ?_
      refine lv_isub hx hb dX9_readEntry_81 ?_
      refine xat_i (rest := []) C hK hN hP eX9 (Nat.le_of_ble_eq_true rfl) w812 hl.1 (Nat.le_of_ble_eq_true rfl) dX9_readEntry_82 ⟨Nat.le_of_ble_eq_true rfl, Nat.le_of_ble_eq_true rfl⟩ ⟨Nat.zero_le _, Nat.zero_le _⟩ ?_
      refine lv_goto (tgt := 89) hx hb dX9_readEntry_85 (by decide) ?_
      exact bX9_readEntry_89 C hI hK hN h (lv_sub hl [0, 1, 2, 3, 4] rfl) hP hS
  · rw [if_pos c1] at h
    obtain rfl := Option.some.inj h
    exact W.vret hx hb hr (fun t ht _ => ⟨rfl, by rw [ht]; exact hP, hS.F ht⟩) hS.2.2 dX9_readEntry_64 hlk
def X9_readEntry_45 (tp : Ttp) (se : Tse) (ab : Tab)  (cu : Tcu) (ur : Tur) (en : Ten) (v2 : Int32) (v3 : Int32) (v6 : Int32) : Option (Tcu × Tur × Ten) := (letq (X1_refuse cu (4 : Int32) v3) fun q1 => X9_readEntry_54 tp se ab q1 ur en v2 v3 v6)
set_option maxRecDepth 20000 in
theorem bX9_readEntry_45 (C : Cx p s m args meth c cX9_readEntry 14 none RX9 (.code yX9_readEntry cX9_readEntry 14 none)) (hI : Apart ad 89) (hK : va_K D vwCl (tysX cy) s) (hN : NW s)  {q : Tcu × Tur × Ten}  {v2 : Int32} {v3 : Int32} {v6 : Int32} (h : X9_readEntry_45 tp se ab cu ur en v2 v3 v6 = some q) {ls : Array Slot} (hl : lv_has ls 14 [(0, .ref (ad 8)), (1, .ref (ad 34)), (2, .int v2), (3, .int v3), (6, .int v6)]) {H : Heap} {locs : List Loc} (hP : va_P D vwCl (GX cy ad tk sp nm tp kp cu se ur ab lo im sy un en ra li i2) H) (hS : va_S (Ac ad 89) s.heap H locs) : W p l e ({ frames := 4, cells := 0, slots := 0, locals := 102 } : Room) s m args below meth c H locs 0 0 (MQ below (QR none D (GX cy ad tk sp nm tp kp q.1 se q.2.1 ab lo im sy un q.2.2 ra li i2) (Ac ad 89)) args s 0 0 (Ac ad 89)) (F0 m 45 ls []) := by
  obtain ⟨hx, hb, hml, hown, hts, hr, hlk⟩ := id C
  unfold X9_readEntry_45 at h
  refine lv_aload_n hx hb dX9_readEntry_45 rfl (lv_at hl 0 rfl) ?_
  refine gX8_0 C hK hP w213 dX9_readEntry_46 ?_
  refine lv_iconst (v := (4 : Int32)) hx hb dX9_readEntry_49 (by decide) ?_
  refine lv_iload_n hx hb dX9_readEntry_50 rfl (lv_at hl 3 rfl) ?_
  obtain ⟨q1, h2, h⟩ := lets h
  refine cRv (run_V (rest := []) C (kX1_refuse hI h2) caX1_refuse w732 ⟨rfl, rfl, Nat.le_of_ble_eq_true rfl, Nat.le_of_ble_eq_true rfl⟩ hK hN hP (rX3 hK hP) rfl hl.1 rfl (Nat.le_of_ble_eq_true rfl) dX9_readEntry_51 ⟨Nat.zero_le _, Nat.zero_le _⟩) hS (fun H locs hP hS => ?_)
  have hP : va_P D vwCl (GX cy ad tk sp nm tp kp q1 se ur ab lo im sy un en ra li i2) H := hP
  exact bX9_readEntry_54 C hI hK hN h (lv_sub hl [0, 1, 2, 3, 4] rfl) hP hS
def X9_readEntry_26 (tp : Ttp) (se : Tse) (ab : Tab)  (cu : Tcu) (ur : Tur) (en : Ten) (v2 : Int32) (v3 : Int32) (v6 : Int32) : Option (Tcu × Tur × Ten) := (if (X2_total en) < (400 : Int32) then (if ur.2.1 < (24 : Int32) then X9_readEntry_54 tp se ab cu ur en v2 v3 v6 else X9_readEntry_45 tp se ab cu ur en v2 v3 v6) else X9_readEntry_45 tp se ab cu ur en v2 v3 v6)
set_option maxRecDepth 20000 in
theorem bX9_readEntry_26 (C : Cx p s m args meth c cX9_readEntry 14 none RX9 (.code yX9_readEntry cX9_readEntry 14 none)) (hI : Apart ad 89) (hK : va_K D vwCl (tysX cy) s) (hN : NW s)  {q : Tcu × Tur × Ten}  {v2 : Int32} {v3 : Int32} {v6 : Int32} (h : X9_readEntry_26 tp se ab cu ur en v2 v3 v6 = some q) {ls : Array Slot} (hl : lv_has ls 14 [(0, .ref (ad 8)), (1, .ref (ad 34)), (2, .int v2), (3, .int v3), (6, .int v6)]) {H : Heap} {locs : List Loc} (hP : va_P D vwCl (GX cy ad tk sp nm tp kp cu se ur ab lo im sy un en ra li i2) H) (hS : va_S (Ac ad 89) s.heap H locs) : W p l e ({ frames := 4, cells := 0, slots := 0, locals := 102 } : Room) s m args below meth c H locs 0 0 (MQ below (QR none D (GX cy ad tk sp nm tp kp q.1 se q.2.1 ab lo im sy un q.2.2 ra li i2) (Ac ad 89)) args s 0 0 (Ac ad 89)) (F0 m 26 ls []) := by
  obtain ⟨hx, hb, hml, hown, hts, hr, hlk⟩ := id C
  unfold X9_readEntry_26 at h
  refine lv_aload_n hx hb dX9_readEntry_26 rfl (lv_at hl 1 rfl) ?_
  refine cPi (run_V (rest := []) C (kX2_total rfl) caX2_total w752 ⟨rfl, rfl, Nat.le_of_ble_eq_true rfl, Nat.le_of_ble_eq_true rfl⟩ hK hN hP (rX34 hK hP) rfl hl.1 rfl (Nat.le_of_ble_eq_true rfl) dX9_readEntry_27 ⟨Nat.zero_le _, Nat.zero_le _⟩) ?_
  refine lv_sipush (v := (400 : Int32)) hx hb dX9_readEntry_30 (by decide) ?_
  refine b_icmp_ge (tgt := 45) hx hb dX9_readEntry_33 (by decide) (fun c1 => ?_) (fun c1 => ?_)
  · rw [if_neg c1] at h
    exact bX9_readEntry_45 C hI hK hN h (lv_sub hl [0, 1, 2, 3, 4] rfl) hP hS
  · rw [if_pos c1] at h
    refine lv_aload_n hx hb dX9_readEntry_36 rfl (lv_at hl 0 rfl) ?_
    refine gX8_4 (v := ur.2.1) C hK hP rfl w217 dX9_readEntry_37 ?_
    refine lv_bipush (v := (24 : Int32)) hx hb dX9_readEntry_40 (by decide) ?_
    refine lv_icmp_lt (tgt := 54) hx hb dX9_readEntry_42 (by decide) (fun c2 => ?_) (fun c2 => ?_)
    · rw [if_pos c2] at h
      exact bX9_readEntry_54 C hI hK hN h (lv_sub hl [0, 1, 2, 3, 4] rfl) hP hS
    · rw [if_neg c2] at h
      exact bX9_readEntry_45 C hI hK hN h (lv_sub hl [0, 1, 2, 3, 4] rfl) hP hS
def X9_readEntry (tp : Ttp) (cu : Tcu) (se : Tse) (ur : Tur) (ab : Tab) (en : Ten) (v2 : Int32) (v3 : Int32) (v4 : Int64) : Option (Tcu × Tur × Ten) := ((X0_indexOf ab v4).bind fun q1 => (if q1 = (-1 : Int32) then (letq (X1_refuse cu (3 : Int32) v3) fun q4 => X9_readEntry_26 tp se ab q4 ur en v2 v3 q1) else X9_readEntry_26 tp se ab cu ur en v2 v3 q1))
set_option maxRecDepth 20000 in
theorem bX9_readEntry_0 (C : Cx p s m args meth c cX9_readEntry 14 none RX9 (.code yX9_readEntry cX9_readEntry 14 none)) (hI : Apart ad 89) (hK : va_K D vwCl (tysX cy) s) (hN : NW s)  {q : Tcu × Tur × Ten}  {v2 : Int32} {v3 : Int32} {v4 : Int64} (h : X9_readEntry tp cu se ur ab en v2 v3 v4 = some q) {ls : Array Slot} (hl : lv_has ls 14 [(0, .ref (ad 8)), (1, .ref (ad 34)), (2, .int v2), (3, .int v3), (4, .long v4)]) {H : Heap} {locs : List Loc} (hP : va_P D vwCl (GX cy ad tk sp nm tp kp cu se ur ab lo im sy un en ra li i2) H) (hS : va_S (Ac ad 89) s.heap H locs) : W p l e ({ frames := 4, cells := 0, slots := 0, locals := 102 } : Room) s m args below meth c H locs 0 0 (MQ below (QR none D (GX cy ad tk sp nm tp kp q.1 se q.2.1 ab lo im sy un q.2.2 ra li i2) (Ac ad 89)) args s 0 0 (Ac ad 89)) (F0 m 0 ls []) := by
  obtain ⟨hx, hb, hml, hown, hts, hr, hlk⟩ := id C
  unfold X9_readEntry at h
  refine lv_aload_n hx hb dX9_readEntry_0 rfl (lv_at hl 0 rfl) ?_
  refine gX8_2 C hK hP w215 dX9_readEntry_1 ?_
  refine lv_lload hx hb dX9_readEntry_4 (lv_at hl 4 rfl) ?_
  obtain ⟨q1, h2, h⟩ := bnd h
  refine cPi (run_V (rest := []) C (kX0_indexOf h2) caX0_indexOf w811 ⟨rfl, rfl, Nat.le_of_ble_eq_true rfl, Nat.le_of_ble_eq_true rfl⟩ hK hN hP (rX11 hK hP) rfl hl.1 rfl (Nat.le_of_ble_eq_true rfl) dX9_readEntry_6 ⟨Nat.zero_le _, Nat.zero_le _⟩) ?_
  refine lv_istore (lv' := [(6, .int q1), (0, .ref (ad 8)), (1, .ref (ad 34)), (2, .int v2), (3, .int v3), (4, .long v4)]) hx hb dX9_readEntry_9 hl (by decide) rfl (fun ls hl => ?_)
  refine lv_iload hx hb dX9_readEntry_11 (lv_at hl 0 rfl) ?_
  refine lv_iconst (v := (-1 : Int32)) hx hb dX9_readEntry_13 (by decide) ?_
  refine lv_icmp_ne (tgt := 26) hx hb dX9_readEntry_14 (by decide) (fun c3 => ?_) (fun c3 => ?_)
  · rw [if_neg c3] at h
    exact bX9_readEntry_26 C hI hK hN h (lv_sub hl [1, 2, 3, 4, 0] rfl) hP hS
  · rw [if_pos c3] at h
    refine lv_aload_n hx hb dX9_readEntry_17 rfl (lv_at hl 1 rfl) ?_
    refine gX8_0 C hK hP w213 dX9_readEntry_18 ?_
    refine lv_iconst (v := (3 : Int32)) hx hb dX9_readEntry_21 (by decide) ?_
    refine lv_iload_n hx hb dX9_readEntry_22 rfl (lv_at hl 4 rfl) ?_
    obtain ⟨q4, h5, h⟩ := lets h
    refine cRv (run_V (rest := []) C (kX1_refuse hI h5) caX1_refuse w732 ⟨rfl, rfl, Nat.le_of_ble_eq_true rfl, Nat.le_of_ble_eq_true rfl⟩ hK hN hP (rX3 hK hP) rfl hl.1 rfl (Nat.le_of_ble_eq_true rfl) dX9_readEntry_23 ⟨Nat.zero_le _, Nat.zero_le _⟩) hS (fun H locs hP hS => ?_)
    have hP : va_P D vwCl (GX cy ad tk sp nm tp kp q4 se ur ab lo im sy un en ra li i2) H := hP
    exact bX9_readEntry_26 C hI hK hN h (lv_sub hl [1, 2, 3, 4, 0] rfl) hP hS
theorem kX9_readEntry (hI : Apart ad 89) {v2 : Int32} {v3 : Int32} {v4 : Int64} {q : Tcu × Tur × Ten} (h : X9_readEntry tp cu se ur ab en v2 v3 v4 = some q) : Met l yX9_readEntry (.code yX9_readEntry cX9_readEntry 14 none :: WA) ({ frames := 4, cells := 0, slots := 0, locals := 102 } : Room) (va_Pc [.ref (ad 8), .ref (ad 34), .int v2, .int v3, .long v4] (PR D cy (GX cy ad tk sp nm tp kp cu se ur ab lo im sy un en ra li i2))) (QR none D (GX cy ad tk sp nm tp kp q.1 se q.2.1 ab lo im sy un q.2.2 ra li i2) (Ac ad 89)) 0 0 (Ac ad 89) :=
  met_of (by decide) (Nat.le_of_ble_eq_true rfl) (fun p e s m below meth c ls C hP hK hN hl => bX9_readEntry_0 C hI hK hN h hl hP va_S.rf)
def X9_readEntries_117 (tp : Ttp) (se : Tse) (ab : Tab) (k15 : Tcu → Tur → Ten → Int32 → Int32 → Int32 → Option (Tcu × Tur × Ten)) (cu : Tcu) (ur : Tur) (en : Ten) (v2 : Int32) (v4 : Int32) (z0 : Int32) : Option (Tcu × Tur × Ten) := k15 cu ur en v2 z0 (v4 + (1 : Int32))
set_option maxRecDepth 20000 in
theorem bX9_readEntries_117 (C : Cx p s m args meth c cX9_readEntries 8 none RX9 (.code yX9_readEntries cX9_readEntries 8 none)) (hI : Apart ad 89) (hK : va_K D vwCl (tysX cy) s) (hN : NW s) {k15 : Tcu → Tur → Ten → Int32 → Int32 → Int32 → Option (Tcu × Tur × Ten)} {q : Tcu × Tur × Ten} (hk15 : ∀ {cu : Tcu} {ur : Tur} {en : Ten} {v2 : Int32} {v3 : Int32} {v4 : Int32}, k15 cu ur en v2 v3 v4 = some q → ∀ {ls : Array Slot}, lv_has ls 8 [(0, .ref (ad 8)), (1, .ref (ad 34)), (2, .int v2), (3, .int v3), (4, .int v4)] → ∀ {H : Heap} {locs : List Loc}, va_P D vwCl (GX cy ad tk sp nm tp kp cu se ur ab lo im sy un en ra li i2) H → va_S (Ac ad 89) s.heap H locs → W p l e ({ frames := 5, cells := 0, slots := 0, locals := 135 } : Room) s m args below meth c H locs 0 0 (MQ below (QR none D (GX cy ad tk sp nm tp kp q.1 se q.2.1 ab lo im sy un q.2.2 ra li i2) (Ac ad 89)) args s 0 0 (Ac ad 89)) (F0 m 15 ls [])) {v2 : Int32} {v4 : Int32} {z0 : Int32} (h : X9_readEntries_117 tp se ab k15 cu ur en v2 v4 z0 = some q) {ls : Array Slot} (hl : lv_has ls 8 [(0, .ref (ad 8)), (1, .ref (ad 34)), (2, .int v2), (4, .int v4)]) {H : Heap} {locs : List Loc} (hP : va_P D vwCl (GX cy ad tk sp nm tp kp cu se ur ab lo im sy un en ra li i2) H) (hS : va_S (Ac ad 89) s.heap H locs) : W p l e ({ frames := 5, cells := 0, slots := 0, locals := 135 } : Room) s m args below meth c H locs 0 0 (MQ below (QR none D (GX cy ad tk sp nm tp kp q.1 se q.2.1 ab lo im sy un q.2.2 ra li i2) (Ac ad 89)) args s 0 0 (Ac ad 89)) (F0 m 117 ls [.int z0]) := by
  obtain ⟨hx, hb, hml, hown, hts, hr, hlk⟩ := id C
  unfold X9_readEntries_117 at h
  refine lv_istore_n (lv' := [(3, .int z0), (0, .ref (ad 8)), (1, .ref (ad 34)), (2, .int v2), (4, .int v4)]) hx hb dX9_readEntries_117 rfl hl (by decide) rfl (fun ls hl => ?_)
  refine lv_iinc (v := (v4 + (1 : Int32))) (lv' := [(4, .int (v4 + (1 : Int32))), (3, .int z0), (0, .ref (ad 8)), (1, .ref (ad 34)), (2, .int v2)]) hx hb dX9_readEntries_118 hl (k := 4) rfl rfl (by decide) rfl (fun ls hl => ?_)
  refine lv_goto (tgt := 15) hx hb dX9_readEntries_121 (by decide) ?_
  exact hk15 h (lv_sub hl [2, 3, 4, 1, 0] rfl) hP hS
def X9_readEntries_105 (tp : Ttp) (se : Tse) (ab : Tab) (k15 : Tcu → Tur → Ten → Int32 → Int32 → Int32 → Option (Tcu × Tur × Ten)) (cu : Tcu) (ur : Tur) (en : Ten) (v2 : Int32) (v4 : Int32) : Option (Tcu × Tur × Ten) := (if ur.2.1 = 0 then X9_readEntries_117 tp se ab k15 cu ur en v2 v4 (1 : Int32) else X9_readEntries_117 tp se ab k15 cu ur en v2 v4 (0 : Int32))
set_option maxRecDepth 20000 in
theorem bX9_readEntries_105 (C : Cx p s m args meth c cX9_readEntries 8 none RX9 (.code yX9_readEntries cX9_readEntries 8 none)) (hI : Apart ad 89) (hK : va_K D vwCl (tysX cy) s) (hN : NW s) {k15 : Tcu → Tur → Ten → Int32 → Int32 → Int32 → Option (Tcu × Tur × Ten)} {q : Tcu × Tur × Ten} (hk15 : ∀ {cu : Tcu} {ur : Tur} {en : Ten} {v2 : Int32} {v3 : Int32} {v4 : Int32}, k15 cu ur en v2 v3 v4 = some q → ∀ {ls : Array Slot}, lv_has ls 8 [(0, .ref (ad 8)), (1, .ref (ad 34)), (2, .int v2), (3, .int v3), (4, .int v4)] → ∀ {H : Heap} {locs : List Loc}, va_P D vwCl (GX cy ad tk sp nm tp kp cu se ur ab lo im sy un en ra li i2) H → va_S (Ac ad 89) s.heap H locs → W p l e ({ frames := 5, cells := 0, slots := 0, locals := 135 } : Room) s m args below meth c H locs 0 0 (MQ below (QR none D (GX cy ad tk sp nm tp kp q.1 se q.2.1 ab lo im sy un q.2.2 ra li i2) (Ac ad 89)) args s 0 0 (Ac ad 89)) (F0 m 15 ls [])) {v2 : Int32} {v4 : Int32} (h : X9_readEntries_105 tp se ab k15 cu ur en v2 v4 = some q) {ls : Array Slot} (hl : lv_has ls 8 [(0, .ref (ad 8)), (1, .ref (ad 34)), (2, .int v2), (4, .int v4)]) {H : Heap} {locs : List Loc} (hP : va_P D vwCl (GX cy ad tk sp nm tp kp cu se ur ab lo im sy un en ra li i2) H) (hS : va_S (Ac ad 89) s.heap H locs) : W p l e ({ frames := 5, cells := 0, slots := 0, locals := 135 } : Room) s m args below meth c H locs 0 0 (MQ below (QR none D (GX cy ad tk sp nm tp kp q.1 se q.2.1 ab lo im sy un q.2.2 ra li i2) (Ac ad 89)) args s 0 0 (Ac ad 89)) (F0 m 105 ls []) := by
  obtain ⟨hx, hb, hml, hown, hts, hr, hlk⟩ := id C
  unfold X9_readEntries_105 at h
  refine lv_aload_n hx hb dX9_readEntries_105 rfl (lv_at hl 0 rfl) ?_
  refine gX8_4 (v := ur.2.1) C hK hP rfl w217 dX9_readEntries_106 ?_
  refine lv_if_ne (tgt := 116) hx hb dX9_readEntries_109 (by decide) (fun c1 => ?_) (fun c1 => ?_)
  · rw [if_neg c1] at h
    refine lv_iconst (v := (0 : Int32)) hx hb dX9_readEntries_116 (by decide) ?_
    exact bX9_readEntries_117 C hI hK hN @hk15 h (lv_sub hl [0, 1, 2, 3] rfl) hP hS
  · rw [if_pos c1] at h
    refine lv_iconst (v := (1 : Int32)) hx hb dX9_readEntries_112 (by decide) ?_
    refine lv_goto (tgt := 117) hx hb dX9_readEntries_113 (by decide) ?_
    exact bX9_readEntries_117 C hI hK hN @hk15 h (lv_sub hl [0, 1, 2, 3] rfl) hP hS
def X9_readEntries_124 (tp : Ttp) (se : Tse) (ab : Tab)  (cu : Tcu) (ur : Tur) (en : Ten)  : Option (Tcu × Tur × Ten) := (if (X1_place cu) = (X1_stop cu) then some (cu, ur, en) else (letq (X1_refuse cu (2 : Int32) (X1_place cu)) fun q2 => some (q2, ur, en)))
set_option maxRecDepth 20000 in
theorem bX9_readEntries_124 (C : Cx p s m args meth c cX9_readEntries 8 none RX9 (.code yX9_readEntries cX9_readEntries 8 none)) (hI : Apart ad 89) (hK : va_K D vwCl (tysX cy) s) (hN : NW s)  {q : Tcu × Tur × Ten}   (h : X9_readEntries_124 tp se ab cu ur en = some q) {ls : Array Slot} (hl : lv_has ls 8 [(0, .ref (ad 8))]) {H : Heap} {locs : List Loc} (hP : va_P D vwCl (GX cy ad tk sp nm tp kp cu se ur ab lo im sy un en ra li i2) H) (hS : va_S (Ac ad 89) s.heap H locs) : W p l e ({ frames := 5, cells := 0, slots := 0, locals := 135 } : Room) s m args below meth c H locs 0 0 (MQ below (QR none D (GX cy ad tk sp nm tp kp q.1 se q.2.1 ab lo im sy un q.2.2 ra li i2) (Ac ad 89)) args s 0 0 (Ac ad 89)) (F0 m 124 ls []) := by
  obtain ⟨hx, hb, hml, hown, hts, hr, hlk⟩ := id C
  unfold X9_readEntries_124 at h
  refine lv_aload_n hx hb dX9_readEntries_124 rfl (lv_at hl 0 rfl) ?_
  refine gX8_0 C hK hP w213 dX9_readEntries_125 ?_
  refine cPi (run_V (rest := []) C (kX1_place rfl) caX1_place w737 ⟨rfl, rfl, Nat.le_of_ble_eq_true rfl, Nat.le_of_ble_eq_true rfl⟩ hK hN hP (rX3 hK hP) rfl hl.1 rfl (Nat.le_of_ble_eq_true rfl) dX9_readEntries_128 ⟨Nat.zero_le _, Nat.zero_le _⟩) ?_
  refine lv_aload_n hx hb dX9_readEntries_131 rfl (lv_at hl 0 rfl) ?_
  refine gX8_0 C hK hP w213 dX9_readEntries_132 ?_
  refine cPi (run_V (rest := [.int (X1_place cu)]) C (kX1_stop rfl) caX1_stop w748 ⟨rfl, rfl, Nat.le_of_ble_eq_true rfl, Nat.le_of_ble_eq_true rfl⟩ hK hN hP (rX3 hK hP) rfl hl.1 rfl (Nat.le_of_ble_eq_true rfl) dX9_readEntries_135 ⟨Nat.zero_le _, Nat.zero_le _⟩) ?_
  refine lv_icmp_eq (tgt := 156) hx hb dX9_readEntries_138 (by decide) (fun c1 => ?_) (fun c1 => ?_)
  · rw [if_pos c1] at h
    obtain rfl := Option.some.inj h
    exact W.vret hx hb hr (fun t ht _ => ⟨rfl, by rw [ht]; exact hP, hS.F ht⟩) hS.2.2 dX9_readEntries_156 hlk
  · rw [if_neg c1] at h
    refine lv_aload_n hx hb dX9_readEntries_141 rfl (lv_at hl 0 rfl) ?_
    refine gX8_0 C hK hP w213 dX9_readEntries_142 ?_
    refine lv_iconst (v := (2 : Int32)) hx hb dX9_readEntries_145 (by decide) ?_
    refine lv_aload_n hx hb dX9_readEntries_146 rfl (lv_at hl 0 rfl) ?_
    refine gX8_0 C hK hP w213 dX9_readEntries_147 ?_
    refine cPi (run_V (rest := [.int (2 : Int32), .ref (ad 3)]) C (kX1_place rfl) caX1_place w737 ⟨rfl, rfl, Nat.le_of_ble_eq_true rfl, Nat.le_of_ble_eq_true rfl⟩ hK hN hP (rX3 hK hP) rfl hl.1 rfl (Nat.le_of_ble_eq_true rfl) dX9_readEntries_150 ⟨Nat.zero_le _, Nat.zero_le _⟩) ?_
    obtain ⟨q2, h3, h⟩ := lets h
    refine cRv (run_V (rest := []) C (kX1_refuse hI h3) caX1_refuse w732 ⟨rfl, rfl, Nat.le_of_ble_eq_true rfl, Nat.le_of_ble_eq_true rfl⟩ hK hN hP (rX3 hK hP) rfl hl.1 rfl (Nat.le_of_ble_eq_true rfl) dX9_readEntries_153 ⟨Nat.zero_le _, Nat.zero_le _⟩) hS (fun H locs hP hS => ?_)
    have hP : va_P D vwCl (GX cy ad tk sp nm tp kp q2 se ur ab lo im sy un en ra li i2) H := hP
    obtain rfl := Option.some.inj h
    exact W.vret hx hb hr (fun t ht _ => ⟨rfl, by rw [ht]; exact hP, hS.F ht⟩) hS.2.2 dX9_readEntries_156 hlk
def X9_readEntries_15b (tp : Ttp) (se : Tse) (ab : Tab)  (k15 : Tcu → Tur → Ten → Int32 → Int32 → Int32 → Option (Tcu × Tur × Ten)) (cu : Tcu) (ur : Tur) (en : Ten) (v2 : Int32) (v3 : Int32) (v4 : Int32) : Option (Tcu × Tur × Ten) := (if v4 < (8000 : Int32) then (if v3 = 0 then (if (X1_sound cu) = 0 then X9_readEntries_124 tp se ab cu ur en else ((X1_uleb tp cu).bind fun q4 => (if q4.1 = (0 : Int64) then (if 0 < ur.2.1 then X9_readEntries_105 tp se ab k15 q4.2 (ur.1, (ur.2.1 - (1 : Int32)), ur.2.2.1, ur.2.2.2.1, ur.2.2.2.2.1, ur.2.2.2.2.2.1, ur.2.2.2.2.2.2) en v2 v4 else (letq (X1_refuse q4.2 (2 : Int32) (X1_place cu)) fun q8 => X9_readEntries_105 tp se ab k15 q8 ur en v2 v4)) else ((X9_readEntry tp q4.2 se ur ab en v2 (X1_place cu) q4.1).bind fun q10 => X9_readEntries_105 tp se ab k15 q10.1 q10.2.1 q10.2.2 v2 v4)))) else X9_readEntries_124 tp se ab cu ur en) else X9_readEntries_124 tp se ab cu ur en)
def X9_readEntries_15 (tp : Ttp) (se : Tse) (ab : Tab)  (n : Nat) (st : Tcu × Tur × Ten × Int32 × Int32 × Int32) : Option (Tcu × Tur × Ten) := lp (fun rec st => X9_readEntries_15b tp se ab  (fun a0 a1 a2 a3 a4 a5 => rec (a0, a1, a2, a3, a4, a5)) st.1 st.2.1 st.2.2.1 st.2.2.2.1 st.2.2.2.2.1 st.2.2.2.2.2) n st
set_option maxRecDepth 20000 in
theorem bX9_readEntries_15 (C : Cx p s m args meth c cX9_readEntries 8 none RX9 (.code yX9_readEntries cX9_readEntries 8 none)) (hI : Apart ad 89) (hK : va_K D vwCl (tysX cy) s) (hN : NW s)  {q : Tcu × Tur × Ten}  : ∀ (n : Nat) {cu : Tcu} {ur : Tur} {en : Ten} {v2 : Int32} {v3 : Int32} {v4 : Int32}, X9_readEntries_15 tp se ab  n (cu, ur, en, v2, v3, v4) = some q → ∀ {ls : Array Slot}, lv_has ls 8 [(0, .ref (ad 8)), (1, .ref (ad 34)), (2, .int v2), (3, .int v3), (4, .int v4)] → ∀ {H : Heap} {locs : List Loc}, va_P D vwCl (GX cy ad tk sp nm tp kp cu se ur ab lo im sy un en ra li i2) H → va_S (Ac ad 89) s.heap H locs → W p l e ({ frames := 5, cells := 0, slots := 0, locals := 135 } : Room) s m args below meth c H locs 0 0 (MQ below (QR none D (GX cy ad tk sp nm tp kp q.1 se q.2.1 ab lo im sy un q.2.2 ra li i2) (Ac ad 89)) args s 0 0 (Ac ad 89)) (F0 m 15 ls []) := by
  obtain ⟨hx, hb, hml, hown, hts, hr, hlk⟩ := id C
  intro n
  induction n with
  | zero =>
    intro cu ur en v2 v3 v4 h ls hl H locs hP hS
    have h : (none : Option (Tcu × Tur × Ten)) = some q := h
    cases h
  | succ n ih =>
    intro cu ur en v2 v3 v4 h ls hl H locs hP hS
    have h : X9_readEntries_15b tp se ab  (fun a0 a1 a2 a3 a4 a5 => X9_readEntries_15 tp se ab  n (a0, a1, a2, a3, a4, a5)) cu ur en v2 v3 v4 = some q := h
    unfold X9_readEntries_15b at h
    refine lv_iload hx hb dX9_readEntries_15 (lv_at hl 4 rfl) ?_
    refine lv_sipush (v := (8000 : Int32)) hx hb dX9_readEntries_17 (by decide) ?_
    refine b_icmp_ge (tgt := 124) hx hb dX9_readEntries_20 (by decide) (fun c1 => ?_) (fun c1 => ?_)
    · rw [if_neg c1] at h
      exact bX9_readEntries_124 C hI hK hN h (lv_sub hl [0] rfl) hP hS
    · rw [if_pos c1] at h
      refine lv_iload_n hx hb dX9_readEntries_23 rfl (lv_at hl 3 rfl) ?_
      refine lv_if_ne (tgt := 124) hx hb dX9_readEntries_24 (by decide) (fun c2 => ?_) (fun c2 => ?_)
      · rw [if_neg c2] at h
        exact bX9_readEntries_124 C hI hK hN h (lv_sub hl [0] rfl) hP hS
      · rw [if_pos c2] at h
        refine lv_aload_n hx hb dX9_readEntries_27 rfl (lv_at hl 0 rfl) ?_
        refine gX8_0 C hK hP w213 dX9_readEntries_28 ?_
        refine cPi (run_V (rest := []) C (kX1_sound rfl) caX1_sound w707 ⟨rfl, rfl, Nat.le_of_ble_eq_true rfl, Nat.le_of_ble_eq_true rfl⟩ hK hN hP (rX3 hK hP) rfl hl.1 rfl (Nat.le_of_ble_eq_true rfl) dX9_readEntries_31 ⟨Nat.zero_le _, Nat.zero_le _⟩) ?_
        refine lv_if_eq (tgt := 124) hx hb dX9_readEntries_34 (by decide) (fun c3 => ?_) (fun c3 => ?_)
        · rw [if_pos c3] at h
          exact bX9_readEntries_124 C hI hK hN h (lv_sub hl [0] rfl) hP hS
        · rw [if_neg c3] at h
          refine lv_aload_n hx hb dX9_readEntries_37 rfl (lv_at hl 0 rfl) ?_
          refine gX8_0 C hK hP w213 dX9_readEntries_38 ?_
          refine cPi (run_V (rest := []) C (kX1_place rfl) caX1_place w737 ⟨rfl, rfl, Nat.le_of_ble_eq_true rfl, Nat.le_of_ble_eq_true rfl⟩ hK hN hP (rX3 hK hP) rfl hl.1 rfl (Nat.le_of_ble_eq_true rfl) dX9_readEntries_41 ⟨Nat.zero_le _, Nat.zero_le _⟩) ?_
          refine lv_istore (lv' := [(5, .int (X1_place cu)), (0, .ref (ad 8)), (1, .ref (ad 34)), (2, .int v2), (3, .int v3), (4, .int v4)]) hx hb dX9_readEntries_44 hl (by decide) rfl (fun ls hl => ?_)
          refine lv_aload_n hx hb dX9_readEntries_46 rfl (lv_at hl 1 rfl) ?_
          refine gX8_0 C hK hP w213 dX9_readEntries_47 ?_
          obtain ⟨q4, h5, h⟩ := bnd h
          refine cRl (run_V (rest := []) C (kX1_uleb hI h5) caX1_uleb w806 ⟨rfl, rfl, Nat.le_of_ble_eq_true rfl, Nat.le_of_ble_eq_true rfl⟩ hK hN hP (rX3 hK hP) rfl hl.1 rfl (Nat.le_of_ble_eq_true rfl) dX9_readEntries_50 ⟨Nat.zero_le _, Nat.zero_le _⟩) hS (fun H locs hP hS => ?_)
          have hP : va_P D vwCl (GX cy ad tk sp nm tp kp q4.2 se ur ab lo im sy un en ra li i2) H := hP
          refine lv_lstore (lv' := [(6, .long q4.1), (5, .int (X1_place cu)), (0, .ref (ad 8)), (1, .ref (ad 34)), (2, .int v2), (3, .int v3), (4, .int v4)]) hx hb dX9_readEntries_53 hl (by decide) rfl (fun ls hl => ?_)
          refine lv_lload hx hb dX9_readEntries_55 (lv_at hl 0 rfl) ?_
          refine lv_lconst (v := (0 : Int64)) hx hb dX9_readEntries_57 (by decide) ?_
          refine lc_eq (tgt := 75) hx hb dX9_readEntries_58 dX9_readEntries_59 (by decide) (fun c6 => ?_) (fun c6 => ?_)
          · rw [if_pos c6] at h
            refine lv_aload_n hx hb dX9_readEntries_75 rfl (lv_at hl 2 rfl) ?_
            refine gX8_4 (v := ur.2.1) C hK hP rfl w217 dX9_readEntries_76 ?_
            refine b_if_le (tgt := 95) hx hb dX9_readEntries_79 (by decide) (fun c7 => ?_) (fun c7 => ?_)
            · rw [if_neg c7] at h
              refine lv_aload_n hx hb dX9_readEntries_95 rfl (lv_at hl 2 rfl) ?_
              refine gX8_0 C hK hP w213 dX9_readEntries_96 ?_
              refine lv_iconst (v := (2 : Int32)) hx hb dX9_readEntries_99 (by decide) ?_
              refine lv_iload hx hb dX9_readEntries_100 (lv_at hl 1 rfl) ?_
              obtain ⟨q8, h9, h⟩ := lets h
              refine cRv (run_V (rest := []) C (kX1_refuse hI h9) caX1_refuse w732 ⟨rfl, rfl, Nat.le_of_ble_eq_true rfl, Nat.le_of_ble_eq_true rfl⟩ hK hN hP (rX3 hK hP) rfl hl.1 rfl (Nat.le_of_ble_eq_true rfl) dX9_readEntries_102 ⟨Nat.zero_le _, Nat.zero_le _⟩) hS (fun H locs hP hS => ?_)
              have hP : va_P D vwCl (GX cy ad tk sp nm tp kp q8 se ur ab lo im sy un en ra li i2) H := hP
              exact bX9_readEntries_105 C hI hK hN @ih h (lv_sub hl [2, 3, 4, 6] rfl) hP hS
            · rw [if_pos c7] at h
              refine lv_aload_n hx hb dX9_readEntries_82 rfl (lv_at hl 2 rfl) ?_
              refine lv_dup hx hb dX9_readEntries_83 rfl ?_
              refine gX8_4 (v := ur.2.1) C hK hP rfl w217 dX9_readEntries_84 ?_
              refine lv_iconst (v := (1 : Int32)) hx hb dX9_readEntries_87 (by decide) ?_
              refine lv_isub hx hb dX9_readEntries_88 ?_
              refine pX8_4 (v := (ur.2.1 - (1 : Int32))) C hI hK hP hS w217 dX9_readEntries_89 (fun H locs hP hS => ?_)
              have hP : va_P D vwCl (GX cy ad tk sp nm tp kp q4.2 se (ur.1, (ur.2.1 - (1 : Int32)), ur.2.2.1, ur.2.2.2.1, ur.2.2.2.2.1, ur.2.2.2.2.2.1, ur.2.2.2.2.2.2) ab lo im sy un en ra li i2) H := hP
              refine lv_goto (tgt := 105) hx hb dX9_readEntries_92 (by decide) ?_
              exact bX9_readEntries_105 C hI hK hN @ih h (lv_sub hl [2, 3, 4, 6] rfl) hP hS
          · rw [if_neg c6] at h
            refine lv_aload_n hx hb dX9_readEntries_62 rfl (lv_at hl 2 rfl) ?_
            refine lv_aload_n hx hb dX9_readEntries_63 rfl (lv_at hl 3 rfl) ?_
            refine lv_iload_n hx hb dX9_readEntries_64 rfl (lv_at hl 4 rfl) ?_
            refine lv_iload hx hb dX9_readEntries_65 (lv_at hl 1 rfl) ?_
            refine lv_lload hx hb dX9_readEntries_67 (lv_at hl 0 rfl) ?_
            obtain ⟨q10, h11, h⟩ := bnd h
            refine cRv (run_V (rest := []) C (kX9_readEntry hI h11) caX9_readEntry w807 ⟨rfl, rfl, Nat.le_of_ble_eq_true rfl, Nat.le_of_ble_eq_true rfl⟩ hK hN hP (rX8 hK hP) rfl hl.1 rfl (Nat.le_of_ble_eq_true rfl) dX9_readEntries_69 ⟨Nat.zero_le _, Nat.zero_le _⟩) hS (fun H locs hP hS => ?_)
            have hP : va_P D vwCl (GX cy ad tk sp nm tp kp q10.1 se q10.2.1 ab lo im sy un q10.2.2 ra li i2) H := hP
            refine lv_goto (tgt := 105) hx hb dX9_readEntries_72 (by decide) ?_
            exact bX9_readEntries_105 C hI hK hN @ih h (lv_sub hl [2, 3, 4, 6] rfl) hP hS
def X9_readEntries (tp : Ttp) (cu : Tcu) (se : Tse) (ur : Tur) (ab : Tab) (en : Ten) (v2 : Int32) : Option (Tcu × Tur × Ten) := X9_readEntries_15 tp se ab FU (cu, (ur.1, (0 : Int32), ur.2.2.1, (0 : Int32), ur.2.2.2.2.1, ur.2.2.2.2.2.1, ur.2.2.2.2.2.2), en, v2, (0 : Int32), (0 : Int32))
set_option maxRecDepth 20000 in
theorem bX9_readEntries_0 (C : Cx p s m args meth c cX9_readEntries 8 none RX9 (.code yX9_readEntries cX9_readEntries 8 none)) (hI : Apart ad 89) (hK : va_K D vwCl (tysX cy) s) (hN : NW s)  {q : Tcu × Tur × Ten}  {v2 : Int32} (h : X9_readEntries tp cu se ur ab en v2 = some q) {ls : Array Slot} (hl : lv_has ls 8 [(0, .ref (ad 8)), (1, .ref (ad 34)), (2, .int v2)]) {H : Heap} {locs : List Loc} (hP : va_P D vwCl (GX cy ad tk sp nm tp kp cu se ur ab lo im sy un en ra li i2) H) (hS : va_S (Ac ad 89) s.heap H locs) : W p l e ({ frames := 5, cells := 0, slots := 0, locals := 135 } : Room) s m args below meth c H locs 0 0 (MQ below (QR none D (GX cy ad tk sp nm tp kp q.1 se q.2.1 ab lo im sy un q.2.2 ra li i2) (Ac ad 89)) args s 0 0 (Ac ad 89)) (F0 m 0 ls []) := by
  obtain ⟨hx, hb, hml, hown, hts, hr, hlk⟩ := id C
  unfold X9_readEntries at h
  refine lv_aload_n hx hb dX9_readEntries_0 rfl (lv_at hl 0 rfl) ?_
  refine lv_iconst (v := (0 : Int32)) hx hb dX9_readEntries_1 (by decide) ?_
  refine pX8_4 (v := (0 : Int32)) C hI hK hP hS w217 dX9_readEntries_2 (fun H locs hP hS => ?_)
  have hP : va_P D vwCl (GX cy ad tk sp nm tp kp cu se (ur.1, (0 : Int32), ur.2.2.1, ur.2.2.2.1, ur.2.2.2.2.1, ur.2.2.2.2.2.1, ur.2.2.2.2.2.2) ab lo im sy un en ra li i2) H := hP
  refine lv_aload_n hx hb dX9_readEntries_5 rfl (lv_at hl 0 rfl) ?_
  refine lv_iconst (v := (0 : Int32)) hx hb dX9_readEntries_6 (by decide) ?_
  refine pX8_6 (v := (0 : Int32)) C hI hK hP hS w219 dX9_readEntries_7 (fun H locs hP hS => ?_)
  have hP : va_P D vwCl (GX cy ad tk sp nm tp kp cu se (ur.1, (0 : Int32), ur.2.2.1, (0 : Int32), ur.2.2.2.2.1, ur.2.2.2.2.2.1, ur.2.2.2.2.2.2) ab lo im sy un en ra li i2) H := hP
  refine lv_iconst (v := (0 : Int32)) hx hb dX9_readEntries_10 (by decide) ?_
  refine lv_istore_n (lv' := [(3, .int (0 : Int32)), (0, .ref (ad 8)), (1, .ref (ad 34)), (2, .int v2)]) hx hb dX9_readEntries_11 rfl hl (by decide) rfl (fun ls hl => ?_)
  refine lv_iconst (v := (0 : Int32)) hx hb dX9_readEntries_12 (by decide) ?_
  refine lv_istore (lv' := [(4, .int (0 : Int32)), (3, .int (0 : Int32)), (0, .ref (ad 8)), (1, .ref (ad 34)), (2, .int v2)]) hx hb dX9_readEntries_13 hl (by decide) rfl (fun ls hl => ?_)
  exact bX9_readEntries_15 C hI hK hN FU h (lv_sub hl [2, 3, 4, 1, 0] rfl) hP hS
theorem kX9_readEntries (hI : Apart ad 89) {v2 : Int32} {q : Tcu × Tur × Ten} (h : X9_readEntries tp cu se ur ab en v2 = some q) : Met l yX9_readEntries (.code yX9_readEntries cX9_readEntries 8 none :: WA) ({ frames := 5, cells := 0, slots := 0, locals := 135 } : Room) (va_Pc [.ref (ad 8), .ref (ad 34), .int v2] (PR D cy (GX cy ad tk sp nm tp kp cu se ur ab lo im sy un en ra li i2))) (QR none D (GX cy ad tk sp nm tp kp q.1 se q.2.1 ab lo im sy un q.2.2 ra li i2) (Ac ad 89)) 0 0 (Ac ad 89) :=
  met_of (by decide) (Nat.le_of_ble_eq_true rfl) (fun p e s m below meth c ls C hP hK hN hl => bX9_readEntries_0 C hI hK hN h hl hP va_S.rf)
def X9_readHead_28 (tp : Ttp) (se : Tse) (ur : Tur) (un : Tun)  (cu : Tcu)  : Option (Int64 × Tcu) := ((X1_numberBetween tp cu (2 : Int32) (5 : Int32) (5 : Int32)).bind fun q1 => ((X1_numberBetween tp q1.2 (1 : Int32) (1 : Int32) (1 : Int32)).bind fun q3 => ((X1_numberBetween tp q3.2 (1 : Int32) (8 : Int32) (8 : Int32)).bind fun q5 => ((X1_number tp q5.2 (4 : Int32)).bind fun q7 => (if (X7_isIn se (2 : Int32) q7.1) = 0 then (letq (X1_refuse q7.2 (3 : Int32) (X1_place q5.2)) fun q10 => some ((0 : Int64), q10)) else some (q7.1, q7.2))))))
set_option maxRecDepth 20000 in
theorem bX9_readHead_28 (C : Cx p s m args meth c cX9_readHead 5 (some .long) RX9 (.code yX9_readHead cX9_readHead 5 (some .long))) (hI : Apart ad 89) (hK : va_K D vwCl (tysX cy) s) (hN : NW s)  {q : Int64 × Tcu}   (h : X9_readHead_28 tp se ur un cu = some q) {ls : Array Slot} (hl : lv_has ls 5 [(0, .ref (ad 8))]) {H : Heap} {locs : List Loc} (hP : va_P D vwCl (GX cy ad tk sp nm tp kp cu se ur ab lo im sy un en ra li i2) H) (hS : va_S (Ac ad 89) s.heap H locs) : W p l e ({ frames := 3, cells := 0, slots := 0, locals := 77 } : Room) s m args below meth c H locs 0 0 (MQ below (QR (some (.long q.1)) D (GX cy ad tk sp nm tp kp q.2 se ur ab lo im sy un en ra li i2) (Ac ad 89)) args s 0 0 (Ac ad 89)) (F0 m 28 ls []) := by
  obtain ⟨hx, hb, hml, hown, hts, hr, hlk⟩ := id C
  unfold X9_readHead_28 at h
  refine lv_aload_n hx hb dX9_readHead_28 rfl (lv_at hl 0 rfl) ?_
  refine gX8_0 C hK hP w213 dX9_readHead_29 ?_
  refine lv_iconst (v := (2 : Int32)) hx hb dX9_readHead_32 (by decide) ?_
  refine lv_iconst (v := (5 : Int32)) hx hb dX9_readHead_33 (by decide) ?_
  refine lv_iconst (v := (5 : Int32)) hx hb dX9_readHead_34 (by decide) ?_
  obtain ⟨q1, h2, h⟩ := bnd h
  refine cRi (run_V (rest := []) C (kX1_numberBetween hI h2) caX1_numberBetween w733 ⟨rfl, rfl, Nat.le_of_ble_eq_true rfl, Nat.le_of_ble_eq_true rfl⟩ hK hN hP (rX3 hK hP) rfl hl.1 rfl (Nat.le_of_ble_eq_true rfl) dX9_readHead_35 ⟨Nat.zero_le _, Nat.zero_le _⟩) hS (fun H locs hP hS => ?_)
  have hP : va_P D vwCl (GX cy ad tk sp nm tp kp q1.2 se ur ab lo im sy un en ra li i2) H := hP
  refine lv_pop hx hb dX9_readHead_38 rfl ?_
  refine lv_aload_n hx hb dX9_readHead_39 rfl (lv_at hl 0 rfl) ?_
  refine gX8_0 C hK hP w213 dX9_readHead_40 ?_
  refine lv_iconst (v := (1 : Int32)) hx hb dX9_readHead_43 (by decide) ?_
  refine lv_iconst (v := (1 : Int32)) hx hb dX9_readHead_44 (by decide) ?_
  refine lv_iconst (v := (1 : Int32)) hx hb dX9_readHead_45 (by decide) ?_
  obtain ⟨q3, h4, h⟩ := bnd h
  refine cRi (run_V (rest := []) C (kX1_numberBetween hI h4) caX1_numberBetween w733 ⟨rfl, rfl, Nat.le_of_ble_eq_true rfl, Nat.le_of_ble_eq_true rfl⟩ hK hN hP (rX3 hK hP) rfl hl.1 rfl (Nat.le_of_ble_eq_true rfl) dX9_readHead_46 ⟨Nat.zero_le _, Nat.zero_le _⟩) hS (fun H locs hP hS => ?_)
  have hP : va_P D vwCl (GX cy ad tk sp nm tp kp q3.2 se ur ab lo im sy un en ra li i2) H := hP
  refine lv_pop hx hb dX9_readHead_49 rfl ?_
  refine lv_aload_n hx hb dX9_readHead_50 rfl (lv_at hl 0 rfl) ?_
  refine gX8_0 C hK hP w213 dX9_readHead_51 ?_
  refine lv_iconst (v := (1 : Int32)) hx hb dX9_readHead_54 (by decide) ?_
  refine lv_bipush (v := (8 : Int32)) hx hb dX9_readHead_55 (by decide) ?_
  refine lv_bipush (v := (8 : Int32)) hx hb dX9_readHead_57 (by decide) ?_
  obtain ⟨q5, h6, h⟩ := bnd h
  refine cRi (run_V (rest := []) C (kX1_numberBetween hI h6) caX1_numberBetween w733 ⟨rfl, rfl, Nat.le_of_ble_eq_true rfl, Nat.le_of_ble_eq_true rfl⟩ hK hN hP (rX3 hK hP) rfl hl.1 rfl (Nat.le_of_ble_eq_true rfl) dX9_readHead_59 ⟨Nat.zero_le _, Nat.zero_le _⟩) hS (fun H locs hP hS => ?_)
  have hP : va_P D vwCl (GX cy ad tk sp nm tp kp q5.2 se ur ab lo im sy un en ra li i2) H := hP
  refine lv_pop hx hb dX9_readHead_62 rfl ?_
  refine lv_aload_n hx hb dX9_readHead_63 rfl (lv_at hl 0 rfl) ?_
  refine gX8_0 C hK hP w213 dX9_readHead_64 ?_
  refine cPi (run_V (rest := []) C (kX1_place rfl) caX1_place w737 ⟨rfl, rfl, Nat.le_of_ble_eq_true rfl, Nat.le_of_ble_eq_true rfl⟩ hK hN hP (rX3 hK hP) rfl hl.1 rfl (Nat.le_of_ble_eq_true rfl) dX9_readHead_67 ⟨Nat.zero_le _, Nat.zero_le _⟩) ?_
  refine lv_istore_n (lv' := [(2, .int (X1_place q5.2)), (0, .ref (ad 8))]) hx hb dX9_readHead_70 rfl hl (by decide) rfl (fun ls hl => ?_)
  refine lv_aload_n hx hb dX9_readHead_71 rfl (lv_at hl 1 rfl) ?_
  refine gX8_0 C hK hP w213 dX9_readHead_72 ?_
  refine lv_iconst (v := (4 : Int32)) hx hb dX9_readHead_75 (by decide) ?_
  obtain ⟨q7, h8, h⟩ := bnd h
  refine cRl (run_V (rest := []) C (kX1_number hI h8) caX1_number w741 ⟨rfl, rfl, Nat.le_of_ble_eq_true rfl, Nat.le_of_ble_eq_true rfl⟩ hK hN hP (rX3 hK hP) rfl hl.1 rfl (Nat.le_of_ble_eq_true rfl) dX9_readHead_76 ⟨Nat.zero_le _, Nat.zero_le _⟩) hS (fun H locs hP hS => ?_)
  have hP : va_P D vwCl (GX cy ad tk sp nm tp kp q7.2 se ur ab lo im sy un en ra li i2) H := hP
  refine lv_lstore_n (lv' := [(3, .long q7.1), (2, .int (X1_place q5.2)), (0, .ref (ad 8))]) hx hb dX9_readHead_79 rfl hl (by decide) rfl (fun ls hl => ?_)
  refine lv_aload_n hx hb dX9_readHead_80 rfl (lv_at hl 2 rfl) ?_
  refine gX8_1 C hK hP w214 dX9_readHead_81 ?_
  refine lv_iconst (v := (2 : Int32)) hx hb dX9_readHead_84 (by decide) ?_
  refine lv_lload_n hx hb dX9_readHead_85 rfl (lv_at hl 0 rfl) ?_
  refine cPi (run_V (rest := []) C (kX7_isIn rfl) caX7_isIn w742 ⟨rfl, rfl, Nat.le_of_ble_eq_true rfl, Nat.le_of_ble_eq_true rfl⟩ hK hN hP (rX4 hK hP) rfl hl.1 rfl (Nat.le_of_ble_eq_true rfl) dX9_readHead_86 ⟨Nat.zero_le _, Nat.zero_le _⟩) ?_
  refine lv_if_ne (tgt := 103) hx hb dX9_readHead_89 (by decide) (fun c9 => ?_) (fun c9 => ?_)
  · rw [if_neg c9] at h
    refine lv_lload_n hx hb dX9_readHead_103 rfl (lv_at hl 0 rfl) ?_
    obtain rfl := Option.some.inj h
    exact W.lret hx hb hr (fun t ht _ => ⟨rfl, by rw [ht]; exact hP, hS.F ht⟩) hS.2.2 dX9_readHead_104 hlk
  · rw [if_pos c9] at h
    refine lv_aload_n hx hb dX9_readHead_92 rfl (lv_at hl 2 rfl) ?_
    refine gX8_0 C hK hP w213 dX9_readHead_93 ?_
    refine lv_iconst (v := (3 : Int32)) hx hb dX9_readHead_96 (by decide) ?_
    refine lv_iload_n hx hb dX9_readHead_97 rfl (lv_at hl 1 rfl) ?_
    obtain ⟨q10, h11, h⟩ := lets h
    refine cRv (run_V (rest := []) C (kX1_refuse hI h11) caX1_refuse w732 ⟨rfl, rfl, Nat.le_of_ble_eq_true rfl, Nat.le_of_ble_eq_true rfl⟩ hK hN hP (rX3 hK hP) rfl hl.1 rfl (Nat.le_of_ble_eq_true rfl) dX9_readHead_98 ⟨Nat.zero_le _, Nat.zero_le _⟩) hS (fun H locs hP hS => ?_)
    have hP : va_P D vwCl (GX cy ad tk sp nm tp kp q10 se ur ab lo im sy un en ra li i2) H := hP
    refine lv_lconst (v := (0 : Int64)) hx hb dX9_readHead_101 (by decide) ?_
    obtain rfl := Option.some.inj h
    exact W.lret hx hb hr (fun t ht _ => ⟨rfl, by rw [ht]; exact hP, hS.F ht⟩) hS.2.2 dX9_readHead_102 hlk
def X9_readHead (tp : Ttp) (cu : Tcu) (se : Tse) (ur : Tur) (un : Tun)  : Option (Int64 × Tcu) := ((X1_enterCounted tp cu).bind fun q1 => (if (X10_total un) < (20 : Int32) then X9_readHead_28 tp se ur un q1 else (letq (X1_refuse q1 (4 : Int32) ur.2.2.2.2.1) fun q4 => X9_readHead_28 tp se ur un q4)))
set_option maxRecDepth 20000 in
theorem bX9_readHead_0 (C : Cx p s m args meth c cX9_readHead 5 (some .long) RX9 (.code yX9_readHead cX9_readHead 5 (some .long))) (hI : Apart ad 89) (hK : va_K D vwCl (tysX cy) s) (hN : NW s)  {q : Int64 × Tcu}   (h : X9_readHead tp cu se ur un = some q) {ls : Array Slot} (hl : lv_has ls 5 [(0, .ref (ad 8)), (1, .ref (ad 27))]) {H : Heap} {locs : List Loc} (hP : va_P D vwCl (GX cy ad tk sp nm tp kp cu se ur ab lo im sy un en ra li i2) H) (hS : va_S (Ac ad 89) s.heap H locs) : W p l e ({ frames := 3, cells := 0, slots := 0, locals := 77 } : Room) s m args below meth c H locs 0 0 (MQ below (QR (some (.long q.1)) D (GX cy ad tk sp nm tp kp q.2 se ur ab lo im sy un en ra li i2) (Ac ad 89)) args s 0 0 (Ac ad 89)) (F0 m 0 ls []) := by
  obtain ⟨hx, hb, hml, hown, hts, hr, hlk⟩ := id C
  unfold X9_readHead at h
  refine lv_aload_n hx hb dX9_readHead_0 rfl (lv_at hl 0 rfl) ?_
  refine gX8_0 C hK hP w213 dX9_readHead_1 ?_
  obtain ⟨q1, h2, h⟩ := bnd h
  refine cRv (run_V (rest := []) C (kX1_enterCounted hI h2) caX1_enterCounted w713 ⟨rfl, rfl, Nat.le_of_ble_eq_true rfl, Nat.le_of_ble_eq_true rfl⟩ hK hN hP (rX3 hK hP) rfl hl.1 rfl (Nat.le_of_ble_eq_true rfl) dX9_readHead_4 ⟨Nat.zero_le _, Nat.zero_le _⟩) hS (fun H locs hP hS => ?_)
  have hP : va_P D vwCl (GX cy ad tk sp nm tp kp q1 se ur ab lo im sy un en ra li i2) H := hP
  refine lv_aload_n hx hb dX9_readHead_7 rfl (lv_at hl 1 rfl) ?_
  refine cPi (run_V (rest := []) C (kX10_total rfl) caX10_total w728 ⟨rfl, rfl, Nat.le_of_ble_eq_true rfl, Nat.le_of_ble_eq_true rfl⟩ hK hN hP (rX27 hK hP) rfl hl.1 rfl (Nat.le_of_ble_eq_true rfl) dX9_readHead_8 ⟨Nat.zero_le _, Nat.zero_le _⟩) ?_
  refine lv_bipush (v := (20 : Int32)) hx hb dX9_readHead_11 (by decide) ?_
  refine lv_icmp_lt (tgt := 28) hx hb dX9_readHead_13 (by decide) (fun c3 => ?_) (fun c3 => ?_)
  · rw [if_pos c3] at h
    exact bX9_readHead_28 C hI hK hN h (lv_sub hl [0] rfl) hP hS
  · rw [if_neg c3] at h
    refine lv_aload_n hx hb dX9_readHead_16 rfl (lv_at hl 0 rfl) ?_
    refine gX8_0 C hK hP w213 dX9_readHead_17 ?_
    refine lv_iconst (v := (4 : Int32)) hx hb dX9_readHead_20 (by decide) ?_
    refine lv_aload_n hx hb dX9_readHead_21 rfl (lv_at hl 0 rfl) ?_
    refine gX8_7 (v := ur.2.2.2.2.1) C hK hP rfl w220 dX9_readHead_22 ?_
    obtain ⟨q4, h5, h⟩ := lets h
    refine cRv (run_V (rest := []) C (kX1_refuse hI h5) caX1_refuse w732 ⟨rfl, rfl, Nat.le_of_ble_eq_true rfl, Nat.le_of_ble_eq_true rfl⟩ hK hN hP (rX3 hK hP) rfl hl.1 rfl (Nat.le_of_ble_eq_true rfl) dX9_readHead_25 ⟨Nat.zero_le _, Nat.zero_le _⟩) hS (fun H locs hP hS => ?_)
    have hP : va_P D vwCl (GX cy ad tk sp nm tp kp q4 se ur ab lo im sy un en ra li i2) H := hP
    exact bX9_readHead_28 C hI hK hN h (lv_sub hl [0] rfl) hP hS
theorem kX9_readHead (hI : Apart ad 89)  {q : Int64 × Tcu} (h : X9_readHead tp cu se ur un = some q) : Met l yX9_readHead (.code yX9_readHead cX9_readHead 5 (some .long) :: WA) ({ frames := 3, cells := 0, slots := 0, locals := 77 } : Room) (va_Pc [.ref (ad 8), .ref (ad 27)] (PR D cy (GX cy ad tk sp nm tp kp cu se ur ab lo im sy un en ra li i2))) (QR (some (.long q.1)) D (GX cy ad tk sp nm tp kp q.2 se ur ab lo im sy un en ra li i2) (Ac ad 89)) 0 0 (Ac ad 89) :=
  met_of (by decide) (Nat.le_of_ble_eq_true rfl) (fun p e s m below meth c ls C hP hK hN hl => bX9_readHead_0 C hI hK hN h hl hP va_S.rf)
def X9_settleReferences_65 (tp : Ttp) (ur : Tur) (k2 : Tcu → Ten → Int32 → Int32 → Option (Tcu × Ten)) (cu : Tcu) (en : Ten) (v2 : Int32) (v3 : Int32) : Option (Tcu × Ten) := k2 cu en v2 (v3 + (1 : Int32))
set_option maxRecDepth 20000 in
theorem bX9_settleReferences_65 (C : Cx p s m args meth c cX9_settleReferences 5 none RX9 (.code yX9_settleReferences cX9_settleReferences 5 none)) (hI : Apart ad 89) (hK : va_K D vwCl (tysX cy) s) (hN : NW s) {k2 : Tcu → Ten → Int32 → Int32 → Option (Tcu × Ten)} {q : Tcu × Ten} (hk2 : ∀ {cu : Tcu} {en : Ten} {v2 : Int32} {v3 : Int32}, k2 cu en v2 v3 = some q → ∀ {ls : Array Slot}, lv_has ls 5 [(0, .ref (ad 8)), (1, .ref (ad 34)), (2, .int v2), (3, .int v3)] → ∀ {H : Heap} {locs : List Loc}, va_P D vwCl (GX cy ad tk sp nm tp kp cu se ur ab lo im sy un en ra li i2) H → va_S (Ac ad 89) s.heap H locs → W p l e ({ frames := 4, cells := 0, slots := 0, locals := 94 } : Room) s m args below meth c H locs 0 0 (MQ below (QR none D (GX cy ad tk sp nm tp kp q.1 se ur ab lo im sy un q.2 ra li i2) (Ac ad 89)) args s 0 0 (Ac ad 89)) (F0 m 2 ls [])) {v2 : Int32} {v3 : Int32} (h : X9_settleReferences_65 tp ur k2 cu en v2 v3 = some q) {ls : Array Slot} (hl : lv_has ls 5 [(0, .ref (ad 8)), (1, .ref (ad 34)), (2, .int v2), (3, .int v3)]) {H : Heap} {locs : List Loc} (hP : va_P D vwCl (GX cy ad tk sp nm tp kp cu se ur ab lo im sy un en ra li i2) H) (hS : va_S (Ac ad 89) s.heap H locs) : W p l e ({ frames := 4, cells := 0, slots := 0, locals := 94 } : Room) s m args below meth c H locs 0 0 (MQ below (QR none D (GX cy ad tk sp nm tp kp q.1 se ur ab lo im sy un q.2 ra li i2) (Ac ad 89)) args s 0 0 (Ac ad 89)) (F0 m 65 ls []) := by
  obtain ⟨hx, hb, hml, hown, hts, hr, hlk⟩ := id C
  unfold X9_settleReferences_65 at h
  refine lv_iinc (v := (v3 + (1 : Int32))) (lv' := [(3, .int (v3 + (1 : Int32))), (0, .ref (ad 8)), (1, .ref (ad 34)), (2, .int v2)]) hx hb dX9_settleReferences_65 hl (k := 3) rfl rfl (by decide) rfl (fun ls hl => ?_)
  refine lv_goto (tgt := 2) hx hb dX9_settleReferences_68 (by decide) ?_
  exact hk2 h (lv_sub hl [1, 2, 3, 0] rfl) hP hS
def X9_settleReferences_73b (tp : Ttp) (ur : Tur)  (k73 : Tcu → Ten → Int32 → Int32 → Option (Tcu × Ten)) (cu : Tcu) (en : Ten) (v2 : Int32) (v3 : Int32) : Option (Tcu × Ten) := (if v3 < (X2_total en) then (if (X1_sound cu) = 0 then some (cu, en) else ((X2_settleOrigin en v3 v2).bind fun q3 => k73 cu q3 v2 (v3 + (1 : Int32)))) else some (cu, en))
def X9_settleReferences_73 (tp : Ttp) (ur : Tur)  (n : Nat) (st : Tcu × Ten × Int32 × Int32) : Option (Tcu × Ten) := lp (fun rec st => X9_settleReferences_73b tp ur  (fun a0 a1 a2 a3 => rec (a0, a1, a2, a3)) st.1 st.2.1 st.2.2.1 st.2.2.2) n st
set_option maxRecDepth 20000 in
theorem bX9_settleReferences_73 (C : Cx p s m args meth c cX9_settleReferences 5 none RX9 (.code yX9_settleReferences cX9_settleReferences 5 none)) (hI : Apart ad 89) (hK : va_K D vwCl (tysX cy) s) (hN : NW s)  {q : Tcu × Ten}  : ∀ (n : Nat) {cu : Tcu} {en : Ten} {v2 : Int32} {v3 : Int32}, X9_settleReferences_73 tp ur  n (cu, en, v2, v3) = some q → ∀ {ls : Array Slot}, lv_has ls 5 [(0, .ref (ad 8)), (1, .ref (ad 34)), (2, .int v2), (3, .int v3)] → ∀ {H : Heap} {locs : List Loc}, va_P D vwCl (GX cy ad tk sp nm tp kp cu se ur ab lo im sy un en ra li i2) H → va_S (Ac ad 89) s.heap H locs → W p l e ({ frames := 4, cells := 0, slots := 0, locals := 94 } : Room) s m args below meth c H locs 0 0 (MQ below (QR none D (GX cy ad tk sp nm tp kp q.1 se ur ab lo im sy un q.2 ra li i2) (Ac ad 89)) args s 0 0 (Ac ad 89)) (F0 m 73 ls []) := by
  obtain ⟨hx, hb, hml, hown, hts, hr, hlk⟩ := id C
  intro n
  induction n with
  | zero =>
    intro cu en v2 v3 h ls hl H locs hP hS
    have h : (none : Option (Tcu × Ten)) = some q := h
    cases h
  | succ n ih =>
    intro cu en v2 v3 h ls hl H locs hP hS
    have h : X9_settleReferences_73b tp ur  (fun a0 a1 a2 a3 => X9_settleReferences_73 tp ur  n (a0, a1, a2, a3)) cu en v2 v3 = some q := h
    unfold X9_settleReferences_73b at h
    refine lv_iload_n hx hb dX9_settleReferences_73 rfl (lv_at hl 3 rfl) ?_
    refine lv_aload_n hx hb dX9_settleReferences_74 rfl (lv_at hl 1 rfl) ?_
    refine cPi (run_V (rest := [.int v3]) C (kX2_total rfl) caX2_total w752 ⟨rfl, rfl, Nat.le_of_ble_eq_true rfl, Nat.le_of_ble_eq_true rfl⟩ hK hN hP (rX34 hK hP) rfl hl.1 rfl (Nat.le_of_ble_eq_true rfl) dX9_settleReferences_75 ⟨Nat.zero_le _, Nat.zero_le _⟩) ?_
    refine b_icmp_ge (tgt := 103) hx hb dX9_settleReferences_78 (by decide) (fun c1 => ?_) (fun c1 => ?_)
    · rw [if_neg c1] at h
      obtain rfl := Option.some.inj h
      exact W.vret hx hb hr (fun t ht _ => ⟨rfl, by rw [ht]; exact hP, hS.F ht⟩) hS.2.2 dX9_settleReferences_103 hlk
    · rw [if_pos c1] at h
      refine lv_aload_n hx hb dX9_settleReferences_81 rfl (lv_at hl 0 rfl) ?_
      refine gX8_0 C hK hP w213 dX9_settleReferences_82 ?_
      refine cPi (run_V (rest := []) C (kX1_sound rfl) caX1_sound w707 ⟨rfl, rfl, Nat.le_of_ble_eq_true rfl, Nat.le_of_ble_eq_true rfl⟩ hK hN hP (rX3 hK hP) rfl hl.1 rfl (Nat.le_of_ble_eq_true rfl) dX9_settleReferences_85 ⟨Nat.zero_le _, Nat.zero_le _⟩) ?_
      refine lv_if_eq (tgt := 103) hx hb dX9_settleReferences_88 (by decide) (fun c2 => ?_) (fun c2 => ?_)
      · rw [if_pos c2] at h
        obtain rfl := Option.some.inj h
        exact W.vret hx hb hr (fun t ht _ => ⟨rfl, by rw [ht]; exact hP, hS.F ht⟩) hS.2.2 dX9_settleReferences_103 hlk
      · rw [if_neg c2] at h
        refine lv_aload_n hx hb dX9_settleReferences_91 rfl (lv_at hl 1 rfl) ?_
        refine lv_iload_n hx hb dX9_settleReferences_92 rfl (lv_at hl 3 rfl) ?_
        refine lv_iload_n hx hb dX9_settleReferences_93 rfl (lv_at hl 2 rfl) ?_
        obtain ⟨q3, h4, h⟩ := bnd h
        refine cRv (run_V (rest := []) C (kX2_settleOrigin hI h4) caX2_settleOrigin w925 ⟨rfl, rfl, Nat.le_of_ble_eq_true rfl, Nat.le_of_ble_eq_true rfl⟩ hK hN hP (rX34 hK hP) rfl hl.1 rfl (Nat.le_of_ble_eq_true rfl) dX9_settleReferences_94 ⟨Nat.zero_le _, Nat.zero_le _⟩) hS (fun H locs hP hS => ?_)
        have hP : va_P D vwCl (GX cy ad tk sp nm tp kp cu se ur ab lo im sy un q3 ra li i2) H := hP
        refine lv_iinc (v := (v3 + (1 : Int32))) (lv' := [(3, .int (v3 + (1 : Int32))), (0, .ref (ad 8)), (1, .ref (ad 34)), (2, .int v2)]) hx hb dX9_settleReferences_97 hl (k := 3) rfl rfl (by decide) rfl (fun ls hl => ?_)
        refine lv_goto (tgt := 73) hx hb dX9_settleReferences_100 (by decide) ?_
        exact ih h (lv_sub hl [1, 2, 3, 0] rfl) hP hS
def X9_settleReferences_71 (tp : Ttp) (ur : Tur)  (cu : Tcu) (en : Ten) (v2 : Int32) : Option (Tcu × Ten) := X9_settleReferences_73 tp ur FU (cu, en, v2, v2)
set_option maxRecDepth 20000 in
theorem bX9_settleReferences_71 (C : Cx p s m args meth c cX9_settleReferences 5 none RX9 (.code yX9_settleReferences cX9_settleReferences 5 none)) (hI : Apart ad 89) (hK : va_K D vwCl (tysX cy) s) (hN : NW s)  {q : Tcu × Ten}  {v2 : Int32} (h : X9_settleReferences_71 tp ur cu en v2 = some q) {ls : Array Slot} (hl : lv_has ls 5 [(0, .ref (ad 8)), (1, .ref (ad 34)), (2, .int v2)]) {H : Heap} {locs : List Loc} (hP : va_P D vwCl (GX cy ad tk sp nm tp kp cu se ur ab lo im sy un en ra li i2) H) (hS : va_S (Ac ad 89) s.heap H locs) : W p l e ({ frames := 4, cells := 0, slots := 0, locals := 94 } : Room) s m args below meth c H locs 0 0 (MQ below (QR none D (GX cy ad tk sp nm tp kp q.1 se ur ab lo im sy un q.2 ra li i2) (Ac ad 89)) args s 0 0 (Ac ad 89)) (F0 m 71 ls []) := by
  obtain ⟨hx, hb, hml, hown, hts, hr, hlk⟩ := id C
  unfold X9_settleReferences_71 at h
  refine lv_iload_n hx hb dX9_settleReferences_71 rfl (lv_at hl 2 rfl) ?_
  refine lv_istore_n (lv' := [(3, .int v2), (0, .ref (ad 8)), (1, .ref (ad 34)), (2, .int v2)]) hx hb dX9_settleReferences_72 rfl hl (by decide) rfl (fun ls hl => ?_)
  exact bX9_settleReferences_73 C hI hK hN FU h (lv_sub hl [1, 2, 3, 0] rfl) hP hS
def X9_settleReferences_2b (tp : Ttp) (ur : Tur)  (k2 : Tcu → Ten → Int32 → Int32 → Option (Tcu × Ten)) (cu : Tcu) (en : Ten) (v2 : Int32) (v3 : Int32) : Option (Tcu × Ten) := (if v3 < ur.2.2.2.1 then (if (X1_sound cu) = 0 then X9_settleReferences_71 tp ur cu en v2 else ((X1_numberAt tp (at_i 2000 ur.2.2.1 v3) (4 : Int32)).bind fun q3 => ((X2_placedAt en (((ur.2.2.2.2.1).toInt64) + q3) v2).bind fun q5 => (if q5 = (-1 : Int32) then (letq (X1_refuse cu (3 : Int32) (at_i 2000 ur.2.2.1 v3)) fun q8 => X9_settleReferences_65 tp ur k2 q8 en v2 v3) else X9_settleReferences_65 tp ur k2 cu en v2 v3)))) else X9_settleReferences_71 tp ur cu en v2)
def X9_settleReferences_2 (tp : Ttp) (ur : Tur)  (n : Nat) (st : Tcu × Ten × Int32 × Int32) : Option (Tcu × Ten) := lp (fun rec st => X9_settleReferences_2b tp ur  (fun a0 a1 a2 a3 => rec (a0, a1, a2, a3)) st.1 st.2.1 st.2.2.1 st.2.2.2) n st
set_option maxRecDepth 20000 in
theorem bX9_settleReferences_2 (C : Cx p s m args meth c cX9_settleReferences 5 none RX9 (.code yX9_settleReferences cX9_settleReferences 5 none)) (hI : Apart ad 89) (hK : va_K D vwCl (tysX cy) s) (hN : NW s)  {q : Tcu × Ten}  : ∀ (n : Nat) {cu : Tcu} {en : Ten} {v2 : Int32} {v3 : Int32}, X9_settleReferences_2 tp ur  n (cu, en, v2, v3) = some q → ∀ {ls : Array Slot}, lv_has ls 5 [(0, .ref (ad 8)), (1, .ref (ad 34)), (2, .int v2), (3, .int v3)] → ∀ {H : Heap} {locs : List Loc}, va_P D vwCl (GX cy ad tk sp nm tp kp cu se ur ab lo im sy un en ra li i2) H → va_S (Ac ad 89) s.heap H locs → W p l e ({ frames := 4, cells := 0, slots := 0, locals := 94 } : Room) s m args below meth c H locs 0 0 (MQ below (QR none D (GX cy ad tk sp nm tp kp q.1 se ur ab lo im sy un q.2 ra li i2) (Ac ad 89)) args s 0 0 (Ac ad 89)) (F0 m 2 ls []) := by
  obtain ⟨hx, hb, hml, hown, hts, hr, hlk⟩ := id C
  intro n
  induction n with
  | zero =>
    intro cu en v2 v3 h ls hl H locs hP hS
    have h : (none : Option (Tcu × Ten)) = some q := h
    cases h
  | succ n ih =>
    intro cu en v2 v3 h ls hl H locs hP hS
    have h : X9_settleReferences_2b tp ur  (fun a0 a1 a2 a3 => X9_settleReferences_2 tp ur  n (a0, a1, a2, a3)) cu en v2 v3 = some q := h
    unfold X9_settleReferences_2b at h
    refine lv_iload_n hx hb dX9_settleReferences_2 rfl (lv_at hl 3 rfl) ?_
    refine lv_aload_n hx hb dX9_settleReferences_3 rfl (lv_at hl 0 rfl) ?_
    refine gX8_6 (v := ur.2.2.2.1) C hK hP rfl w219 dX9_settleReferences_4 ?_
    refine b_icmp_ge (tgt := 71) hx hb dX9_settleReferences_7 (by decide) (fun c1 => ?_) (fun c1 => ?_)
    · rw [if_neg c1] at h
      exact bX9_settleReferences_71 C hI hK hN h (lv_sub hl [0, 1, 2] rfl) hP hS
    · rw [if_pos c1] at h
      refine lv_aload_n hx hb dX9_settleReferences_10 rfl (lv_at hl 0 rfl) ?_
      refine gX8_0 C hK hP w213 dX9_settleReferences_11 ?_
      refine cPi (run_V (rest := []) C (kX1_sound rfl) caX1_sound w707 ⟨rfl, rfl, Nat.le_of_ble_eq_true rfl, Nat.le_of_ble_eq_true rfl⟩ hK hN hP (rX3 hK hP) rfl hl.1 rfl (Nat.le_of_ble_eq_true rfl) dX9_settleReferences_14 ⟨Nat.zero_le _, Nat.zero_le _⟩) ?_
      refine lv_if_eq (tgt := 71) hx hb dX9_settleReferences_17 (by decide) (fun c2 => ?_) (fun c2 => ?_)
      · rw [if_pos c2] at h
        exact bX9_settleReferences_71 C hI hK hN h (lv_sub hl [0, 1, 2] rfl) hP hS
      · rw [if_neg c2] at h
        refine lv_aload_n hx hb dX9_settleReferences_20 rfl (lv_at hl 0 rfl) ?_
        refine gX8_5 C hK hP w218 dX9_settleReferences_21 ?_
        refine lv_iload_n hx hb dX9_settleReferences_24 rfl (lv_at hl 3 rfl) ?_
        refine xat_i (rest := []) C hK hN hP eX10 (Nat.le_of_ble_eq_true rfl) w812 hl.1 (Nat.le_of_ble_eq_true rfl) dX9_settleReferences_25 ⟨Nat.le_of_ble_eq_true rfl, Nat.le_of_ble_eq_true rfl⟩ ⟨Nat.zero_le _, Nat.zero_le _⟩ ?_
        refine lv_istore (lv' := [(4, .int (at_i 2000 ur.2.2.1 v3)), (0, .ref (ad 8)), (1, .ref (ad 34)), (2, .int v2), (3, .int v3)]) hx hb dX9_settleReferences_28 hl (by decide) rfl (fun ls hl => ?_)
        refine lv_aload_n hx hb dX9_settleReferences_30 rfl (lv_at hl 2 rfl) ?_
        refine lv_aload_n hx hb dX9_settleReferences_31 rfl (lv_at hl 1 rfl) ?_
        refine gX8_7 (v := ur.2.2.2.2.1) C hK hP rfl w220 dX9_settleReferences_32 ?_
        refine lv_i2l (v := ((ur.2.2.2.2.1).toInt64)) hx hb dX9_settleReferences_35 rfl ?_
        refine lv_aload_n hx hb dX9_settleReferences_36 rfl (lv_at hl 1 rfl) ?_
        refine gX8_0 C hK hP w213 dX9_settleReferences_37 ?_
        refine lv_iload hx hb dX9_settleReferences_40 (lv_at hl 0 rfl) ?_
        refine lv_iconst (v := (4 : Int32)) hx hb dX9_settleReferences_42 (by decide) ?_
        obtain ⟨q3, h4, h⟩ := bnd h
        refine cPl (run_V (rest := [.long ((ur.2.2.2.2.1).toInt64), .ref (ad 34)]) C (kX1_numberAt h4) caX1_numberAt w916 ⟨rfl, rfl, Nat.le_of_ble_eq_true rfl, Nat.le_of_ble_eq_true rfl⟩ hK hN hP (rX3 hK hP) rfl hl.1 rfl (Nat.le_of_ble_eq_true rfl) dX9_settleReferences_43 ⟨Nat.zero_le _, Nat.zero_le _⟩) ?_
        refine lv_ladd hx hb dX9_settleReferences_46 ?_
        refine lv_iload_n hx hb dX9_settleReferences_47 rfl (lv_at hl 3 rfl) ?_
        obtain ⟨q5, h6, h⟩ := bnd h
        refine cPi (run_V (rest := []) C (kX2_placedAt h6) caX2_placedAt w917 ⟨rfl, rfl, Nat.le_of_ble_eq_true rfl, Nat.le_of_ble_eq_true rfl⟩ hK hN hP (rX34 hK hP) rfl hl.1 rfl (Nat.le_of_ble_eq_true rfl) dX9_settleReferences_48 ⟨Nat.zero_le _, Nat.zero_le _⟩) ?_
        refine lv_iconst (v := (-1 : Int32)) hx hb dX9_settleReferences_51 (by decide) ?_
        refine lv_icmp_ne (tgt := 65) hx hb dX9_settleReferences_52 (by decide) (fun c7 => ?_) (fun c7 => ?_)
        · rw [if_neg c7] at h
          exact bX9_settleReferences_65 C hI hK hN @ih h (lv_sub hl [1, 2, 3, 4] rfl) hP hS
        · rw [if_pos c7] at h
          refine lv_aload_n hx hb dX9_settleReferences_55 rfl (lv_at hl 1 rfl) ?_
          refine gX8_0 C hK hP w213 dX9_settleReferences_56 ?_
          refine lv_iconst (v := (3 : Int32)) hx hb dX9_settleReferences_59 (by decide) ?_
          refine lv_iload hx hb dX9_settleReferences_60 (lv_at hl 0 rfl) ?_
          obtain ⟨q8, h9, h⟩ := lets h
          refine cRv (run_V (rest := []) C (kX1_refuse hI h9) caX1_refuse w732 ⟨rfl, rfl, Nat.le_of_ble_eq_true rfl, Nat.le_of_ble_eq_true rfl⟩ hK hN hP (rX3 hK hP) rfl hl.1 rfl (Nat.le_of_ble_eq_true rfl) dX9_settleReferences_62 ⟨Nat.zero_le _, Nat.zero_le _⟩) hS (fun H locs hP hS => ?_)
          have hP : va_P D vwCl (GX cy ad tk sp nm tp kp q8 se ur ab lo im sy un en ra li i2) H := hP
          exact bX9_settleReferences_65 C hI hK hN @ih h (lv_sub hl [1, 2, 3, 4] rfl) hP hS
def X9_settleReferences (tp : Ttp) (cu : Tcu) (ur : Tur) (en : Ten) (v2 : Int32) : Option (Tcu × Ten) := X9_settleReferences_2 tp ur FU (cu, en, v2, (0 : Int32))
set_option maxRecDepth 20000 in
theorem bX9_settleReferences_0 (C : Cx p s m args meth c cX9_settleReferences 5 none RX9 (.code yX9_settleReferences cX9_settleReferences 5 none)) (hI : Apart ad 89) (hK : va_K D vwCl (tysX cy) s) (hN : NW s)  {q : Tcu × Ten}  {v2 : Int32} (h : X9_settleReferences tp cu ur en v2 = some q) {ls : Array Slot} (hl : lv_has ls 5 [(0, .ref (ad 8)), (1, .ref (ad 34)), (2, .int v2)]) {H : Heap} {locs : List Loc} (hP : va_P D vwCl (GX cy ad tk sp nm tp kp cu se ur ab lo im sy un en ra li i2) H) (hS : va_S (Ac ad 89) s.heap H locs) : W p l e ({ frames := 4, cells := 0, slots := 0, locals := 94 } : Room) s m args below meth c H locs 0 0 (MQ below (QR none D (GX cy ad tk sp nm tp kp q.1 se ur ab lo im sy un q.2 ra li i2) (Ac ad 89)) args s 0 0 (Ac ad 89)) (F0 m 0 ls []) := by
  obtain ⟨hx, hb, hml, hown, hts, hr, hlk⟩ := id C
  unfold X9_settleReferences at h
  refine lv_iconst (v := (0 : Int32)) hx hb dX9_settleReferences_0 (by decide) ?_
  refine lv_istore_n (lv' := [(3, .int (0 : Int32)), (0, .ref (ad 8)), (1, .ref (ad 34)), (2, .int v2)]) hx hb dX9_settleReferences_1 rfl hl (by decide) rfl (fun ls hl => ?_)
  exact bX9_settleReferences_2 C hI hK hN FU h (lv_sub hl [1, 2, 3, 0] rfl) hP hS
theorem kX9_settleReferences (hI : Apart ad 89) {v2 : Int32} {q : Tcu × Ten} (h : X9_settleReferences tp cu ur en v2 = some q) : Met l yX9_settleReferences (.code yX9_settleReferences cX9_settleReferences 5 none :: WA) ({ frames := 4, cells := 0, slots := 0, locals := 94 } : Room) (va_Pc [.ref (ad 8), .ref (ad 34), .int v2] (PR D cy (GX cy ad tk sp nm tp kp cu se ur ab lo im sy un en ra li i2))) (QR none D (GX cy ad tk sp nm tp kp q.1 se ur ab lo im sy un q.2 ra li i2) (Ac ad 89)) 0 0 (Ac ad 89) :=
  met_of (by decide) (Nat.le_of_ble_eq_true rfl) (fun p e s m below meth c ls C hP hK hN hl => bX9_settleReferences_0 C hI hK hN h hl hP va_S.rf)
def X9_readAll_37b (tp : Ttp) (se : Tse)  (k37 : Tcu → Tur → Tab → Tun → Ten → Int32 → Int32 → Option (Tcu × Tur × Tab × Tun × Ten)) (cu : Tcu) (ur : Tur) (ab : Tab) (un : Tun) (en : Ten) (v2 : Int32) (v3 : Int32) : Option (Tcu × Tur × Tab × Tun × Ten) := (if (20 : Int32) < v3 then some (cu, ur, ab, un, en) else (if ur.2.2.2.2.1 < v2 then (if (X1_sound cu) = 0 then some (cu, ur, ab, un, en) else (letq (X1_within cu ur.2.2.2.2.1 v2) fun q4 => ((X9_readHead tp q4 se ur un).bind fun q6 => (letq (X10_add un ur.2.2.2.2.1 (X2_total en)) fun q8 => (letq (X1_within q6.2 ((X7_beginOf se (2 : Int32)) + ((q6.1).toInt32)) (X7_stopOf se (2 : Int32))) fun q10 => ((X0_read tp q10 ab).bind fun q12 => (letq (X1_within q12.1 (X1_place q6.2) (X1_stop q6.2)) fun q14 => ((X9_readEntries tp q14 se ur q12.2 en q8.1).bind fun q16 => ((X9_settleReferences tp q16.1 q16.2.1 q16.2.2 (X2_total en)).bind fun q18 => k37 q18.1 (q16.2.1.1, q16.2.1.2.1, q16.2.1.2.2.1, q16.2.1.2.2.2.1, (X1_stop q6.2), q16.2.1.2.2.2.2.2.1, q16.2.1.2.2.2.2.2.2) q12.2 q8.2 q18.2 v2 (v3 + (1 : Int32))))))))))) else some (cu, ur, ab, un, en)))
def X9_readAll_37 (tp : Ttp) (se : Tse)  (n : Nat) (st : Tcu × Tur × Tab × Tun × Ten × Int32 × Int32) : Option (Tcu × Tur × Tab × Tun × Ten) := lp (fun rec st => X9_readAll_37b tp se  (fun a0 a1 a2 a3 a4 a5 a6 => rec (a0, a1, a2, a3, a4, a5, a6)) st.1 st.2.1 st.2.2.1 st.2.2.2.1 st.2.2.2.2.1 st.2.2.2.2.2.1 st.2.2.2.2.2.2) n st
set_option maxRecDepth 20000 in
theorem bX9_readAll_37 (C : Cx p s m args meth c cX9_readAll 10 none RX9 (.code yX9_readAll cX9_readAll 10 none)) (hI : Apart ad 89) (hK : va_K D vwCl (tysX cy) s) (hN : NW s)  {q : Tcu × Tur × Tab × Tun × Ten}  : ∀ (n : Nat) {cu : Tcu} {ur : Tur} {ab : Tab} {un : Tun} {en : Ten} {v2 : Int32} {v3 : Int32}, X9_readAll_37 tp se  n (cu, ur, ab, un, en, v2, v3) = some q → ∀ {ls : Array Slot}, lv_has ls 10 [(0, .ref (ad 8)), (1, .ref (ad 21)), (2, .int v2), (3, .int v3)] → ∀ {H : Heap} {locs : List Loc}, va_P D vwCl (GX cy ad tk sp nm tp kp cu se ur ab lo im sy un en ra li i2) H → va_S (Ac ad 89) s.heap H locs → W p l e ({ frames := 6, cells := 0, slots := 0, locals := 162 } : Room) s m args below meth c H locs 0 0 (MQ below (QR none D (GX cy ad tk sp nm tp kp q.1 se q.2.1 q.2.2.1 lo im sy q.2.2.2.1 q.2.2.2.2 ra li i2) (Ac ad 89)) args s 0 0 (Ac ad 89)) (F0 m 37 ls []) := by
  obtain ⟨hx, hb, hml, hown, hts, hr, hlk⟩ := id C
  intro n
  induction n with
  | zero =>
    intro cu ur ab un en v2 v3 h ls hl H locs hP hS
    have h : (none : Option (Tcu × Tur × Tab × Tun × Ten)) = some q := h
    cases h
  | succ n ih =>
    intro cu ur ab un en v2 v3 h ls hl H locs hP hS
    have h : X9_readAll_37b tp se  (fun a0 a1 a2 a3 a4 a5 a6 => X9_readAll_37 tp se  n (a0, a1, a2, a3, a4, a5, a6)) cu ur ab un en v2 v3 = some q := h
    unfold X9_readAll_37b at h
    refine lv_iload_n hx hb dX9_readAll_37 rfl (lv_at hl 3 rfl) ?_
    refine lv_bipush (v := (20 : Int32)) hx hb dX9_readAll_38 (by decide) ?_
    refine lv_icmp_gt (tgt := 206) hx hb dX9_readAll_40 (by decide) (fun c1 => ?_) (fun c1 => ?_)
    · rw [if_pos c1] at h
      obtain rfl := Option.some.inj h
      exact W.vret hx hb hr (fun t ht _ => ⟨rfl, by rw [ht]; exact hP, hS.F ht⟩) hS.2.2 dX9_readAll_206 hlk
    · rw [if_neg c1] at h
      refine lv_aload_n hx hb dX9_readAll_43 rfl (lv_at hl 0 rfl) ?_
      refine gX8_7 (v := ur.2.2.2.2.1) C hK hP rfl w220 dX9_readAll_44 ?_
      refine lv_iload_n hx hb dX9_readAll_47 rfl (lv_at hl 2 rfl) ?_
      refine b_icmp_ge (tgt := 206) hx hb dX9_readAll_48 (by decide) (fun c2 => ?_) (fun c2 => ?_)
      · rw [if_neg c2] at h
        obtain rfl := Option.some.inj h
        exact W.vret hx hb hr (fun t ht _ => ⟨rfl, by rw [ht]; exact hP, hS.F ht⟩) hS.2.2 dX9_readAll_206 hlk
      · rw [if_pos c2] at h
        refine lv_aload_n hx hb dX9_readAll_51 rfl (lv_at hl 0 rfl) ?_
        refine gX8_0 C hK hP w213 dX9_readAll_52 ?_
        refine cPi (run_V (rest := []) C (kX1_sound rfl) caX1_sound w707 ⟨rfl, rfl, Nat.le_of_ble_eq_true rfl, Nat.le_of_ble_eq_true rfl⟩ hK hN hP (rX3 hK hP) rfl hl.1 rfl (Nat.le_of_ble_eq_true rfl) dX9_readAll_55 ⟨Nat.zero_le _, Nat.zero_le _⟩) ?_
        refine lv_if_eq (tgt := 206) hx hb dX9_readAll_58 (by decide) (fun c3 => ?_) (fun c3 => ?_)
        · rw [if_pos c3] at h
          obtain rfl := Option.some.inj h
          exact W.vret hx hb hr (fun t ht _ => ⟨rfl, by rw [ht]; exact hP, hS.F ht⟩) hS.2.2 dX9_readAll_206 hlk
        · rw [if_neg c3] at h
          refine lv_aload_n hx hb dX9_readAll_61 rfl (lv_at hl 0 rfl) ?_
          refine gX8_0 C hK hP w213 dX9_readAll_62 ?_
          refine lv_aload_n hx hb dX9_readAll_65 rfl (lv_at hl 0 rfl) ?_
          refine gX8_7 (v := ur.2.2.2.2.1) C hK hP rfl w220 dX9_readAll_66 ?_
          refine lv_iload_n hx hb dX9_readAll_69 rfl (lv_at hl 2 rfl) ?_
          obtain ⟨q4, h5, h⟩ := lets h
          refine cRv (run_V (rest := []) C (kX1_within hI h5) caX1_within w708 ⟨rfl, rfl, Nat.le_of_ble_eq_true rfl, Nat.le_of_ble_eq_true rfl⟩ hK hN hP (rX3 hK hP) rfl hl.1 rfl (Nat.le_of_ble_eq_true rfl) dX9_readAll_70 ⟨Nat.zero_le _, Nat.zero_le _⟩) hS (fun H locs hP hS => ?_)
          have hP : va_P D vwCl (GX cy ad tk sp nm tp kp q4 se ur ab lo im sy un en ra li i2) H := hP
          refine lv_aload_n hx hb dX9_readAll_73 rfl (lv_at hl 0 rfl) ?_
          refine lv_aload_n hx hb dX9_readAll_74 rfl (lv_at hl 1 rfl) ?_
          refine gX21_1N C hK hP hN w452 dX9_readAll_75 ?_
          obtain ⟨q6, h7, h⟩ := bnd h
          refine cRl (run_V (rest := []) C (kX9_readHead hI h7) caX9_readHead w709 ⟨rfl, rfl, Nat.le_of_ble_eq_true rfl, Nat.le_of_ble_eq_true rfl⟩ hK hN hP (rX8 hK hP) rfl hl.1 rfl (Nat.le_of_ble_eq_true rfl) dX9_readAll_78 ⟨Nat.zero_le _, Nat.zero_le _⟩) hS (fun H locs hP hS => ?_)
          have hP : va_P D vwCl (GX cy ad tk sp nm tp kp q6.2 se ur ab lo im sy un en ra li i2) H := hP
          refine lv_lstore (lv' := [(4, .long q6.1), (0, .ref (ad 8)), (1, .ref (ad 21)), (2, .int v2), (3, .int v3)]) hx hb dX9_readAll_81 hl (by decide) rfl (fun ls hl => ?_)
          refine lv_aload_n hx hb dX9_readAll_83 rfl (lv_at hl 1 rfl) ?_
          refine gX8_0 C hK hP w213 dX9_readAll_84 ?_
          refine cPi (run_V (rest := []) C (kX1_place rfl) caX1_place w737 ⟨rfl, rfl, Nat.le_of_ble_eq_true rfl, Nat.le_of_ble_eq_true rfl⟩ hK hN hP (rX3 hK hP) rfl hl.1 rfl (Nat.le_of_ble_eq_true rfl) dX9_readAll_87 ⟨Nat.zero_le _, Nat.zero_le _⟩) ?_
          refine lv_istore (lv' := [(6, .int (X1_place q6.2)), (4, .long q6.1), (0, .ref (ad 8)), (1, .ref (ad 21)), (2, .int v2), (3, .int v3)]) hx hb dX9_readAll_90 hl (by decide) rfl (fun ls hl => ?_)
          refine lv_aload_n hx hb dX9_readAll_92 rfl (lv_at hl 2 rfl) ?_
          refine gX8_0 C hK hP w213 dX9_readAll_93 ?_
          refine cPi (run_V (rest := []) C (kX1_stop rfl) caX1_stop w748 ⟨rfl, rfl, Nat.le_of_ble_eq_true rfl, Nat.le_of_ble_eq_true rfl⟩ hK hN hP (rX3 hK hP) rfl hl.1 rfl (Nat.le_of_ble_eq_true rfl) dX9_readAll_96 ⟨Nat.zero_le _, Nat.zero_le _⟩) ?_
          refine lv_istore (lv' := [(7, .int (X1_stop q6.2)), (6, .int (X1_place q6.2)), (4, .long q6.1), (0, .ref (ad 8)), (1, .ref (ad 21)), (2, .int v2), (3, .int v3)]) hx hb dX9_readAll_99 hl (by decide) rfl (fun ls hl => ?_)
          refine lv_aload_n hx hb dX9_readAll_101 rfl (lv_at hl 4 rfl) ?_
          refine gX21_2N C hK hP hN w459 dX9_readAll_102 ?_
          refine cPi (run_V (rest := []) C (kX2_total rfl) caX2_total w752 ⟨rfl, rfl, Nat.le_of_ble_eq_true rfl, Nat.le_of_ble_eq_true rfl⟩ hK hN hP (rX34 hK hP) rfl hl.1 rfl (Nat.le_of_ble_eq_true rfl) dX9_readAll_105 ⟨Nat.zero_le _, Nat.zero_le _⟩) ?_
          refine lv_istore (lv' := [(8, .int (X2_total en)), (7, .int (X1_stop q6.2)), (6, .int (X1_place q6.2)), (4, .long q6.1), (0, .ref (ad 8)), (1, .ref (ad 21)), (2, .int v2), (3, .int v3)]) hx hb dX9_readAll_108 hl (by decide) rfl (fun ls hl => ?_)
          refine lv_aload_n hx hb dX9_readAll_110 rfl (lv_at hl 5 rfl) ?_
          refine gX21_1N C hK hP hN w452 dX9_readAll_111 ?_
          refine lv_aload_n hx hb dX9_readAll_114 rfl (lv_at hl 4 rfl) ?_
          refine gX8_7 (v := ur.2.2.2.2.1) C hK hP rfl w220 dX9_readAll_115 ?_
          refine lv_iload hx hb dX9_readAll_118 (lv_at hl 0 rfl) ?_
          obtain ⟨q8, h9, h⟩ := lets h
          refine cRi (run_V (rest := []) C (kX10_add hI h9) caX10_add w756 ⟨rfl, rfl, Nat.le_of_ble_eq_true rfl, Nat.le_of_ble_eq_true rfl⟩ hK hN hP (rX27 hK hP) rfl hl.1 rfl (Nat.le_of_ble_eq_true rfl) dX9_readAll_120 ⟨Nat.zero_le _, Nat.zero_le _⟩) hS (fun H locs hP hS => ?_)
          have hP : va_P D vwCl (GX cy ad tk sp nm tp kp q6.2 se ur ab lo im sy q8.2 en ra li i2) H := hP
          refine lv_istore (lv' := [(9, .int q8.1), (8, .int (X2_total en)), (7, .int (X1_stop q6.2)), (6, .int (X1_place q6.2)), (4, .long q6.1), (0, .ref (ad 8)), (1, .ref (ad 21)), (2, .int v2), (3, .int v3)]) hx hb dX9_readAll_123 hl (by decide) rfl (fun ls hl => ?_)
          refine lv_aload_n hx hb dX9_readAll_125 rfl (lv_at hl 5 rfl) ?_
          refine gX8_0 C hK hP w213 dX9_readAll_126 ?_
          refine lv_aload_n hx hb dX9_readAll_129 rfl (lv_at hl 5 rfl) ?_
          refine gX8_1 C hK hP w214 dX9_readAll_130 ?_
          refine lv_iconst (v := (2 : Int32)) hx hb dX9_readAll_133 (by decide) ?_
          refine cPi (run_V (rest := [.ref (ad 3)]) C (kX7_beginOf rfl) caX7_beginOf w706 ⟨rfl, rfl, Nat.le_of_ble_eq_true rfl, Nat.le_of_ble_eq_true rfl⟩ hK hN hP (rX4 hK hP) rfl hl.1 rfl (Nat.le_of_ble_eq_true rfl) dX9_readAll_134 ⟨Nat.zero_le _, Nat.zero_le _⟩) ?_
          refine lv_lload hx hb dX9_readAll_137 (lv_at hl 4 rfl) ?_
          refine lv_l2i (v := ((q6.1).toInt32)) hx hb dX9_readAll_139 rfl ?_
          refine lv_iadd hx hb dX9_readAll_140 ?_
          refine lv_aload_n hx hb dX9_readAll_141 rfl (lv_at hl 5 rfl) ?_
          refine gX8_1 C hK hP w214 dX9_readAll_142 ?_
          refine lv_iconst (v := (2 : Int32)) hx hb dX9_readAll_145 (by decide) ?_
          refine cPi (run_V (rest := [.int ((X7_beginOf se (2 : Int32)) + ((q6.1).toInt32)), .ref (ad 3)]) C (kX7_stopOf rfl) caX7_stopOf w705 ⟨rfl, rfl, Nat.le_of_ble_eq_true rfl, Nat.le_of_ble_eq_true rfl⟩ hK hN hP (rX4 hK hP) rfl hl.1 rfl (Nat.le_of_ble_eq_true rfl) dX9_readAll_146 ⟨Nat.zero_le _, Nat.zero_le _⟩) ?_
          obtain ⟨q10, h11, h⟩ := lets h
          refine cRv (run_V (rest := []) C (kX1_within hI h11) caX1_within w708 ⟨rfl, rfl, Nat.le_of_ble_eq_true rfl, Nat.le_of_ble_eq_true rfl⟩ hK hN hP (rX3 hK hP) rfl hl.1 rfl (Nat.le_of_ble_eq_true rfl) dX9_readAll_149 ⟨Nat.zero_le _, Nat.zero_le _⟩) hS (fun H locs hP hS => ?_)
          have hP : va_P D vwCl (GX cy ad tk sp nm tp kp q10 se ur ab lo im sy q8.2 en ra li i2) H := hP
          refine lv_aload_n hx hb dX9_readAll_152 rfl (lv_at hl 5 rfl) ?_
          refine gX8_2 C hK hP w215 dX9_readAll_153 ?_
          refine lv_aload_n hx hb dX9_readAll_156 rfl (lv_at hl 5 rfl) ?_
          refine gX8_0 C hK hP w213 dX9_readAll_157 ?_
          obtain ⟨q12, h13, h⟩ := bnd h
          refine cRv (run_V (rest := []) C (kX0_read hI h13) caX0_read w761 ⟨rfl, rfl, Nat.le_of_ble_eq_true rfl, Nat.le_of_ble_eq_true rfl⟩ hK hN hP (rX11 hK hP) rfl hl.1 rfl (Nat.le_of_ble_eq_true rfl) dX9_readAll_160 ⟨Nat.zero_le _, Nat.zero_le _⟩) hS (fun H locs hP hS => ?_)
          have hP : va_P D vwCl (GX cy ad tk sp nm tp kp q12.1 se ur q12.2 lo im sy q8.2 en ra li i2) H := hP
          refine lv_aload_n hx hb dX9_readAll_163 rfl (lv_at hl 5 rfl) ?_
          refine gX8_0 C hK hP w213 dX9_readAll_164 ?_
          refine lv_iload hx hb dX9_readAll_167 (lv_at hl 3 rfl) ?_
          refine lv_iload hx hb dX9_readAll_169 (lv_at hl 2 rfl) ?_
          obtain ⟨q14, h15, h⟩ := lets h
          refine cRv (run_V (rest := []) C (kX1_within hI h15) caX1_within w708 ⟨rfl, rfl, Nat.le_of_ble_eq_true rfl, Nat.le_of_ble_eq_true rfl⟩ hK hN hP (rX3 hK hP) rfl hl.1 rfl (Nat.le_of_ble_eq_true rfl) dX9_readAll_171 ⟨Nat.zero_le _, Nat.zero_le _⟩) hS (fun H locs hP hS => ?_)
          have hP : va_P D vwCl (GX cy ad tk sp nm tp kp q14 se ur q12.2 lo im sy q8.2 en ra li i2) H := hP
          refine lv_aload_n hx hb dX9_readAll_174 rfl (lv_at hl 5 rfl) ?_
          refine lv_aload_n hx hb dX9_readAll_175 rfl (lv_at hl 6 rfl) ?_
          refine gX21_2N C hK hP hN w459 dX9_readAll_176 ?_
          refine lv_iload hx hb dX9_readAll_179 (lv_at hl 0 rfl) ?_
          obtain ⟨q16, h17, h⟩ := bnd h
          refine cRv (run_V (rest := []) C (kX9_readEntries hI h17) caX9_readEntries w802 ⟨rfl, rfl, Nat.le_of_ble_eq_true rfl, Nat.le_of_ble_eq_true rfl⟩ hK hN hP (rX8 hK hP) rfl hl.1 rfl (Nat.le_of_ble_eq_true rfl) dX9_readAll_181 ⟨Nat.zero_le _, Nat.zero_le _⟩) hS (fun H locs hP hS => ?_)
          have hP : va_P D vwCl (GX cy ad tk sp nm tp kp q16.1 se q16.2.1 q12.2 lo im sy q8.2 q16.2.2 ra li i2) H := hP
          refine lv_aload_n hx hb dX9_readAll_184 rfl (lv_at hl 5 rfl) ?_
          refine lv_aload_n hx hb dX9_readAll_185 rfl (lv_at hl 6 rfl) ?_
          refine gX21_2N C hK hP hN w459 dX9_readAll_186 ?_
          refine lv_iload hx hb dX9_readAll_189 (lv_at hl 1 rfl) ?_
          obtain ⟨q18, h19, h⟩ := bnd h
          refine cRv (run_V (rest := []) C (kX9_settleReferences hI h19) caX9_settleReferences w912 ⟨rfl, rfl, Nat.le_of_ble_eq_true rfl, Nat.le_of_ble_eq_true rfl⟩ hK hN hP (rX8 hK hP) rfl hl.1 rfl (Nat.le_of_ble_eq_true rfl) dX9_readAll_191 ⟨Nat.zero_le _, Nat.zero_le _⟩) hS (fun H locs hP hS => ?_)
          have hP : va_P D vwCl (GX cy ad tk sp nm tp kp q18.1 se q16.2.1 q12.2 lo im sy q8.2 q18.2 ra li i2) H := hP
          refine lv_aload_n hx hb dX9_readAll_194 rfl (lv_at hl 5 rfl) ?_
          refine lv_iload hx hb dX9_readAll_195 (lv_at hl 2 rfl) ?_
          refine pX8_7 (v := (X1_stop q6.2)) C hI hK hP hS w220 dX9_readAll_197 (fun H locs hP hS => ?_)
          have hP : va_P D vwCl (GX cy ad tk sp nm tp kp q18.1 se (q16.2.1.1, q16.2.1.2.1, q16.2.1.2.2.1, q16.2.1.2.2.2.1, (X1_stop q6.2), q16.2.1.2.2.2.2.2.1, q16.2.1.2.2.2.2.2.2) q12.2 lo im sy q8.2 q18.2 ra li i2) H := hP
          refine lv_iinc (v := (v3 + (1 : Int32))) (lv' := [(3, .int (v3 + (1 : Int32))), (9, .int q8.1), (8, .int (X2_total en)), (7, .int (X1_stop q6.2)), (6, .int (X1_place q6.2)), (4, .long q6.1), (0, .ref (ad 8)), (1, .ref (ad 21)), (2, .int v2)]) hx hb dX9_readAll_200 hl (k := 8) rfl rfl (by decide) rfl (fun ls hl => ?_)
          refine lv_goto (tgt := 37) hx hb dX9_readAll_203 (by decide) ?_
          exact ih h (lv_sub hl [6, 7, 8, 0] rfl) hP hS
def X9_readAll (tp : Ttp) (cu : Tcu) (se : Tse) (ur : Tur) (ab : Tab) (un : Tun) (en : Ten)  : Option (Tcu × Tur × Tab × Tun × Ten) := (letq (X10_clear un) fun q1 => (letq (X2_clear en) fun q3 => X9_readAll_37 tp se FU (cu, (ur.1, ur.2.1, ur.2.2.1, ur.2.2.2.1, (X7_beginOf se (3 : Int32)), ur.2.2.2.2.2.1, ur.2.2.2.2.2.2), ab, q1, q3, (X7_stopOf se (3 : Int32)), (0 : Int32))))
set_option maxRecDepth 20000 in
theorem bX9_readAll_0 (C : Cx p s m args meth c cX9_readAll 10 none RX9 (.code yX9_readAll cX9_readAll 10 none)) (hI : Apart ad 89) (hK : va_K D vwCl (tysX cy) s) (hN : NW s)  {q : Tcu × Tur × Tab × Tun × Ten}   (h : X9_readAll tp cu se ur ab un en = some q) {ls : Array Slot} (hl : lv_has ls 10 [(0, .ref (ad 8)), (1, .ref (ad 21))]) {H : Heap} {locs : List Loc} (hP : va_P D vwCl (GX cy ad tk sp nm tp kp cu se ur ab lo im sy un en ra li i2) H) (hS : va_S (Ac ad 89) s.heap H locs) : W p l e ({ frames := 6, cells := 0, slots := 0, locals := 162 } : Room) s m args below meth c H locs 0 0 (MQ below (QR none D (GX cy ad tk sp nm tp kp q.1 se q.2.1 q.2.2.1 lo im sy q.2.2.2.1 q.2.2.2.2 ra li i2) (Ac ad 89)) args s 0 0 (Ac ad 89)) (F0 m 0 ls []) := by
  obtain ⟨hx, hb, hml, hown, hts, hr, hlk⟩ := id C
  unfold X9_readAll at h
  refine lv_aload_n hx hb dX9_readAll_0 rfl (lv_at hl 1 rfl) ?_
  refine gX21_1N C hK hP hN w452 dX9_readAll_1 ?_
  obtain ⟨q1, h2, h⟩ := lets h
  refine cRv (run_V (rest := []) C (kX10_clear hI h2) caX10_clear w697 ⟨rfl, rfl, Nat.le_of_ble_eq_true rfl, Nat.le_of_ble_eq_true rfl⟩ hK hN hP (rX27 hK hP) rfl hl.1 rfl (Nat.le_of_ble_eq_true rfl) dX9_readAll_4 ⟨Nat.zero_le _, Nat.zero_le _⟩) hS (fun H locs hP hS => ?_)
  have hP : va_P D vwCl (GX cy ad tk sp nm tp kp cu se ur ab lo im sy q1 en ra li i2) H := hP
  refine lv_aload_n hx hb dX9_readAll_7 rfl (lv_at hl 1 rfl) ?_
  refine gX21_2N C hK hP hN w459 dX9_readAll_8 ?_
  obtain ⟨q3, h4, h⟩ := lets h
  refine cRv (run_V (rest := []) C (kX2_clear hI h4) caX2_clear w701 ⟨rfl, rfl, Nat.le_of_ble_eq_true rfl, Nat.le_of_ble_eq_true rfl⟩ hK hN hP (rX34 hK hP) rfl hl.1 rfl (Nat.le_of_ble_eq_true rfl) dX9_readAll_11 ⟨Nat.zero_le _, Nat.zero_le _⟩) hS (fun H locs hP hS => ?_)
  have hP : va_P D vwCl (GX cy ad tk sp nm tp kp cu se ur ab lo im sy q1 q3 ra li i2) H := hP
  refine lv_aload_n hx hb dX9_readAll_14 rfl (lv_at hl 0 rfl) ?_
  refine gX8_1 C hK hP w214 dX9_readAll_15 ?_
  refine lv_iconst (v := (3 : Int32)) hx hb dX9_readAll_18 (by decide) ?_
  refine cPi (run_V (rest := []) C (kX7_stopOf rfl) caX7_stopOf w705 ⟨rfl, rfl, Nat.le_of_ble_eq_true rfl, Nat.le_of_ble_eq_true rfl⟩ hK hN hP (rX4 hK hP) rfl hl.1 rfl (Nat.le_of_ble_eq_true rfl) dX9_readAll_19 ⟨Nat.zero_le _, Nat.zero_le _⟩) ?_
  refine lv_istore_n (lv' := [(2, .int (X7_stopOf se (3 : Int32))), (0, .ref (ad 8)), (1, .ref (ad 21))]) hx hb dX9_readAll_22 rfl hl (by decide) rfl (fun ls hl => ?_)
  refine lv_aload_n hx hb dX9_readAll_23 rfl (lv_at hl 1 rfl) ?_
  refine lv_aload_n hx hb dX9_readAll_24 rfl (lv_at hl 1 rfl) ?_
  refine gX8_1 C hK hP w214 dX9_readAll_25 ?_
  refine lv_iconst (v := (3 : Int32)) hx hb dX9_readAll_28 (by decide) ?_
  refine cPi (run_V (rest := [.ref (ad 8)]) C (kX7_beginOf rfl) caX7_beginOf w706 ⟨rfl, rfl, Nat.le_of_ble_eq_true rfl, Nat.le_of_ble_eq_true rfl⟩ hK hN hP (rX4 hK hP) rfl hl.1 rfl (Nat.le_of_ble_eq_true rfl) dX9_readAll_29 ⟨Nat.zero_le _, Nat.zero_le _⟩) ?_
  refine pX8_7 (v := (X7_beginOf se (3 : Int32))) C hI hK hP hS w220 dX9_readAll_32 (fun H locs hP hS => ?_)
  have hP : va_P D vwCl (GX cy ad tk sp nm tp kp cu se (ur.1, ur.2.1, ur.2.2.1, ur.2.2.2.1, (X7_beginOf se (3 : Int32)), ur.2.2.2.2.2.1, ur.2.2.2.2.2.2) ab lo im sy q1 q3 ra li i2) H := hP
  refine lv_iconst (v := (0 : Int32)) hx hb dX9_readAll_35 (by decide) ?_
  refine lv_istore_n (lv' := [(3, .int (0 : Int32)), (2, .int (X7_stopOf se (3 : Int32))), (0, .ref (ad 8)), (1, .ref (ad 21))]) hx hb dX9_readAll_36 rfl hl (by decide) rfl (fun ls hl => ?_)
  exact bX9_readAll_37 C hI hK hN FU h (lv_sub hl [2, 3, 1, 0] rfl) hP hS
theorem kX9_readAll (hI : Apart ad 89)  {q : Tcu × Tur × Tab × Tun × Ten} (h : X9_readAll tp cu se ur ab un en = some q) : Met l yX9_readAll (.code yX9_readAll cX9_readAll 10 none :: WA) ({ frames := 6, cells := 0, slots := 0, locals := 162 } : Room) (va_Pc [.ref (ad 8), .ref (ad 21)] (PR D cy (GX cy ad tk sp nm tp kp cu se ur ab lo im sy un en ra li i2))) (QR none D (GX cy ad tk sp nm tp kp q.1 se q.2.1 q.2.2.1 lo im sy q.2.2.2.1 q.2.2.2.2 ra li i2) (Ac ad 89)) 0 0 (Ac ad 89) :=
  met_of (by decide) (Nat.le_of_ble_eq_true rfl) (fun p e s m below meth c ls C hP hK hN hl => bX9_readAll_0 C hI hK hN h hl hP va_S.rf)
def X10_filePlaceOf (un : Tun) (v1 : Int32) : Int32 := (if v1 < 0 then (-1 : Int32) else (if v1 < un.2.2.2.2.2.2.2 then (at_i 40 un.2.2.2.2.1 v1) else (-1 : Int32)))
set_option maxRecDepth 20000 in
theorem bX10_filePlaceOf_0 (C : Cx p s m args meth c cX10_filePlaceOf 2 (some .int) RX10 (.code yX10_filePlaceOf cX10_filePlaceOf 2 (some .int))) (hK : va_K D vwCl (tysX cy) s) (hN : NW s)  {q : Int32}  {v1 : Int32} (h : X10_filePlaceOf un v1 = q) {ls : Array Slot} (hl : lv_has ls 2 [(0, .ref (ad 27)), (1, .int v1)]) (hP : va_P D vwCl (GX cy ad tk sp nm tp kp cu se ur ab lo im sy un en ra li i2) s.heap) : W p l e ({ frames := 1, cells := 0, slots := 0, locals := 21 } : Room) s m args below meth c s.heap [] 0 0 (MQ below (QP (some (.int q))) args s 0 0 (fun _ => False)) (F0 m 0 ls []) := by
  obtain ⟨hx, hb, hml, hown, hts, hr, hlk⟩ := id C
  unfold X10_filePlaceOf at h
  refine lv_iload_n hx hb dX10_filePlaceOf_0 rfl (lv_at hl 1 rfl) ?_
  refine lv_if_lt (tgt := 23) hx hb dX10_filePlaceOf_1 (by decide) (fun c1 => ?_) (fun c1 => ?_)
  · rw [if_pos c1] at h
    refine lv_iconst (v := (-1 : Int32)) hx hb dX10_filePlaceOf_23 (by decide) ?_
    obtain rfl := h
    exact W.iret hx hb hr (fun t ht _ => ⟨rfl, ht⟩) (fun _ h9 => by cases h9) dX10_filePlaceOf_24 hlk
  · rw [if_neg c1] at h
    refine lv_iload_n hx hb dX10_filePlaceOf_4 rfl (lv_at hl 1 rfl) ?_
    refine lv_aload_n hx hb dX10_filePlaceOf_5 rfl (lv_at hl 0 rfl) ?_
    refine gX27_7 (v := un.2.2.2.2.2.2.2) C hK hP rfl w307 dX10_filePlaceOf_6 ?_
    refine b_icmp_ge (tgt := 23) hx hb dX10_filePlaceOf_9 (by decide) (fun c2 => ?_) (fun c2 => ?_)
    · rw [if_neg c2] at h
      refine lv_iconst (v := (-1 : Int32)) hx hb dX10_filePlaceOf_23 (by decide) ?_
      obtain rfl := h
      exact W.iret hx hb hr (fun t ht _ => ⟨rfl, ht⟩) (fun _ h9 => by cases h9) dX10_filePlaceOf_24 hlk
    · rw [if_pos c2] at h
      refine lv_aload_n hx hb dX10_filePlaceOf_12 rfl (lv_at hl 0 rfl) ?_
      refine gX27_4 C hK hP w304 dX10_filePlaceOf_13 ?_
      refine lv_iload_n hx hb dX10_filePlaceOf_16 rfl (lv_at hl 1 rfl) ?_
      refine xat_i (rest := []) C hK hN hP eX32 (Nat.le_of_ble_eq_true rfl) w963 hl.1 (Nat.le_of_ble_eq_true rfl) dX10_filePlaceOf_17 ⟨Nat.le_of_ble_eq_true rfl, Nat.le_of_ble_eq_true rfl⟩ ⟨Nat.zero_le _, Nat.zero_le _⟩ ?_
      refine lv_goto (tgt := 24) hx hb dX10_filePlaceOf_20 (by decide) ?_
      obtain rfl := h
      exact W.iret hx hb hr (fun t ht _ => ⟨rfl, ht⟩) (fun _ h9 => by cases h9) dX10_filePlaceOf_24 hlk
theorem kX10_filePlaceOf  {v1 : Int32} {q : Int32} (h : X10_filePlaceOf un v1 = q) : Met l yX10_filePlaceOf (.code yX10_filePlaceOf cX10_filePlaceOf 2 (some .int) :: WA) ({ frames := 1, cells := 0, slots := 0, locals := 21 } : Room) (va_Pc [.ref (ad 27), .int v1] (PR D cy (GX cy ad tk sp nm tp kp cu se ur ab lo im sy un en ra li i2))) (QP (some (.int q))) 0 0 (fun _ => False) :=
  met_of (by decide) (Nat.le_of_ble_eq_true rfl) (fun p e s m below meth c ls C hP hK hN hl => bX10_filePlaceOf_0 C hK hN h hl hP)
def X10_fileLengthOf (un : Tun) (v1 : Int32) : Int32 := (if v1 < 0 then (-1 : Int32) else (if v1 < un.2.2.2.2.2.2.2 then (at_i 40 un.2.2.2.2.2.1 v1) else (-1 : Int32)))
set_option maxRecDepth 20000 in
theorem bX10_fileLengthOf_0 (C : Cx p s m args meth c cX10_fileLengthOf 2 (some .int) RX10 (.code yX10_fileLengthOf cX10_fileLengthOf 2 (some .int))) (hK : va_K D vwCl (tysX cy) s) (hN : NW s)  {q : Int32}  {v1 : Int32} (h : X10_fileLengthOf un v1 = q) {ls : Array Slot} (hl : lv_has ls 2 [(0, .ref (ad 27)), (1, .int v1)]) (hP : va_P D vwCl (GX cy ad tk sp nm tp kp cu se ur ab lo im sy un en ra li i2) s.heap) : W p l e ({ frames := 1, cells := 0, slots := 0, locals := 21 } : Room) s m args below meth c s.heap [] 0 0 (MQ below (QP (some (.int q))) args s 0 0 (fun _ => False)) (F0 m 0 ls []) := by
  obtain ⟨hx, hb, hml, hown, hts, hr, hlk⟩ := id C
  unfold X10_fileLengthOf at h
  refine lv_iload_n hx hb dX10_fileLengthOf_0 rfl (lv_at hl 1 rfl) ?_
  refine lv_if_lt (tgt := 23) hx hb dX10_fileLengthOf_1 (by decide) (fun c1 => ?_) (fun c1 => ?_)
  · rw [if_pos c1] at h
    refine lv_iconst (v := (-1 : Int32)) hx hb dX10_fileLengthOf_23 (by decide) ?_
    obtain rfl := h
    exact W.iret hx hb hr (fun t ht _ => ⟨rfl, ht⟩) (fun _ h9 => by cases h9) dX10_fileLengthOf_24 hlk
  · rw [if_neg c1] at h
    refine lv_iload_n hx hb dX10_fileLengthOf_4 rfl (lv_at hl 1 rfl) ?_
    refine lv_aload_n hx hb dX10_fileLengthOf_5 rfl (lv_at hl 0 rfl) ?_
    refine gX27_7 (v := un.2.2.2.2.2.2.2) C hK hP rfl w307 dX10_fileLengthOf_6 ?_
    refine b_icmp_ge (tgt := 23) hx hb dX10_fileLengthOf_9 (by decide) (fun c2 => ?_) (fun c2 => ?_)
    · rw [if_neg c2] at h
      refine lv_iconst (v := (-1 : Int32)) hx hb dX10_fileLengthOf_23 (by decide) ?_
      obtain rfl := h
      exact W.iret hx hb hr (fun t ht _ => ⟨rfl, ht⟩) (fun _ h9 => by cases h9) dX10_fileLengthOf_24 hlk
    · rw [if_pos c2] at h
      refine lv_aload_n hx hb dX10_fileLengthOf_12 rfl (lv_at hl 0 rfl) ?_
      refine gX27_5 C hK hP w305 dX10_fileLengthOf_13 ?_
      refine lv_iload_n hx hb dX10_fileLengthOf_16 rfl (lv_at hl 1 rfl) ?_
      refine xat_i (rest := []) C hK hN hP eX33 (Nat.le_of_ble_eq_true rfl) w963 hl.1 (Nat.le_of_ble_eq_true rfl) dX10_fileLengthOf_17 ⟨Nat.le_of_ble_eq_true rfl, Nat.le_of_ble_eq_true rfl⟩ ⟨Nat.zero_le _, Nat.zero_le _⟩ ?_
      refine lv_goto (tgt := 24) hx hb dX10_fileLengthOf_20 (by decide) ?_
      obtain rfl := h
      exact W.iret hx hb hr (fun t ht _ => ⟨rfl, ht⟩) (fun _ h9 => by cases h9) dX10_fileLengthOf_24 hlk
theorem kX10_fileLengthOf  {v1 : Int32} {q : Int32} (h : X10_fileLengthOf un v1 = q) : Met l yX10_fileLengthOf (.code yX10_fileLengthOf cX10_fileLengthOf 2 (some .int) :: WA) ({ frames := 1, cells := 0, slots := 0, locals := 21 } : Room) (va_Pc [.ref (ad 27), .int v1] (PR D cy (GX cy ad tk sp nm tp kp cu se ur ab lo im sy un en ra li i2))) (QP (some (.int q))) 0 0 (fun _ => False) :=
  met_of (by decide) (Nat.le_of_ble_eq_true rfl) (fun p e s m below meth c ls C hP hK hN hl => bX10_fileLengthOf_0 C hK hN h hl hP)
def X11_append_49  (k3 : Tnm → Ttp → Int32 → Int32 → Option (Tnm × Ttp)) (nm : Tnm) (tp : Ttp) (v1 : Int32) (v2 : Int32) : Option (Tnm × Ttp) := k3 nm tp v1 (v2 + (-8 : Int32))
set_option maxRecDepth 20000 in
theorem bX11_append_49 (C : Cx p s m args meth c cX11_append 3 none RX11 (.code yX11_append cX11_append 3 none)) (hI : Apart ad 89) (hK : va_K D vwCl (tysX cy) s) (hN : NW s) {k3 : Tnm → Ttp → Int32 → Int32 → Option (Tnm × Ttp)} {q : Tnm × Ttp} (hk3 : ∀ {nm : Tnm} {tp : Ttp} {v1 : Int32} {v2 : Int32}, k3 nm tp v1 v2 = some q → ∀ {ls : Array Slot}, lv_has ls 3 [(0, .ref (ad 0)), (1, .int v1), (2, .int v2)] → ∀ {H : Heap} {locs : List Loc}, va_P D vwCl (GX cy ad tk sp nm tp kp cu se ur ab lo im sy un en ra li i2) H → va_S (Ac ad 89) s.heap H locs → W p l e ({ frames := 0, cells := 0, slots := 0, locals := 0 } : Room) s m args below meth c H locs 0 0 (MQ below (QR none D (GX cy ad tk sp q.1 q.2 kp cu se ur ab lo im sy un en ra li i2) (Ac ad 89)) args s 0 0 (Ac ad 89)) (F0 m 3 ls [])) {v1 : Int32} {v2 : Int32} (h : X11_append_49 k3 nm tp v1 v2 = some q) {ls : Array Slot} (hl : lv_has ls 3 [(0, .ref (ad 0)), (1, .int v1), (2, .int v2)]) {H : Heap} {locs : List Loc} (hP : va_P D vwCl (GX cy ad tk sp nm tp kp cu se ur ab lo im sy un en ra li i2) H) (hS : va_S (Ac ad 89) s.heap H locs) : W p l e ({ frames := 0, cells := 0, slots := 0, locals := 0 } : Room) s m args below meth c H locs 0 0 (MQ below (QR none D (GX cy ad tk sp q.1 q.2 kp cu se ur ab lo im sy un en ra li i2) (Ac ad 89)) args s 0 0 (Ac ad 89)) (F0 m 49 ls []) := by
  obtain ⟨hx, hb, hml, hown, hts, hr, hlk⟩ := id C
  unfold X11_append_49 at h
  refine lv_iinc (v := (v2 + (-8 : Int32))) (lv' := [(2, .int (v2 + (-8 : Int32))), (0, .ref (ad 0)), (1, .int v1)]) hx hb dX11_append_49 hl (k := 2) rfl rfl (by decide) rfl (fun ls hl => ?_)
  refine lv_goto (tgt := 3) hx hb dX11_append_52 (by decide) ?_
  exact hk3 h (lv_sub hl [1, 2, 0] rfl) hP hS
def X11_append_3b   (k3 : Tnm → Ttp → Int32 → Int32 → Option (Tnm × Ttp)) (nm : Tnm) (tp : Ttp) (v1 : Int32) (v2 : Int32) : Option (Tnm × Ttp) := (if v2 < 0 then some (nm, tp) else (if nm < 0 then X11_append_49 k3 nm tp v1 v2 else (if nm < (8000 : Int32) then (if inb nm 8000 = true then X11_append_49 k3 (nm + (1 : Int32)) (upd tp (nm).toNatClampNeg (vp_nar .byte (((v1 >>> (v2 &&& 31))).toInt8.toInt32))) v1 v2 else none) else X11_append_49 k3 nm tp v1 v2)))
def X11_append_3   (n : Nat) (st : Tnm × Ttp × Int32 × Int32) : Option (Tnm × Ttp) := lp (fun rec st => X11_append_3b   (fun a0 a1 a2 a3 => rec (a0, a1, a2, a3)) st.1 st.2.1 st.2.2.1 st.2.2.2) n st
set_option maxRecDepth 20000 in
theorem bX11_append_3 (C : Cx p s m args meth c cX11_append 3 none RX11 (.code yX11_append cX11_append 3 none)) (hI : Apart ad 89) (hK : va_K D vwCl (tysX cy) s) (hN : NW s)  {q : Tnm × Ttp}  : ∀ (n : Nat) {nm : Tnm} {tp : Ttp} {v1 : Int32} {v2 : Int32}, X11_append_3   n (nm, tp, v1, v2) = some q → ∀ {ls : Array Slot}, lv_has ls 3 [(0, .ref (ad 0)), (1, .int v1), (2, .int v2)] → ∀ {H : Heap} {locs : List Loc}, va_P D vwCl (GX cy ad tk sp nm tp kp cu se ur ab lo im sy un en ra li i2) H → va_S (Ac ad 89) s.heap H locs → W p l e ({ frames := 0, cells := 0, slots := 0, locals := 0 } : Room) s m args below meth c H locs 0 0 (MQ below (QR none D (GX cy ad tk sp q.1 q.2 kp cu se ur ab lo im sy un en ra li i2) (Ac ad 89)) args s 0 0 (Ac ad 89)) (F0 m 3 ls []) := by
  obtain ⟨hx, hb, hml, hown, hts, hr, hlk⟩ := id C
  intro n
  induction n with
  | zero =>
    intro nm tp v1 v2 h ls hl H locs hP hS
    have h : (none : Option (Tnm × Ttp)) = some q := h
    cases h
  | succ n ih =>
    intro nm tp v1 v2 h ls hl H locs hP hS
    have h : X11_append_3b   (fun a0 a1 a2 a3 => X11_append_3   n (a0, a1, a2, a3)) nm tp v1 v2 = some q := h
    unfold X11_append_3b at h
    refine lv_iload_n hx hb dX11_append_3 rfl (lv_at hl 2 rfl) ?_
    refine lv_if_lt (tgt := 55) hx hb dX11_append_4 (by decide) (fun c1 => ?_) (fun c1 => ?_)
    · rw [if_pos c1] at h
      obtain rfl := Option.some.inj h
      exact W.vret hx hb hr (fun t ht _ => ⟨rfl, by rw [ht]; exact hP, hS.F ht⟩) hS.2.2 dX11_append_55 hlk
    · rw [if_neg c1] at h
      refine lv_aload_n hx hb dX11_append_7 rfl (lv_at hl 0 rfl) ?_
      refine gX0_8 (v := nm) C hK hP rfl w490 dX11_append_8 ?_
      refine lv_if_lt (tgt := 49) hx hb dX11_append_11 (by decide) (fun c2 => ?_) (fun c2 => ?_)
      · rw [if_pos c2] at h
        exact bX11_append_49 C hI hK hN @ih h (lv_sub hl [0, 1, 2] rfl) hP hS
      · rw [if_neg c2] at h
        refine lv_aload_n hx hb dX11_append_14 rfl (lv_at hl 0 rfl) ?_
        refine gX0_8 (v := nm) C hK hP rfl w490 dX11_append_15 ?_
        refine lv_aload_n hx hb dX11_append_18 rfl (lv_at hl 0 rfl) ?_
        refine gX0_0 C hK hP w482 dX11_append_19 ?_
        refine lX1 C hK hP dX11_append_22 ?_
        refine b_icmp_ge (tgt := 49) hx hb dX11_append_23 (by decide) (fun c3 => ?_) (fun c3 => ?_)
        · rw [if_neg c3] at h
          exact bX11_append_49 C hI hK hN @ih h (lv_sub hl [0, 1, 2] rfl) hP hS
        · rw [if_pos c3] at h
          refine lv_aload_n hx hb dX11_append_26 rfl (lv_at hl 0 rfl) ?_
          refine gX0_0 C hK hP w482 dX11_append_27 ?_
          refine lv_aload_n hx hb dX11_append_30 rfl (lv_at hl 0 rfl) ?_
          refine gX0_8 (v := nm) C hK hP rfl w490 dX11_append_31 ?_
          refine lv_iload_n hx hb dX11_append_34 rfl (lv_at hl 1 rfl) ?_
          refine lv_iload_n hx hb dX11_append_35 rfl (lv_at hl 2 rfl) ?_
          refine lv_ishr hx hb dX11_append_36 ?_
          refine lv_i2b (v := (((v1 >>> (v2 &&& 31))).toInt8.toInt32)) hx hb dX11_append_37 rfl ?_
          obtain ⟨n4, h⟩ := grd h
          refine sX1 (f := tp) C hI hK hP hS rfl n4 dX11_append_38 (fun H locs hP hS => ?_)
          have hP : va_P D vwCl (GX cy ad tk sp nm (upd tp (nm).toNatClampNeg (vp_nar .byte (((v1 >>> (v2 &&& 31))).toInt8.toInt32))) kp cu se ur ab lo im sy un en ra li i2) H := hP
          refine lv_aload_n hx hb dX11_append_39 rfl (lv_at hl 0 rfl) ?_
          refine lv_dup hx hb dX11_append_40 rfl ?_
          refine gX0_8 (v := nm) C hK hP rfl w490 dX11_append_41 ?_
          refine lv_iconst (v := (1 : Int32)) hx hb dX11_append_44 (by decide) ?_
          refine lv_iadd hx hb dX11_append_45 ?_
          refine pX0_8 (v := (nm + (1 : Int32))) C hI hK hP hS w490 dX11_append_46 (fun H locs hP hS => ?_)
          have hP : va_P D vwCl (GX cy ad tk sp (nm + (1 : Int32)) (upd tp (nm).toNatClampNeg (vp_nar .byte (((v1 >>> (v2 &&& 31))).toInt8.toInt32))) kp cu se ur ab lo im sy un en ra li i2) H := hP
          exact bX11_append_49 C hI hK hN @ih h (lv_sub hl [0, 1, 2] rfl) hP hS
def X11_append (nm : Tnm) (tp : Ttp) (v1 : Int32) : Option (Tnm × Ttp) := X11_append_3 FU (nm, tp, v1, (24 : Int32))
set_option maxRecDepth 20000 in
theorem bX11_append_0 (C : Cx p s m args meth c cX11_append 3 none RX11 (.code yX11_append cX11_append 3 none)) (hI : Apart ad 89) (hK : va_K D vwCl (tysX cy) s) (hN : NW s)  {q : Tnm × Ttp}  {v1 : Int32} (h : X11_append nm tp v1 = some q) {ls : Array Slot} (hl : lv_has ls 3 [(0, .ref (ad 0)), (1, .int v1)]) {H : Heap} {locs : List Loc} (hP : va_P D vwCl (GX cy ad tk sp nm tp kp cu se ur ab lo im sy un en ra li i2) H) (hS : va_S (Ac ad 89) s.heap H locs) : W p l e ({ frames := 0, cells := 0, slots := 0, locals := 0 } : Room) s m args below meth c H locs 0 0 (MQ below (QR none D (GX cy ad tk sp q.1 q.2 kp cu se ur ab lo im sy un en ra li i2) (Ac ad 89)) args s 0 0 (Ac ad 89)) (F0 m 0 ls []) := by
  obtain ⟨hx, hb, hml, hown, hts, hr, hlk⟩ := id C
  unfold X11_append at h
  refine lv_bipush (v := (24 : Int32)) hx hb dX11_append_0 (by decide) ?_
  refine lv_istore_n (lv' := [(2, .int (24 : Int32)), (0, .ref (ad 0)), (1, .int v1)]) hx hb dX11_append_2 rfl hl (by decide) rfl (fun ls hl => ?_)
  exact bX11_append_3 C hI hK hN FU h (lv_sub hl [1, 2, 0] rfl) hP hS
theorem kX11_append (hI : Apart ad 89) {v1 : Int32} {q : Tnm × Ttp} (h : X11_append nm tp v1 = some q) : Met l yX11_append (.code yX11_append cX11_append 3 none :: WA) ({ frames := 0, cells := 0, slots := 0, locals := 0 } : Room) (va_Pc [.ref (ad 0), .int v1] (PR D cy (GX cy ad tk sp nm tp kp cu se ur ab lo im sy un en ra li i2))) (QR none D (GX cy ad tk sp q.1 q.2 kp cu se ur ab lo im sy un en ra li i2) (Ac ad 89)) 0 0 (Ac ad 89) :=
  met_of (by decide) (Nat.le_of_ble_eq_true rfl) (fun p e s m below meth c ls C hP hK hN hl => bX11_append_0 C hI hK hN h hl hP va_S.rf)
def X11_feed (nm : Tnm) (tp : Ttp) (v1 : Int32) (v2 : Int32) (v3 : Int32) (v4 : Int32) (v5 : Int32) : Option (Int32 × Tnm × Ttp) := (if (8000 : Int32) < (nm + (20 : Int32)) then some ((-1 : Int32), nm, tp) else ((X11_append nm tp v1).bind fun q2 => ((X11_append q2.1 q2.2 v2).bind fun q4 => ((X11_append q4.1 q4.2 v3).bind fun q6 => ((X11_append q6.1 q6.2 v4).bind fun q8 => ((X11_append q8.1 q8.2 v5).bind fun q10 => some (q10.1, q10.1, q10.2)))))))
set_option maxRecDepth 20000 in
theorem bX11_feed_0 (C : Cx p s m args meth c cX11_feed 6 (some .int) RX11 (.code yX11_feed cX11_feed 6 (some .int))) (hI : Apart ad 89) (hK : va_K D vwCl (tysX cy) s) (hN : NW s)  {q : Int32 × Tnm × Ttp}  {v1 : Int32} {v2 : Int32} {v3 : Int32} {v4 : Int32} {v5 : Int32} (h : X11_feed nm tp v1 v2 v3 v4 v5 = some q) {ls : Array Slot} (hl : lv_has ls 6 [(0, .ref (ad 0)), (1, .int v1), (2, .int v2), (3, .int v3), (4, .int v4), (5, .int v5)]) {H : Heap} {locs : List Loc} (hP : va_P D vwCl (GX cy ad tk sp nm tp kp cu se ur ab lo im sy un en ra li i2) H) (hS : va_S (Ac ad 89) s.heap H locs) : W p l e ({ frames := 1, cells := 0, slots := 0, locals := 22 } : Room) s m args below meth c H locs 0 0 (MQ below (QR (some (.int q.1)) D (GX cy ad tk sp q.2.1 q.2.2 kp cu se ur ab lo im sy un en ra li i2) (Ac ad 89)) args s 0 0 (Ac ad 89)) (F0 m 0 ls []) := by
  obtain ⟨hx, hb, hml, hown, hts, hr, hlk⟩ := id C
  unfold X11_feed at h
  refine lv_aload_n hx hb dX11_feed_0 rfl (lv_at hl 0 rfl) ?_
  refine gX0_8 (v := nm) C hK hP rfl w490 dX11_feed_1 ?_
  refine lv_bipush (v := (20 : Int32)) hx hb dX11_feed_4 (by decide) ?_
  refine lv_iadd hx hb dX11_feed_6 ?_
  refine lv_sipush (v := (8000 : Int32)) hx hb dX11_feed_7 (by decide) ?_
  refine b_icmp_le (tgt := 15) hx hb dX11_feed_10 (by decide) (fun c1 => ?_) (fun c1 => ?_)
  · rw [if_neg c1] at h
    refine lv_aload_n hx hb dX11_feed_15 rfl (lv_at hl 0 rfl) ?_
    refine lv_iload_n hx hb dX11_feed_16 rfl (lv_at hl 1 rfl) ?_
    obtain ⟨q2, h3, h⟩ := bnd h
    refine cRv (run_V (rest := []) C (kX11_append hI h3) caX11_append w514 ⟨rfl, rfl, Nat.le_of_ble_eq_true rfl, Nat.le_of_ble_eq_true rfl⟩ hK hN hP (rX0 hK hP) rfl hl.1 rfl (Nat.le_of_ble_eq_true rfl) dX11_feed_17 ⟨Nat.zero_le _, Nat.zero_le _⟩) hS (fun H locs hP hS => ?_)
    have hP : va_P D vwCl (GX cy ad tk sp q2.1 q2.2 kp cu se ur ab lo im sy un en ra li i2) H := hP
    refine lv_aload_n hx hb dX11_feed_20 rfl (lv_at hl 0 rfl) ?_
    refine lv_iload_n hx hb dX11_feed_21 rfl (lv_at hl 2 rfl) ?_
    obtain ⟨q4, h5, h⟩ := bnd h
    refine cRv (run_V (rest := []) C (kX11_append hI h5) caX11_append w514 ⟨rfl, rfl, Nat.le_of_ble_eq_true rfl, Nat.le_of_ble_eq_true rfl⟩ hK hN hP (rX0 hK hP) rfl hl.1 rfl (Nat.le_of_ble_eq_true rfl) dX11_feed_22 ⟨Nat.zero_le _, Nat.zero_le _⟩) hS (fun H locs hP hS => ?_)
    have hP : va_P D vwCl (GX cy ad tk sp q4.1 q4.2 kp cu se ur ab lo im sy un en ra li i2) H := hP
    refine lv_aload_n hx hb dX11_feed_25 rfl (lv_at hl 0 rfl) ?_
    refine lv_iload_n hx hb dX11_feed_26 rfl (lv_at hl 3 rfl) ?_
    obtain ⟨q6, h7, h⟩ := bnd h
    refine cRv (run_V (rest := []) C (kX11_append hI h7) caX11_append w514 ⟨rfl, rfl, Nat.le_of_ble_eq_true rfl, Nat.le_of_ble_eq_true rfl⟩ hK hN hP (rX0 hK hP) rfl hl.1 rfl (Nat.le_of_ble_eq_true rfl) dX11_feed_27 ⟨Nat.zero_le _, Nat.zero_le _⟩) hS (fun H locs hP hS => ?_)
    have hP : va_P D vwCl (GX cy ad tk sp q6.1 q6.2 kp cu se ur ab lo im sy un en ra li i2) H := hP
    refine lv_aload_n hx hb dX11_feed_30 rfl (lv_at hl 0 rfl) ?_
    refine lv_iload hx hb dX11_feed_31 (lv_at hl 4 rfl) ?_
    obtain ⟨q8, h9, h⟩ := bnd h
    refine cRv (run_V (rest := []) C (kX11_append hI h9) caX11_append w514 ⟨rfl, rfl, Nat.le_of_ble_eq_true rfl, Nat.le_of_ble_eq_true rfl⟩ hK hN hP (rX0 hK hP) rfl hl.1 rfl (Nat.le_of_ble_eq_true rfl) dX11_feed_33 ⟨Nat.zero_le _, Nat.zero_le _⟩) hS (fun H locs hP hS => ?_)
    have hP : va_P D vwCl (GX cy ad tk sp q8.1 q8.2 kp cu se ur ab lo im sy un en ra li i2) H := hP
    refine lv_aload_n hx hb dX11_feed_36 rfl (lv_at hl 0 rfl) ?_
    refine lv_iload hx hb dX11_feed_37 (lv_at hl 5 rfl) ?_
    obtain ⟨q10, h11, h⟩ := bnd h
    refine cRv (run_V (rest := []) C (kX11_append hI h11) caX11_append w514 ⟨rfl, rfl, Nat.le_of_ble_eq_true rfl, Nat.le_of_ble_eq_true rfl⟩ hK hN hP (rX0 hK hP) rfl hl.1 rfl (Nat.le_of_ble_eq_true rfl) dX11_feed_39 ⟨Nat.zero_le _, Nat.zero_le _⟩) hS (fun H locs hP hS => ?_)
    have hP : va_P D vwCl (GX cy ad tk sp q10.1 q10.2 kp cu se ur ab lo im sy un en ra li i2) H := hP
    refine lv_aload_n hx hb dX11_feed_42 rfl (lv_at hl 0 rfl) ?_
    refine gX0_8 (v := q10.1) C hK hP rfl w490 dX11_feed_43 ?_
    obtain rfl := Option.some.inj h
    exact W.iret hx hb hr (fun t ht _ => ⟨rfl, by rw [ht]; exact hP, hS.F ht⟩) hS.2.2 dX11_feed_46 hlk
  · rw [if_pos c1] at h
    refine lv_iconst (v := (-1 : Int32)) hx hb dX11_feed_13 (by decide) ?_
    obtain rfl := Option.some.inj h
    exact W.iret hx hb hr (fun t ht _ => ⟨rfl, by rw [ht]; exact hP, hS.F ht⟩) hS.2.2 dX11_feed_14 hlk
theorem kX11_feed (hI : Apart ad 89) {v1 : Int32} {v2 : Int32} {v3 : Int32} {v4 : Int32} {v5 : Int32} {q : Int32 × Tnm × Ttp} (h : X11_feed nm tp v1 v2 v3 v4 v5 = some q) : Met l yX11_feed (.code yX11_feed cX11_feed 6 (some .int) :: WA) ({ frames := 1, cells := 0, slots := 0, locals := 22 } : Room) (va_Pc [.ref (ad 0), .int v1, .int v2, .int v3, .int v4, .int v5] (PR D cy (GX cy ad tk sp nm tp kp cu se ur ab lo im sy un en ra li i2))) (QR (some (.int q.1)) D (GX cy ad tk sp q.2.1 q.2.2 kp cu se ur ab lo im sy un en ra li i2) (Ac ad 89)) 0 0 (Ac ad 89) :=
  met_of (by decide) (Nat.le_of_ble_eq_true rfl) (fun p e s m below meth c ls C hP hK hN hl => bX11_feed_0 C hI hK hN h hl hP va_S.rf)
def X11_end (nm : Tnm) (v1 : Int32) : Int32 × Tnm := (if v1 < 0 then ((0 : Int32), nm) else (if nm < v1 then ((0 : Int32), nm) else ((1 : Int32), v1)))
set_option maxRecDepth 20000 in
theorem bX11_end_0 (C : Cx p s m args meth c cX11_end 2 (some .boolean) RX11 (.code yX11_end cX11_end 2 (some .boolean))) (hI : Apart ad 89) (hK : va_K D vwCl (tysX cy) s) (hN : NW s)  {q : Int32 × Tnm}  {v1 : Int32} (h : X11_end nm v1 = q) {ls : Array Slot} (hl : lv_has ls 2 [(0, .ref (ad 0)), (1, .int v1)]) {H : Heap} {locs : List Loc} (hP : va_P D vwCl (GX cy ad tk sp nm tp kp cu se ur ab lo im sy un en ra li i2) H) (hS : va_S (Ac ad 89) s.heap H locs) : W p l e ({ frames := 0, cells := 0, slots := 0, locals := 0 } : Room) s m args below meth c H locs 0 0 (MQ below (QR (some (.int q.1)) D (GX cy ad tk sp q.2 tp kp cu se ur ab lo im sy un en ra li i2) (Ac ad 89)) args s 0 0 (Ac ad 89)) (F0 m 0 ls []) := by
  obtain ⟨hx, hb, hml, hown, hts, hr, hlk⟩ := id C
  unfold X11_end at h
  refine lv_iload_n hx hb dX11_end_0 rfl (lv_at hl 1 rfl) ?_
  refine lv_if_lt (tgt := 12) hx hb dX11_end_1 (by decide) (fun c1 => ?_) (fun c1 => ?_)
  · rw [if_pos c1] at h
    refine lv_iconst (v := (0 : Int32)) hx hb dX11_end_12 (by decide) ?_
    obtain rfl := h
    exact W.zret (ty := .boolean) hx hb hr (by decide) (fun t ht _ => ⟨rfl, by rw [ht]; exact hP, hS.F ht⟩) hS.2.2 dX11_end_13 hlk
  · rw [if_neg c1] at h
    refine lv_iload_n hx hb dX11_end_4 rfl (lv_at hl 1 rfl) ?_
    refine lv_aload_n hx hb dX11_end_5 rfl (lv_at hl 0 rfl) ?_
    refine gX0_8 (v := nm) C hK hP rfl w490 dX11_end_6 ?_
    refine b_icmp_le (tgt := 14) hx hb dX11_end_9 (by decide) (fun c2 => ?_) (fun c2 => ?_)
    · rw [if_neg c2] at h
      refine lv_aload_n hx hb dX11_end_14 rfl (lv_at hl 0 rfl) ?_
      refine lv_iload_n hx hb dX11_end_15 rfl (lv_at hl 1 rfl) ?_
      refine pX0_8 (v := v1) C hI hK hP hS w490 dX11_end_16 (fun H locs hP hS => ?_)
      have hP : va_P D vwCl (GX cy ad tk sp v1 tp kp cu se ur ab lo im sy un en ra li i2) H := hP
      refine lv_iconst (v := (1 : Int32)) hx hb dX11_end_19 (by decide) ?_
      obtain rfl := h
      exact W.zret (ty := .boolean) hx hb hr (by decide) (fun t ht _ => ⟨rfl, by rw [ht]; exact hP, hS.F ht⟩) hS.2.2 dX11_end_20 hlk
    · rw [if_pos c2] at h
      refine lv_iconst (v := (0 : Int32)) hx hb dX11_end_12 (by decide) ?_
      obtain rfl := h
      exact W.zret (ty := .boolean) hx hb hr (by decide) (fun t ht _ => ⟨rfl, by rw [ht]; exact hP, hS.F ht⟩) hS.2.2 dX11_end_13 hlk
theorem kX11_end (hI : Apart ad 89) {v1 : Int32} {q : Int32 × Tnm} (h : X11_end nm v1 = q) : Met l yX11_end (.code yX11_end cX11_end 2 (some .boolean) :: WA) ({ frames := 0, cells := 0, slots := 0, locals := 0 } : Room) (va_Pc [.ref (ad 0), .int v1] (PR D cy (GX cy ad tk sp nm tp kp cu se ur ab lo im sy un en ra li i2))) (QR (some (.int q.1)) D (GX cy ad tk sp q.2 tp kp cu se ur ab lo im sy un en ra li i2) (Ac ad 89)) 0 0 (Ac ad 89) :=
  met_of (by decide) (Nat.le_of_ble_eq_true rfl) (fun p e s m below meth c ls C hP hK hN hl => bX11_end_0 C hI hK hN h hl hP va_S.rf)
def X11_poke (nm : Tnm) (tp : Ttp) (v1 : Int32) (v2 : Int32) : Option (Int32 × Ttp) := (if v1 < 0 then some ((0 : Int32), tp) else (if v1 < nm then (if v1 < (8000 : Int32) then (if inb v1 8000 = true then some ((1 : Int32), (upd tp (v1).toNatClampNeg (vp_nar .byte ((v2).toInt8.toInt32)))) else none) else some ((0 : Int32), tp)) else some ((0 : Int32), tp)))
set_option maxRecDepth 20000 in
theorem bX11_poke_0 (C : Cx p s m args meth c cX11_poke 3 (some .boolean) RX11 (.code yX11_poke cX11_poke 3 (some .boolean))) (hI : Apart ad 89) (hK : va_K D vwCl (tysX cy) s) (hN : NW s)  {q : Int32 × Ttp}  {v1 : Int32} {v2 : Int32} (h : X11_poke nm tp v1 v2 = some q) {ls : Array Slot} (hl : lv_has ls 3 [(0, .ref (ad 0)), (1, .int v1), (2, .int v2)]) {H : Heap} {locs : List Loc} (hP : va_P D vwCl (GX cy ad tk sp nm tp kp cu se ur ab lo im sy un en ra li i2) H) (hS : va_S (Ac ad 89) s.heap H locs) : W p l e ({ frames := 0, cells := 0, slots := 0, locals := 0 } : Room) s m args below meth c H locs 0 0 (MQ below (QR (some (.int q.1)) D (GX cy ad tk sp nm q.2 kp cu se ur ab lo im sy un en ra li i2) (Ac ad 89)) args s 0 0 (Ac ad 89)) (F0 m 0 ls []) := by
  obtain ⟨hx, hb, hml, hown, hts, hr, hlk⟩ := id C
  unfold X11_poke at h
  refine lv_iload_n hx hb dX11_poke_0 rfl (lv_at hl 1 rfl) ?_
  refine lv_if_lt (tgt := 21) hx hb dX11_poke_1 (by decide) (fun c1 => ?_) (fun c1 => ?_)
  · rw [if_pos c1] at h
    refine lv_iconst (v := (0 : Int32)) hx hb dX11_poke_21 (by decide) ?_
    obtain rfl := Option.some.inj h
    exact W.zret (ty := .boolean) hx hb hr (by decide) (fun t ht _ => ⟨rfl, by rw [ht]; exact hP, hS.F ht⟩) hS.2.2 dX11_poke_22 hlk
  · rw [if_neg c1] at h
    refine lv_iload_n hx hb dX11_poke_4 rfl (lv_at hl 1 rfl) ?_
    refine lv_aload_n hx hb dX11_poke_5 rfl (lv_at hl 0 rfl) ?_
    refine gX0_8 (v := nm) C hK hP rfl w490 dX11_poke_6 ?_
    refine b_icmp_ge (tgt := 21) hx hb dX11_poke_9 (by decide) (fun c2 => ?_) (fun c2 => ?_)
    · rw [if_neg c2] at h
      refine lv_iconst (v := (0 : Int32)) hx hb dX11_poke_21 (by decide) ?_
      obtain rfl := Option.some.inj h
      exact W.zret (ty := .boolean) hx hb hr (by decide) (fun t ht _ => ⟨rfl, by rw [ht]; exact hP, hS.F ht⟩) hS.2.2 dX11_poke_22 hlk
    · rw [if_pos c2] at h
      refine lv_iload_n hx hb dX11_poke_12 rfl (lv_at hl 1 rfl) ?_
      refine lv_aload_n hx hb dX11_poke_13 rfl (lv_at hl 0 rfl) ?_
      refine gX0_0 C hK hP w482 dX11_poke_14 ?_
      refine lX1 C hK hP dX11_poke_17 ?_
      refine lv_icmp_lt (tgt := 23) hx hb dX11_poke_18 (by decide) (fun c3 => ?_) (fun c3 => ?_)
      · rw [if_pos c3] at h
        refine lv_aload_n hx hb dX11_poke_23 rfl (lv_at hl 0 rfl) ?_
        refine gX0_0 C hK hP w482 dX11_poke_24 ?_
        refine lv_iload_n hx hb dX11_poke_27 rfl (lv_at hl 1 rfl) ?_
        refine lv_iload_n hx hb dX11_poke_28 rfl (lv_at hl 2 rfl) ?_
        refine lv_i2b (v := ((v2).toInt8.toInt32)) hx hb dX11_poke_29 rfl ?_
        obtain ⟨n4, h⟩ := grd h
        refine sX1 (f := tp) C hI hK hP hS rfl n4 dX11_poke_30 (fun H locs hP hS => ?_)
        have hP : va_P D vwCl (GX cy ad tk sp nm (upd tp (v1).toNatClampNeg (vp_nar .byte ((v2).toInt8.toInt32))) kp cu se ur ab lo im sy un en ra li i2) H := hP
        refine lv_iconst (v := (1 : Int32)) hx hb dX11_poke_31 (by decide) ?_
        obtain rfl := Option.some.inj h
        exact W.zret (ty := .boolean) hx hb hr (by decide) (fun t ht _ => ⟨rfl, by rw [ht]; exact hP, hS.F ht⟩) hS.2.2 dX11_poke_32 hlk
      · rw [if_neg c3] at h
        refine lv_iconst (v := (0 : Int32)) hx hb dX11_poke_21 (by decide) ?_
        obtain rfl := Option.some.inj h
        exact W.zret (ty := .boolean) hx hb hr (by decide) (fun t ht _ => ⟨rfl, by rw [ht]; exact hP, hS.F ht⟩) hS.2.2 dX11_poke_22 hlk
theorem kX11_poke (hI : Apart ad 89) {v1 : Int32} {v2 : Int32} {q : Int32 × Ttp} (h : X11_poke nm tp v1 v2 = some q) : Met l yX11_poke (.code yX11_poke cX11_poke 3 (some .boolean) :: WA) ({ frames := 0, cells := 0, slots := 0, locals := 0 } : Room) (va_Pc [.ref (ad 0), .int v1, .int v2] (PR D cy (GX cy ad tk sp nm tp kp cu se ur ab lo im sy un en ra li i2))) (QR (some (.int q.1)) D (GX cy ad tk sp nm q.2 kp cu se ur ab lo im sy un en ra li i2) (Ac ad 89)) 0 0 (Ac ad 89) :=
  met_of (by decide) (Nat.le_of_ble_eq_true rfl) (fun p e s m below meth c ls C hP hK hN hl => bX11_poke_0 C hI hK hN h hl hP va_S.rf)
def X11_takeSpare_66 (nm : Tnm) (tp : Ttp)  (kp : Tkp) (lo : Tlo)  : Option (Tkp × Tlo) := (letq (X5_forget lo) fun q1 => some (kp, q1))
set_option maxRecDepth 20000 in
theorem bX11_takeSpare_66 (C : Cx p s m args meth c cX11_takeSpare 2 none RX11 (.code yX11_takeSpare cX11_takeSpare 2 none)) (hI : Apart ad 89) (hK : va_K D vwCl (tysX cy) s) (hN : NW s)  {q : Tkp × Tlo}   (h : X11_takeSpare_66 nm tp kp lo = some q) {ls : Array Slot} (hl : lv_has ls 2 [(0, .ref (ad 0))]) {H : Heap} {locs : List Loc} (hP : va_P D vwCl (GX cy ad (ad 21) (ad 55) nm tp kp cu se ur ab lo im sy un en ra li i2) H) (hS : va_S (Ac ad 89) s.heap H locs) : W p l e ({ frames := 1, cells := 0, slots := 0, locals := 20 } : Room) s m args below meth c H locs 0 0 (MQ below (QR none D (GX cy ad (ad 21) (ad 55) nm tp q.1 cu se ur ab q.2 im sy un en ra li i2) (Ac ad 89)) args s 0 0 (Ac ad 89)) (F0 m 66 ls []) := by
  obtain ⟨hx, hb, hml, hown, hts, hr, hlk⟩ := id C
  unfold X11_takeSpare_66 at h
  refine lv_aload_n hx hb dX11_takeSpare_66 rfl (lv_at hl 0 rfl) ?_
  refine gX0_5 C hK hP w487 dX11_takeSpare_67 ?_
  obtain ⟨q1, h2, h⟩ := lets h
  refine cRv (run_V (rest := []) C (kX5_forget hI h2) caX5_forget w1119 ⟨rfl, rfl, Nat.le_of_ble_eq_true rfl, Nat.le_of_ble_eq_true rfl⟩ hK hN hP (rX19 hK hP) rfl hl.1 rfl (Nat.le_of_ble_eq_true rfl) dX11_takeSpare_70 ⟨Nat.zero_le _, Nat.zero_le _⟩) hS (fun H locs hP hS => ?_)
  have hP : va_P D vwCl (GX cy ad (ad 21) (ad 55) nm tp kp cu se ur ab q1 im sy un en ra li i2) H := hP
  obtain rfl := Option.some.inj h
  exact W.vret hx hb hr (fun t ht _ => ⟨rfl, by rw [ht]; exact hP, hS.F ht⟩) hS.2.2 dX11_takeSpare_73 hlk
def X11_takeSpare (nm : Tnm) (tp : Ttp) (kp : Tkp) (lo : Tlo)  : Option (Tkp × Tlo) := (if nm < 0 then X11_takeSpare_66 nm tp kp lo else (if (8000 : Int32) < nm then X11_takeSpare_66 nm tp kp lo else (if (8000 : Int32) < nm then X11_takeSpare_66 nm tp kp lo else (if cpOK tp nm = true then X11_takeSpare_66 nm tp (cpy0 tp kp nm) lo else none))))
set_option maxRecDepth 20000 in
theorem bX11_takeSpare_0 (C : Cx p s m args meth c cX11_takeSpare 2 none RX11 (.code yX11_takeSpare cX11_takeSpare 2 none)) (hI : Apart ad 89) (hK : va_K D vwCl (tysX cy) s) (hN : NW s)  {q : Tkp × Tlo}   (h : X11_takeSpare nm tp kp lo = some q) {ls : Array Slot} (hl : lv_has ls 2 [(0, .ref (ad 0))]) {H : Heap} {locs : List Loc} (hP : va_P D vwCl (GX cy ad (ad 55) (ad 21) nm tp kp cu se ur ab lo im sy un en ra li i2) H) (hS : va_S (Ac ad 89) s.heap H locs) : W p l e ({ frames := 1, cells := 0, slots := 0, locals := 20 } : Room) s m args below meth c H locs 0 0 (MQ below (QR none D (GX cy ad (ad 21) (ad 55) nm tp q.1 cu se ur ab q.2 im sy un en ra li i2) (Ac ad 89)) args s 0 0 (Ac ad 89)) (F0 m 0 ls []) := by
  obtain ⟨hx, hb, hml, hown, hts, hr, hlk⟩ := id C
  unfold X11_takeSpare at h
  refine lv_aload_n hx hb dX11_takeSpare_0 rfl (lv_at hl 0 rfl) ?_
  refine gX0_6 C hK hP w488 dX11_takeSpare_1 ?_
  refine lv_astore_n (lv' := [(1, .ref (ad 55)), (0, .ref (ad 0))]) hx hb dX11_takeSpare_4 rfl hl (by decide) rfl (fun ls hl => ?_)
  refine lv_aload_n hx hb dX11_takeSpare_5 rfl (lv_at hl 1 rfl) ?_
  refine lv_aload_n hx hb dX11_takeSpare_6 rfl (lv_at hl 1 rfl) ?_
  refine gX0_7 C hK hP w489 dX11_takeSpare_7 ?_
  refine pX0_6 (v := ad 21) C hI hK hP hS w488 dX11_takeSpare_10 (fun H locs hP hS => ?_)
  have hP : va_P D vwCl (GX cy ad (ad 21) (ad 21) nm tp kp cu se ur ab lo im sy un en ra li i2) H := hP
  refine lv_aload_n hx hb dX11_takeSpare_13 rfl (lv_at hl 1 rfl) ?_
  refine lv_aload_n hx hb dX11_takeSpare_14 rfl (lv_at hl 0 rfl) ?_
  refine pX0_7 (v := ad 55) C hI hK hP hS w489 dX11_takeSpare_15 (fun H locs hP hS => ?_)
  have hP : va_P D vwCl (GX cy ad (ad 21) (ad 55) nm tp kp cu se ur ab lo im sy un en ra li i2) H := hP
  refine lv_aload_n hx hb dX11_takeSpare_18 rfl (lv_at hl 1 rfl) ?_
  refine gX0_8 (v := nm) C hK hP rfl w490 dX11_takeSpare_19 ?_
  refine lv_if_lt (tgt := 66) hx hb dX11_takeSpare_22 (by decide) (fun c1 => ?_) (fun c1 => ?_)
  · rw [if_pos c1] at h
    exact bX11_takeSpare_66 C hI hK hN h (lv_sub hl [1] rfl) hP hS
  · rw [if_neg c1] at h
    refine lv_aload_n hx hb dX11_takeSpare_25 rfl (lv_at hl 1 rfl) ?_
    refine gX0_8 (v := nm) C hK hP rfl w490 dX11_takeSpare_26 ?_
    refine lv_aload_n hx hb dX11_takeSpare_29 rfl (lv_at hl 1 rfl) ?_
    refine gX0_0 C hK hP w482 dX11_takeSpare_30 ?_
    refine lX1 C hK hP dX11_takeSpare_33 ?_
    refine lv_icmp_gt (tgt := 66) hx hb dX11_takeSpare_34 (by decide) (fun c2 => ?_) (fun c2 => ?_)
    · rw [if_pos c2] at h
      exact bX11_takeSpare_66 C hI hK hN h (lv_sub hl [1] rfl) hP hS
    · rw [if_neg c2] at h
      refine lv_aload_n hx hb dX11_takeSpare_37 rfl (lv_at hl 1 rfl) ?_
      refine gX0_8 (v := nm) C hK hP rfl w490 dX11_takeSpare_38 ?_
      refine lv_aload_n hx hb dX11_takeSpare_41 rfl (lv_at hl 1 rfl) ?_
      refine gX0_1 C hK hP w483 dX11_takeSpare_42 ?_
      refine lX2 C hK hP dX11_takeSpare_45 ?_
      refine lv_icmp_gt (tgt := 66) hx hb dX11_takeSpare_46 (by decide) (fun c3 => ?_) (fun c3 => ?_)
      · rw [if_pos c3] at h
        exact bX11_takeSpare_66 C hI hK hN h (lv_sub hl [1] rfl) hP hS
      · rw [if_neg c3] at h
        refine lv_aload_n hx hb dX11_takeSpare_49 rfl (lv_at hl 1 rfl) ?_
        refine gX0_0 C hK hP w482 dX11_takeSpare_50 ?_
        refine lv_iconst (v := (0 : Int32)) hx hb dX11_takeSpare_53 (by decide) ?_
        refine lv_aload_n hx hb dX11_takeSpare_54 rfl (lv_at hl 1 rfl) ?_
        refine gX0_1 C hK hP w483 dX11_takeSpare_55 ?_
        refine lv_iconst (v := (0 : Int32)) hx hb dX11_takeSpare_58 (by decide) ?_
        refine lv_aload_n hx hb dX11_takeSpare_59 rfl (lv_at hl 1 rfl) ?_
        refine gX0_8 (v := nm) C hK hP rfl w490 dX11_takeSpare_60 ?_
        obtain ⟨n4, h⟩ := grd h
        obtain ⟨n4a, n4b, n4c⟩ := cpOK_of n4
        refine va_copyi (rest := []) hx hb (hml.trans hl.1.symm) hown (hts _ (List.mem_cons_of_mem _ w1116)) (hts _ (List.mem_cons_of_mem _ w1118)) (hts _ (List.mem_cons_of_mem _ w1117)) (hts _ (List.mem_cons_of_mem _ w114)) hK hP (GX_D hI) hS 1 2 0 0 (ty := .byte) rfl rfl rfl rfl rfl (by decide) (by decide) n4a n4b n4b n4c (Nat.le_of_ble_eq_true rfl) (by decide) dX11_takeSpare_63 (fun H locs hP _ hS => ?_)
        have hP : va_P D vwCl (GX cy ad (ad 21) (ad 55) nm tp (cpy0 tp kp nm) cu se ur ab lo im sy un en ra li i2) H := hP
        exact bX11_takeSpare_66 C hI hK hN h (lv_sub hl [1] rfl) hP hS
theorem kX11_takeSpare (hI : Apart ad 89)  {q : Tkp × Tlo} (h : X11_takeSpare nm tp kp lo = some q) : Met l yX11_takeSpare (.code yX11_takeSpare cX11_takeSpare 2 none :: WA) ({ frames := 1, cells := 0, slots := 0, locals := 20 } : Room) (va_Pc [.ref (ad 0)] (PR D cy (GX cy ad (ad 55) (ad 21) nm tp kp cu se ur ab lo im sy un en ra li i2))) (QR none D (GX cy ad (ad 21) (ad 55) nm tp q.1 cu se ur ab q.2 im sy un en ra li i2) (Ac ad 89)) 0 0 (Ac ad 89) :=
  met_of (by decide) (Nat.le_of_ble_eq_true rfl) (fun p e s m below meth c ls C hP hK hN hl => bX11_takeSpare_0 C hI hK hN h hl hP va_S.rf)
theorem tkL_ok {ad : Nat → Nat} {cu : Tcu} (h : ¬ X1_sound cu = 0) : tkL ad cu.2.2.2.1 = ad 21 := by
  unfold tkL
  unfold X1_sound at h
  by_cases c : cu.2.2.2.1 = 0
  · rw [if_pos c]
  · rw [if_neg c] at h; exact absurd rfl h
theorem spL_ok {ad : Nat → Nat} {cu : Tcu} (h : ¬ X1_sound cu = 0) : spL ad cu.2.2.2.1 = ad 55 := by
  unfold spL
  unfold X1_sound at h
  by_cases c : cu.2.2.2.1 = 0
  · rw [if_pos c]
  · rw [if_neg c] at h; exact absurd rfl h
theorem tkL_bad {ad : Nat → Nat} {cu : Tcu} (h : X1_sound cu = 0) : tkL ad cu.2.2.2.1 = ad 55 := by
  unfold tkL
  unfold X1_sound at h
  by_cases c : cu.2.2.2.1 = 0
  · rw [if_pos c] at h; exact absurd h (by decide)
  · rw [if_neg c]
theorem spL_bad {ad : Nat → Nat} {cu : Tcu} (h : X1_sound cu = 0) : spL ad cu.2.2.2.1 = ad 21 := by
  unfold spL
  unfold X1_sound at h
  by_cases c : cu.2.2.2.1 = 0
  · rw [if_pos c] at h; exact absurd h (by decide)
  · rw [if_neg c]
def X11_load (nm : Tnm) (tp : Ttp) (kp : Tkp) (cu : Tcu) (se : Tse) (ur : Tur) (ab : Tab) (lo : Tlo) (im : Tim) (sy : Tsy) (un : Tun) (en : Ten) (ra : Tra) (li : Tli)  : Option (Int32 × Tkp × Tcu × Tse × Tur × Tab × Tlo × Tim × Tsy × Tun × Ten × Tra × Tli) := (letq (X1_open cu nm) fun q1 => ((X7_read tp q1 se).bind fun q3 => ((X8_read tp q3.1 q3.2 sy).bind fun q5 => ((X9_readAll tp q5.1 q3.2 ur ab un en).bind fun q7 => ((X6_readAll tp q7.1 q3.2 q7.2.2.2.1 q7.2.2.2.2 ra).bind fun q9 => ((X4_readAll tp q9.1 q3.2 q7.2.2.2.1 q9.2.1 li).bind fun q11 => (if (X1_sound q11.1) = 0 then some ((-1 : Int32), kp, q11.1, q3.2, q7.2.1, q7.2.2.1, lo, (X7_total q3.2), q5.2, q11.2.1, q9.2.1, q9.2.2, q11.2.2) else ((X11_takeSpare nm tp kp lo).bind fun q14 => some ((X2_total q9.2.1), q14.1, q11.1, q3.2, q7.2.1, q7.2.2.1, q14.2, (X7_total q3.2), q5.2, q11.2.1, q9.2.1, q9.2.2, q11.2.2)))))))))
set_option maxRecDepth 20000 in
theorem bX11_load_0 (C : Cx p s m args meth c cX11_load 1 (some .int) RX11 (.code yX11_load cX11_load 1 (some .int))) (hI : Apart ad 89) (hK : va_K D vwCl (tysX cy) s) (hN : NW s) (hF : SF t adK adV (Ac ad 89) s s.heap)  {q : Int32 × Tkp × Tcu × Tse × Tur × Tab × Tlo × Tim × Tsy × Tun × Ten × Tra × Tli}   (h : X11_load nm tp kp cu se ur ab lo im sy un en ra li = some q) {ls : Array Slot} (hl : lv_has ls 1 [(0, .ref (ad 0))]) {H : Heap} {locs : List Loc} (hP : va_P D vwCl (GX cy ad (ad 55) (ad 21) nm tp kp cu se ur ab lo im sy un en ra li i2) H) (hS : va_S (Ac ad 89) s.heap H locs) : W p l e ({ frames := 7, cells := 0, slots := 0, locals := 191 } : Room) s m args below meth c H locs 0 0 (MQ below (QR (some (.int q.1)) D (GX cy ad (tkL ad q.2.2.1.2.2.2.1) (spL ad q.2.2.1.2.2.2.1) nm tp q.2.1 q.2.2.1 q.2.2.2.1 q.2.2.2.2.1 q.2.2.2.2.2.1 q.2.2.2.2.2.2.1 q.2.2.2.2.2.2.2.1 q.2.2.2.2.2.2.2.2.1 q.2.2.2.2.2.2.2.2.2.1 q.2.2.2.2.2.2.2.2.2.2.1 q.2.2.2.2.2.2.2.2.2.2.2.1 q.2.2.2.2.2.2.2.2.2.2.2.2 i2) (Ac ad 89)) args s 0 0 (Ac ad 89)) (F0 m 0 ls []) := by
  obtain ⟨hx, hb, hml, hown, hts, hr, hlk⟩ := id C
  unfold X11_load at h
  refine lv_aload_n hx hb dX11_load_0 rfl (lv_at hl 0 rfl) ?_
  refine gX0_2 C hK hP w484 dX11_load_1 ?_
  refine lv_aload_n hx hb dX11_load_4 rfl (lv_at hl 0 rfl) ?_
  refine gX0_8 (v := nm) C hK hP rfl w490 dX11_load_5 ?_
  obtain ⟨q1, h2, h⟩ := lets h
  refine cRv (run_V (rest := []) C (kX1_open hI h2) caX1_open w530 ⟨rfl, rfl, Nat.le_of_ble_eq_true rfl, Nat.le_of_ble_eq_true rfl⟩ hK hN hP (rX3 hK hP) rfl hl.1 rfl (Nat.le_of_ble_eq_true rfl) dX11_load_8 ⟨Nat.zero_le _, Nat.zero_le _⟩) hS (fun H locs hP hS => ?_)
  have hP : va_P D vwCl (GX cy ad (ad 55) (ad 21) nm tp kp q1 se ur ab lo im sy un en ra li i2) H := hP
  refine lv_aload_n hx hb dX11_load_11 rfl (lv_at hl 0 rfl) ?_
  refine gX0_3 C hK hP w485 dX11_load_12 ?_
  refine lv_aload_n hx hb dX11_load_15 rfl (lv_at hl 0 rfl) ?_
  refine gX0_2 C hK hP w484 dX11_load_16 ?_
  obtain ⟨q3, h4, h⟩ := bnd h
  refine cRv (run_Vg (rest := []) C (kX7_read hI h4) caX7_read w538 ⟨rfl, rfl, Nat.le_of_ble_eq_true rfl, Nat.le_of_ble_eq_true rfl⟩ PS.blind (PS.at hK hN hP hF hS) (rX4 hK hP) rfl hl.1 rfl (Nat.le_of_ble_eq_true rfl) dX11_load_19 ⟨Nat.zero_le _, Nat.zero_le _⟩) hS (fun H locs hP hS => ?_)
  have hP : va_P D vwCl (GX cy ad (ad 55) (ad 21) nm tp kp q3.1 q3.2 ur ab lo im sy un en ra li i2) H := hP
  refine lv_aload_n hx hb dX11_load_22 rfl (lv_at hl 0 rfl) ?_
  refine gX0_7 C hK hP w489 dX11_load_23 ?_
  refine lv_aload_n hx hb dX11_load_26 rfl (lv_at hl 0 rfl) ?_
  refine gX0_3 C hK hP w485 dX11_load_27 ?_
  refine cPi (run_V (rest := [.ref (ad 21)]) C (kX7_total rfl) caX7_total w664 ⟨rfl, rfl, Nat.le_of_ble_eq_true rfl, Nat.le_of_ble_eq_true rfl⟩ hK hN hP (rX4 hK hP) rfl hl.1 rfl (Nat.le_of_ble_eq_true rfl) dX11_load_30 ⟨Nat.zero_le _, Nat.zero_le _⟩) ?_
  refine pX21_5N (v := (X7_total q3.2)) C hI hK hP hS hN w468 dX11_load_33 (fun H locs hP hS => ?_)
  have hP : va_P D vwCl (GX cy ad (ad 55) (ad 21) nm tp kp q3.1 q3.2 ur ab lo (X7_total q3.2) sy un en ra li i2) H := hP
  refine lv_aload_n hx hb dX11_load_36 rfl (lv_at hl 0 rfl) ?_
  refine gX0_7 C hK hP w489 dX11_load_37 ?_
  refine gX21_0N C hK hP hN w450 dX11_load_40 ?_
  refine lv_aload_n hx hb dX11_load_43 rfl (lv_at hl 0 rfl) ?_
  refine gX0_2 C hK hP w484 dX11_load_44 ?_
  refine lv_aload_n hx hb dX11_load_47 rfl (lv_at hl 0 rfl) ?_
  refine gX0_3 C hK hP w485 dX11_load_48 ?_
  obtain ⟨q5, h6, h⟩ := bnd h
  refine cRv (run_V (rest := []) C (kX8_read hI h6) caX8_read w668 ⟨rfl, rfl, Nat.le_of_ble_eq_true rfl, Nat.le_of_ble_eq_true rfl⟩ hK hN hP (rX22 hK hP) rfl hl.1 rfl (Nat.le_of_ble_eq_true rfl) dX11_load_51 ⟨Nat.zero_le _, Nat.zero_le _⟩) hS (fun H locs hP hS => ?_)
  have hP : va_P D vwCl (GX cy ad (ad 55) (ad 21) nm tp kp q5.1 q3.2 ur ab lo (X7_total q3.2) q5.2 un en ra li i2) H := hP
  refine lv_aload_n hx hb dX11_load_54 rfl (lv_at hl 0 rfl) ?_
  refine gX0_4 C hK hP w486 dX11_load_55 ?_
  refine lv_aload_n hx hb dX11_load_58 rfl (lv_at hl 0 rfl) ?_
  refine gX0_7 C hK hP w489 dX11_load_59 ?_
  obtain ⟨q7, h8, h⟩ := bnd h
  refine cRv (run_V (rest := []) C (kX9_readAll hI h8) caX9_readAll w693 ⟨rfl, rfl, Nat.le_of_ble_eq_true rfl, Nat.le_of_ble_eq_true rfl⟩ hK hN hP (rX8 hK hP) rfl hl.1 rfl (Nat.le_of_ble_eq_true rfl) dX11_load_62 ⟨Nat.zero_le _, Nat.zero_le _⟩) hS (fun H locs hP hS => ?_)
  have hP : va_P D vwCl (GX cy ad (ad 55) (ad 21) nm tp kp q7.1 q3.2 q7.2.1 q7.2.2.1 lo (X7_total q3.2) q5.2 q7.2.2.2.1 q7.2.2.2.2 ra li i2) H := hP
  refine lv_aload_n hx hb dX11_load_65 rfl (lv_at hl 0 rfl) ?_
  refine gX0_7 C hK hP w489 dX11_load_66 ?_
  refine gX21_3N C hK hP hN w464 dX11_load_69 ?_
  refine lv_aload_n hx hb dX11_load_72 rfl (lv_at hl 0 rfl) ?_
  refine gX0_2 C hK hP w484 dX11_load_73 ?_
  refine lv_aload_n hx hb dX11_load_76 rfl (lv_at hl 0 rfl) ?_
  refine gX0_3 C hK hP w485 dX11_load_77 ?_
  refine lv_aload_n hx hb dX11_load_80 rfl (lv_at hl 0 rfl) ?_
  refine gX0_7 C hK hP w489 dX11_load_81 ?_
  obtain ⟨q9, h10, h⟩ := bnd h
  refine cRv (run_V (rest := []) C (kX6_readAll hI h10) caX6_readAll w937 ⟨rfl, rfl, Nat.le_of_ble_eq_true rfl, Nat.le_of_ble_eq_true rfl⟩ hK hN hP (rX45 hK hP) rfl hl.1 rfl (Nat.le_of_ble_eq_true rfl) dX11_load_84 ⟨Nat.zero_le _, Nat.zero_le _⟩) hS (fun H locs hP hS => ?_)
  have hP : va_P D vwCl (GX cy ad (ad 55) (ad 21) nm tp kp q9.1 q3.2 q7.2.1 q7.2.2.1 lo (X7_total q3.2) q5.2 q7.2.2.2.1 q9.2.1 q9.2.2 li i2) H := hP
  refine lv_aload_n hx hb dX11_load_87 rfl (lv_at hl 0 rfl) ?_
  refine gX0_7 C hK hP w489 dX11_load_88 ?_
  refine gX21_4N C hK hP hN w467 dX11_load_91 ?_
  refine lv_aload_n hx hb dX11_load_94 rfl (lv_at hl 0 rfl) ?_
  refine gX0_2 C hK hP w484 dX11_load_95 ?_
  refine lv_aload_n hx hb dX11_load_98 rfl (lv_at hl 0 rfl) ?_
  refine gX0_3 C hK hP w485 dX11_load_99 ?_
  refine lv_aload_n hx hb dX11_load_102 rfl (lv_at hl 0 rfl) ?_
  refine gX0_7 C hK hP w489 dX11_load_103 ?_
  obtain ⟨q11, h12, h⟩ := bnd h
  refine cRv (run_Vg (rest := []) C (kX4_readAll hI h12) caX4_readAll w983 ⟨rfl, rfl, Nat.le_of_ble_eq_true rfl, Nat.le_of_ble_eq_true rfl⟩ PS.blind (PS.at hK hN hP hF hS) (rX48 hK hP) rfl hl.1 rfl (Nat.le_of_ble_eq_true rfl) dX11_load_106 ⟨Nat.zero_le _, Nat.zero_le _⟩) hS (fun H locs hP hS => ?_)
  have hP : va_P D vwCl (GX cy ad (ad 55) (ad 21) nm tp kp q11.1 q3.2 q7.2.1 q7.2.2.1 lo (X7_total q3.2) q5.2 q11.2.1 q9.2.1 q9.2.2 q11.2.2 i2) H := hP
  refine lv_aload_n hx hb dX11_load_109 rfl (lv_at hl 0 rfl) ?_
  refine gX0_2 C hK hP w484 dX11_load_110 ?_
  refine cPi (run_V (rest := []) C (kX1_sound rfl) caX1_sound w1111 ⟨rfl, rfl, Nat.le_of_ble_eq_true rfl, Nat.le_of_ble_eq_true rfl⟩ hK hN hP (rX3 hK hP) rfl hl.1 rfl (Nat.le_of_ble_eq_true rfl) dX11_load_113 ⟨Nat.zero_le _, Nat.zero_le _⟩) ?_
  refine lv_if_ne (tgt := 121) hx hb dX11_load_116 (by decide) (fun c13 => ?_) (fun c13 => ?_)
  · rw [if_neg c13] at h
    refine lv_aload_n hx hb dX11_load_121 rfl (lv_at hl 0 rfl) ?_
    obtain ⟨q14, h15, h⟩ := bnd h
    refine cRv (run_V (rest := []) C (kX11_takeSpare hI h15) caX11_takeSpare w1112 ⟨rfl, rfl, Nat.le_of_ble_eq_true rfl, Nat.le_of_ble_eq_true rfl⟩ hK hN hP (rX0 hK hP) rfl hl.1 rfl (Nat.le_of_ble_eq_true rfl) dX11_load_122 ⟨Nat.zero_le _, Nat.zero_le _⟩) hS (fun H locs hP hS => ?_)
    have hP : va_P D vwCl (GX cy ad (ad 21) (ad 55) nm tp q14.1 q11.1 q3.2 q7.2.1 q7.2.2.1 q14.2 (X7_total q3.2) q5.2 q11.2.1 q9.2.1 q9.2.2 q11.2.2 i2) H := hP
    refine lv_aload_n hx hb dX11_load_125 rfl (lv_at hl 0 rfl) ?_
    refine gX0_6 C hK hP w488 dX11_load_126 ?_
    refine gX21_2N C hK hP hN w462 dX11_load_129 ?_
    refine cPi (run_V (rest := []) C (kX2_total rfl) caX2_total w1123 ⟨rfl, rfl, Nat.le_of_ble_eq_true rfl, Nat.le_of_ble_eq_true rfl⟩ hK hN hP (rX34 hK hP) rfl hl.1 rfl (Nat.le_of_ble_eq_true rfl) dX11_load_132 ⟨Nat.zero_le _, Nat.zero_le _⟩) ?_
    obtain rfl := Option.some.inj h
    have hP : va_P D vwCl (GX cy ad (tkL ad q11.1.2.2.2.1) (spL ad q11.1.2.2.2.1) nm tp q14.1 q11.1 q3.2 q7.2.1 q7.2.2.1 q14.2 (X7_total q3.2) q5.2 q11.2.1 q9.2.1 q9.2.2 q11.2.2 i2) H := by rw [tkL_ok (by assumption), spL_ok (by assumption)]; exact hP
    exact W.iret hx hb hr (fun t ht _ => ⟨rfl, by rw [ht]; exact hP, hS.F ht⟩) hS.2.2 dX11_load_135 hlk
  · rw [if_pos c13] at h
    refine lv_iconst (v := (-1 : Int32)) hx hb dX11_load_119 (by decide) ?_
    obtain rfl := Option.some.inj h
    have hP : va_P D vwCl (GX cy ad (tkL ad q11.1.2.2.2.1) (spL ad q11.1.2.2.2.1) nm tp kp q11.1 q3.2 q7.2.1 q7.2.2.1 lo (X7_total q3.2) q5.2 q11.2.1 q9.2.1 q9.2.2 q11.2.2 i2) H := by rw [tkL_bad (by assumption), spL_bad (by assumption)]; exact hP
    exact W.iret hx hb hr (fun t ht _ => ⟨rfl, by rw [ht]; exact hP, hS.F ht⟩) hS.2.2 dX11_load_120 hlk
theorem kX11_load (hI : Apart ad 89)  {q : Int32 × Tkp × Tcu × Tse × Tur × Tab × Tlo × Tim × Tsy × Tun × Ten × Tra × Tli} (h : X11_load nm tp kp cu se ur ab lo im sy un en ra li = some q) : Met l yX11_load (.code yX11_load cX11_load 1 (some .int) :: WA) ({ frames := 7, cells := 0, slots := 0, locals := 191 } : Room) (va_Pc [.ref (ad 0)] (PS D cy t adK adV (Ac ad 89) (GX cy ad (ad 55) (ad 21) nm tp kp cu se ur ab lo im sy un en ra li i2))) (QR (some (.int q.1)) D (GX cy ad (tkL ad q.2.2.1.2.2.2.1) (spL ad q.2.2.1.2.2.2.1) nm tp q.2.1 q.2.2.1 q.2.2.2.1 q.2.2.2.2.1 q.2.2.2.2.2.1 q.2.2.2.2.2.2.1 q.2.2.2.2.2.2.2.1 q.2.2.2.2.2.2.2.2.1 q.2.2.2.2.2.2.2.2.2.1 q.2.2.2.2.2.2.2.2.2.2.1 q.2.2.2.2.2.2.2.2.2.2.2.1 q.2.2.2.2.2.2.2.2.2.2.2.2 i2) (Ac ad 89)) 0 0 (Ac ad 89) :=
  met_g (by decide) (Nat.le_of_ble_eq_true rfl) (fun p e s m below meth c ls C hB hl => bX11_load_0 C hI hB.1.2.1 hB.1.2.2 hB.2 h hl hB.1.1 va_S.rf)
def X11_fault (cu : Tcu) (v1 : Int32) : Int32 := (if v1 = (0 : Int32) then (X1_faultNumber cu) else (if v1 = (1 : Int32) then (X1_faultPlace cu) else (-1 : Int32)))
set_option maxRecDepth 20000 in
theorem bX11_fault_0 (C : Cx p s m args meth c cX11_fault 2 (some .int) RX11 (.code yX11_fault cX11_fault 2 (some .int))) (hK : va_K D vwCl (tysX cy) s) (hN : NW s)  {q : Int32}  {v1 : Int32} (h : X11_fault cu v1 = q) {ls : Array Slot} (hl : lv_has ls 2 [(0, .ref (ad 0)), (1, .int v1)]) (hP : va_P D vwCl (GX cy ad tk sp nm tp kp cu se ur ab lo im sy un en ra li i2) s.heap) : W p l e ({ frames := 1, cells := 0, slots := 0, locals := 20 } : Room) s m args below meth c s.heap [] 0 0 (MQ below (QP (some (.int q))) args s 0 0 (fun _ => False)) (F0 m 0 ls []) := by
  obtain ⟨hx, hb, hml, hown, hts, hr, hlk⟩ := id C
  unfold X11_fault at h
  refine lv_iload_n hx hb dX11_fault_0 rfl (lv_at hl 1 rfl) ?_
  by_cases c1 : v1 = (0 : Int32)
  · rw [if_pos c1] at h
    rw [c1]
    refine lv_lookup (off := 27) (tgt := 28) hx hb dX11_fault_1 (by decide) (by decide) (by decide) ?_
    refine lv_aload_n hx hb dX11_fault_28 rfl (lv_at hl 0 rfl) ?_
    refine gX0_2 C hK hP w484 dX11_fault_29 ?_
    refine cPi (run_V (rest := []) C (kX1_faultNumber rfl) caX1_faultNumber w1128 ⟨rfl, rfl, Nat.le_of_ble_eq_true rfl, Nat.le_of_ble_eq_true rfl⟩ hK hN hP (rX3 hK hP) rfl hl.1 rfl (Nat.le_of_ble_eq_true rfl) dX11_fault_32 ⟨Nat.zero_le _, Nat.zero_le _⟩) ?_
    obtain rfl := h
    exact W.iret hx hb hr (fun t ht _ => ⟨rfl, ht⟩) (fun _ h9 => by cases h9) dX11_fault_35 hlk
  rw [if_neg c1] at h
  by_cases c2 : v1 = (1 : Int32)
  · rw [if_pos c2] at h
    rw [c2]
    refine lv_lookup (off := 35) (tgt := 36) hx hb dX11_fault_1 (by decide) (by decide) (by decide) ?_
    refine lv_aload_n hx hb dX11_fault_36 rfl (lv_at hl 0 rfl) ?_
    refine gX0_2 C hK hP w484 dX11_fault_37 ?_
    refine cPi (run_V (rest := []) C (kX1_faultPlace rfl) caX1_faultPlace w1132 ⟨rfl, rfl, Nat.le_of_ble_eq_true rfl, Nat.le_of_ble_eq_true rfl⟩ hK hN hP (rX3 hK hP) rfl hl.1 rfl (Nat.le_of_ble_eq_true rfl) dX11_fault_40 ⟨Nat.zero_le _, Nat.zero_le _⟩) ?_
    obtain rfl := h
    exact W.iret hx hb hr (fun t ht _ => ⟨rfl, ht⟩) (fun _ h9 => by cases h9) dX11_fault_43 hlk
  rw [if_neg c2] at h
  refine lv_lookup (off := 43) (tgt := 44) hx hb dX11_fault_1 (by decide) (by rw [lv_osw c1 (by decide)]; rw [lv_osw c2 (by decide)]; rfl) (by decide) ?_
  refine lv_iconst (v := (-1 : Int32)) hx hb dX11_fault_44 (by decide) ?_
  obtain rfl := h
  exact W.iret hx hb hr (fun t ht _ => ⟨rfl, ht⟩) (fun _ h9 => by cases h9) dX11_fault_45 hlk
theorem kX11_fault  {v1 : Int32} {q : Int32} (h : X11_fault cu v1 = q) : Met l yX11_fault (.code yX11_fault cX11_fault 2 (some .int) :: WA) ({ frames := 1, cells := 0, slots := 0, locals := 20 } : Room) (va_Pc [.ref (ad 0), .int v1] (PR D cy (GX cy ad tk sp nm tp kp cu se ur ab lo im sy un en ra li i2))) (QP (some (.int q))) 0 0 (fun _ => False) :=
  met_of (by decide) (Nat.le_of_ble_eq_true rfl) (fun p e s m below meth c ls C hP hK hN hl => bX11_fault_0 C hK hN h hl hP)
def X11_entry (en : Ten) (v1 : Int32) (v2 : Int32) : Option (Int32) := (if (X2_has en v1) = 0 then some (-1 : Int32) else (if v2 = (0 : Int32) then some (((X2_tagOf en v1)).toInt32) else (if v2 = (1 : Int32) then some (X2_parentOf en v1) else (if v2 = (2 : Int32) then some (X2_unitOf en v1) else (if v2 = (3 : Int32) then some (X2_originOf en v1) else (if v2 = (4 : Int32) then some (X2_rangeTotalOf en v1) else (if v2 = (5 : Int32) then some (X2_placeOf en v1) else (if v2 = (6 : Int32) then ((X2_namedFor en v1).bind fun q9 => some (X2_nameLengthOf en q9)) else (if v2 = (7 : Int32) then some (((X2_valueOr en v1 (7 : Int32) (-1 : Int64))).toInt32) else (if v2 = (8 : Int32) then some (((X2_valueOr en v1 (8 : Int32) (-1 : Int64))).toInt32) else some (-1 : Int32)))))))))))
set_option maxRecDepth 20000 in
theorem bX11_entry_0 (C : Cx p s m args meth c cX11_entry 4 (some .int) RX11 (.code yX11_entry cX11_entry 4 (some .int))) (hK : va_K D vwCl (tysX cy) s) (hN : NW s)  {q : Int32}  {v1 : Int32} {v2 : Int32} (h : X11_entry en v1 v2 = some q) {ls : Array Slot} (hl : lv_has ls 4 [(0, .ref (ad 0)), (1, .int v1), (2, .int v2)]) (hP : va_P D vwCl (GX cy ad (ad 21) (ad 55) nm tp kp cu se ur ab lo im sy un en ra li i2) s.heap) : W p l e ({ frames := 3, cells := 0, slots := 0, locals := 67 } : Room) s m args below meth c s.heap [] 0 0 (MQ below (QP (some (.int q))) args s 0 0 (fun _ => False)) (F0 m 0 ls []) := by
  obtain ⟨hx, hb, hml, hown, hts, hr, hlk⟩ := id C
  unfold X11_entry at h
  refine lv_aload_n hx hb dX11_entry_0 rfl (lv_at hl 0 rfl) ?_
  refine gX0_6 C hK hP w488 dX11_entry_1 ?_
  refine gX21_2N C hK hP hN w462 dX11_entry_4 ?_
  refine lv_astore_n (lv' := [(3, .ref (ad 34)), (0, .ref (ad 0)), (1, .int v1), (2, .int v2)]) hx hb dX11_entry_7 rfl hl (by decide) rfl (fun ls hl => ?_)
  refine lv_aload_n hx hb dX11_entry_8 rfl (lv_at hl 0 rfl) ?_
  refine lv_iload_n hx hb dX11_entry_9 rfl (lv_at hl 2 rfl) ?_
  refine cPi (run_V (rest := []) C (kX2_has rfl) caX2_has w1140 ⟨rfl, rfl, Nat.le_of_ble_eq_true rfl, Nat.le_of_ble_eq_true rfl⟩ hK hN hP (rX34 hK hP) rfl hl.1 rfl (Nat.le_of_ble_eq_true rfl) dX11_entry_10 ⟨Nat.zero_le _, Nat.zero_le _⟩) ?_
  refine lv_if_ne (tgt := 18) hx hb dX11_entry_13 (by decide) (fun c1 => ?_) (fun c1 => ?_)
  · rw [if_neg c1] at h
    refine lv_iload_n hx hb dX11_entry_18 rfl (lv_at hl 3 rfl) ?_
    by_cases c2 : v2 = (0 : Int32)
    · rw [if_pos c2] at h
      rw [c2]
      refine lv_tableIn (off := 49) (tgt := 68) hx hb dX11_entry_19 (by decide) (by decide) (by decide) (by decide) ?_
      refine lv_aload_n hx hb dX11_entry_68 rfl (lv_at hl 0 rfl) ?_
      refine lv_iload_n hx hb dX11_entry_69 rfl (lv_at hl 2 rfl) ?_
      refine cPl (run_V (rest := []) C (kX2_tagOf rfl) caX2_tagOf w1141 ⟨rfl, rfl, Nat.le_of_ble_eq_true rfl, Nat.le_of_ble_eq_true rfl⟩ hK hN hP (rX34 hK hP) rfl hl.1 rfl (Nat.le_of_ble_eq_true rfl) dX11_entry_70 ⟨Nat.zero_le _, Nat.zero_le _⟩) ?_
      refine lv_l2i (v := (((X2_tagOf en v1)).toInt32)) hx hb dX11_entry_73 rfl ?_
      obtain rfl := Option.some.inj h
      exact W.iret hx hb hr (fun t ht _ => ⟨rfl, ht⟩) (fun _ h9 => by cases h9) dX11_entry_74 hlk
    rw [if_neg c2] at h
    by_cases c3 : v2 = (1 : Int32)
    · rw [if_pos c3] at h
      rw [c3]
      refine lv_tableIn (off := 56) (tgt := 75) hx hb dX11_entry_19 (by decide) (by decide) (by decide) (by decide) ?_
      refine lv_aload_n hx hb dX11_entry_75 rfl (lv_at hl 0 rfl) ?_
      refine lv_iload_n hx hb dX11_entry_76 rfl (lv_at hl 2 rfl) ?_
      refine cPi (run_V (rest := []) C (kX2_parentOf rfl) caX2_parentOf w1145 ⟨rfl, rfl, Nat.le_of_ble_eq_true rfl, Nat.le_of_ble_eq_true rfl⟩ hK hN hP (rX34 hK hP) rfl hl.1 rfl (Nat.le_of_ble_eq_true rfl) dX11_entry_77 ⟨Nat.zero_le _, Nat.zero_le _⟩) ?_
      obtain rfl := Option.some.inj h
      exact W.iret hx hb hr (fun t ht _ => ⟨rfl, ht⟩) (fun _ h9 => by cases h9) dX11_entry_80 hlk
    rw [if_neg c3] at h
    by_cases c4 : v2 = (2 : Int32)
    · rw [if_pos c4] at h
      rw [c4]
      refine lv_tableIn (off := 62) (tgt := 81) hx hb dX11_entry_19 (by decide) (by decide) (by decide) (by decide) ?_
      refine lv_aload_n hx hb dX11_entry_81 rfl (lv_at hl 0 rfl) ?_
      refine lv_iload_n hx hb dX11_entry_82 rfl (lv_at hl 2 rfl) ?_
      refine cPi (run_V (rest := []) C (kX2_unitOf rfl) caX2_unitOf w1149 ⟨rfl, rfl, Nat.le_of_ble_eq_true rfl, Nat.le_of_ble_eq_true rfl⟩ hK hN hP (rX34 hK hP) rfl hl.1 rfl (Nat.le_of_ble_eq_true rfl) dX11_entry_83 ⟨Nat.zero_le _, Nat.zero_le _⟩) ?_
      obtain rfl := Option.some.inj h
      exact W.iret hx hb hr (fun t ht _ => ⟨rfl, ht⟩) (fun _ h9 => by cases h9) dX11_entry_86 hlk
    rw [if_neg c4] at h
    by_cases c5 : v2 = (3 : Int32)
    · rw [if_pos c5] at h
      rw [c5]
      refine lv_tableIn (off := 68) (tgt := 87) hx hb dX11_entry_19 (by decide) (by decide) (by decide) (by decide) ?_
      refine lv_aload_n hx hb dX11_entry_87 rfl (lv_at hl 0 rfl) ?_
      refine lv_iload_n hx hb dX11_entry_88 rfl (lv_at hl 2 rfl) ?_
      refine cPi (run_V (rest := []) C (kX2_originOf rfl) caX2_originOf w1150 ⟨rfl, rfl, Nat.le_of_ble_eq_true rfl, Nat.le_of_ble_eq_true rfl⟩ hK hN hP (rX34 hK hP) rfl hl.1 rfl (Nat.le_of_ble_eq_true rfl) dX11_entry_89 ⟨Nat.zero_le _, Nat.zero_le _⟩) ?_
      obtain rfl := Option.some.inj h
      exact W.iret hx hb hr (fun t ht _ => ⟨rfl, ht⟩) (fun _ h9 => by cases h9) dX11_entry_92 hlk
    rw [if_neg c5] at h
    by_cases c6 : v2 = (4 : Int32)
    · rw [if_pos c6] at h
      rw [c6]
      refine lv_tableIn (off := 74) (tgt := 93) hx hb dX11_entry_19 (by decide) (by decide) (by decide) (by decide) ?_
      refine lv_aload_n hx hb dX11_entry_93 rfl (lv_at hl 0 rfl) ?_
      refine lv_iload_n hx hb dX11_entry_94 rfl (lv_at hl 2 rfl) ?_
      refine cPi (run_V (rest := []) C (kX2_rangeTotalOf rfl) caX2_rangeTotalOf w1154 ⟨rfl, rfl, Nat.le_of_ble_eq_true rfl, Nat.le_of_ble_eq_true rfl⟩ hK hN hP (rX34 hK hP) rfl hl.1 rfl (Nat.le_of_ble_eq_true rfl) dX11_entry_95 ⟨Nat.zero_le _, Nat.zero_le _⟩) ?_
      obtain rfl := Option.some.inj h
      exact W.iret hx hb hr (fun t ht _ => ⟨rfl, ht⟩) (fun _ h9 => by cases h9) dX11_entry_98 hlk
    rw [if_neg c6] at h
    by_cases c7 : v2 = (5 : Int32)
    · rw [if_pos c7] at h
      rw [c7]
      refine lv_tableIn (off := 80) (tgt := 99) hx hb dX11_entry_19 (by decide) (by decide) (by decide) (by decide) ?_
      refine lv_aload_n hx hb dX11_entry_99 rfl (lv_at hl 0 rfl) ?_
      refine lv_iload_n hx hb dX11_entry_100 rfl (lv_at hl 2 rfl) ?_
      refine cPi (run_V (rest := []) C (kX2_placeOf rfl) caX2_placeOf w1158 ⟨rfl, rfl, Nat.le_of_ble_eq_true rfl, Nat.le_of_ble_eq_true rfl⟩ hK hN hP (rX34 hK hP) rfl hl.1 rfl (Nat.le_of_ble_eq_true rfl) dX11_entry_101 ⟨Nat.zero_le _, Nat.zero_le _⟩) ?_
      obtain rfl := Option.some.inj h
      exact W.iret hx hb hr (fun t ht _ => ⟨rfl, ht⟩) (fun _ h9 => by cases h9) dX11_entry_104 hlk
    rw [if_neg c7] at h
    by_cases c8 : v2 = (6 : Int32)
    · rw [if_pos c8] at h
      rw [c8]
      refine lv_tableIn (off := 86) (tgt := 105) hx hb dX11_entry_19 (by decide) (by decide) (by decide) (by decide) ?_
      refine lv_aload_n hx hb dX11_entry_105 rfl (lv_at hl 0 rfl) ?_
      refine lv_aload_n hx hb dX11_entry_106 rfl (lv_at hl 0 rfl) ?_
      refine lv_iload_n hx hb dX11_entry_107 rfl (lv_at hl 2 rfl) ?_
      obtain ⟨q9, h10, h⟩ := bnd h
      refine cPi (run_V (rest := [.ref (ad 34)]) C (kX2_namedFor h10) caX2_namedFor w1159 ⟨rfl, rfl, Nat.le_of_ble_eq_true rfl, Nat.le_of_ble_eq_true rfl⟩ hK hN hP (rX34 hK hP) rfl hl.1 rfl (Nat.le_of_ble_eq_true rfl) dX11_entry_108 ⟨Nat.zero_le _, Nat.zero_le _⟩) ?_
      refine cPi (run_V (rest := []) C (kX2_nameLengthOf rfl) caX2_nameLengthOf w1164 ⟨rfl, rfl, Nat.le_of_ble_eq_true rfl, Nat.le_of_ble_eq_true rfl⟩ hK hN hP (rX34 hK hP) rfl hl.1 rfl (Nat.le_of_ble_eq_true rfl) dX11_entry_111 ⟨Nat.zero_le _, Nat.zero_le _⟩) ?_
      obtain rfl := Option.some.inj h
      exact W.iret hx hb hr (fun t ht _ => ⟨rfl, ht⟩) (fun _ h9 => by cases h9) dX11_entry_114 hlk
    rw [if_neg c8] at h
    by_cases c11 : v2 = (7 : Int32)
    · rw [if_pos c11] at h
      rw [c11]
      refine lv_tableIn (off := 96) (tgt := 115) hx hb dX11_entry_19 (by decide) (by decide) (by decide) (by decide) ?_
      refine lv_aload_n hx hb dX11_entry_115 rfl (lv_at hl 0 rfl) ?_
      refine lv_iload_n hx hb dX11_entry_116 rfl (lv_at hl 2 rfl) ?_
      refine lv_bipush (v := (7 : Int32)) hx hb dX11_entry_117 (by decide) ?_
      refine lv_ldc2 (v := (-1 : Int64)) hx hb hown (hts _ (List.mem_cons_of_mem _ w782)) dX11_entry_119 ?_
      refine cPl (run_V (rest := []) C (kX2_valueOr rfl) caX2_valueOr w1168 ⟨rfl, rfl, Nat.le_of_ble_eq_true rfl, Nat.le_of_ble_eq_true rfl⟩ hK hN hP (rX34 hK hP) rfl hl.1 rfl (Nat.le_of_ble_eq_true rfl) dX11_entry_122 ⟨Nat.zero_le _, Nat.zero_le _⟩) ?_
      refine lv_l2i (v := (((X2_valueOr en v1 (7 : Int32) (-1 : Int64))).toInt32)) hx hb dX11_entry_125 rfl ?_
      obtain rfl := Option.some.inj h
      exact W.iret hx hb hr (fun t ht _ => ⟨rfl, ht⟩) (fun _ h9 => by cases h9) dX11_entry_126 hlk
    rw [if_neg c11] at h
    by_cases c12 : v2 = (8 : Int32)
    · rw [if_pos c12] at h
      rw [c12]
      refine lv_tableIn (off := 108) (tgt := 127) hx hb dX11_entry_19 (by decide) (by decide) (by decide) (by decide) ?_
      refine lv_aload_n hx hb dX11_entry_127 rfl (lv_at hl 0 rfl) ?_
      refine lv_iload_n hx hb dX11_entry_128 rfl (lv_at hl 2 rfl) ?_
      refine lv_bipush (v := (8 : Int32)) hx hb dX11_entry_129 (by decide) ?_
      refine lv_ldc2 (v := (-1 : Int64)) hx hb hown (hts _ (List.mem_cons_of_mem _ w782)) dX11_entry_131 ?_
      refine cPl (run_V (rest := []) C (kX2_valueOr rfl) caX2_valueOr w1168 ⟨rfl, rfl, Nat.le_of_ble_eq_true rfl, Nat.le_of_ble_eq_true rfl⟩ hK hN hP (rX34 hK hP) rfl hl.1 rfl (Nat.le_of_ble_eq_true rfl) dX11_entry_134 ⟨Nat.zero_le _, Nat.zero_le _⟩) ?_
      refine lv_l2i (v := (((X2_valueOr en v1 (8 : Int32) (-1 : Int64))).toInt32)) hx hb dX11_entry_137 rfl ?_
      obtain rfl := Option.some.inj h
      exact W.iret hx hb hr (fun t ht _ => ⟨rfl, ht⟩) (fun _ h9 => by cases h9) dX11_entry_138 hlk
    rw [if_neg c12] at h
    refine tsw_d (tgt := 139) hx hb dX11_entry_19 [(0 : Int32), (1 : Int32), (2 : Int32), (3 : Int32), (4 : Int32), (5 : Int32), (6 : Int32), (7 : Int32), (8 : Int32)] (by simp only [List.mem_cons, List.not_mem_nil, or_false]; rintro _ (rfl | rfl | rfl | rfl | rfl | rfl | rfl | rfl | rfl) <;> assumption) (by decide +kernel) (by decide) ?_
    refine lv_iconst (v := (-1 : Int32)) hx hb dX11_entry_139 (by decide) ?_
    obtain rfl := Option.some.inj h
    exact W.iret hx hb hr (fun t ht _ => ⟨rfl, ht⟩) (fun _ h9 => by cases h9) dX11_entry_140 hlk
  · rw [if_pos c1] at h
    refine lv_iconst (v := (-1 : Int32)) hx hb dX11_entry_16 (by decide) ?_
    obtain rfl := Option.some.inj h
    exact W.iret hx hb hr (fun t ht _ => ⟨rfl, ht⟩) (fun _ h9 => by cases h9) dX11_entry_17 hlk
theorem kX11_entry  {v1 : Int32} {v2 : Int32} {q : Int32} (h : X11_entry en v1 v2 = some q) : Met l yX11_entry (.code yX11_entry cX11_entry 4 (some .int) :: WA) ({ frames := 3, cells := 0, slots := 0, locals := 67 } : Room) (va_Pc [.ref (ad 0), .int v1, .int v2] (PR D cy (GX cy ad (ad 21) (ad 55) nm tp kp cu se ur ab lo im sy un en ra li i2))) (QP (some (.int q))) 0 0 (fun _ => False) :=
  met_of (by decide) (Nat.le_of_ble_eq_true rfl) (fun p e s m below meth c ls C hP hK hN hl => bX11_entry_0 C hK hN h hl hP)
def X11_holds (en : Ten) (ra : Tra) (v1 : Int32) (v2 : Int64) : Option (Int32) := ((X3_entryHolds en ra v1 v2).bind fun q1 => (if bz q1 = true then some q1 else none))
set_option maxRecDepth 20000 in
theorem bX11_holds_0 (C : Cx p s m args meth c cX11_holds 4 (some .boolean) RX11 (.code yX11_holds cX11_holds 4 (some .boolean))) (hK : va_K D vwCl (tysX cy) s) (hN : NW s)  {q : Int32}  {v1 : Int32} {v2 : Int64} (h : X11_holds en ra v1 v2 = some q) {ls : Array Slot} (hl : lv_has ls 4 [(0, .ref (ad 0)), (1, .int v1), (2, .long v2)]) (hP : va_P D vwCl (GX cy ad (ad 21) (ad 55) nm tp kp cu se ur ab lo im sy un en ra li i2) s.heap) : W p l e ({ frames := 3, cells := 0, slots := 0, locals := 69 } : Room) s m args below meth c s.heap [] 0 0 (MQ below (QP (some (.int q))) args s 0 0 (fun _ => False)) (F0 m 0 ls []) := by
  obtain ⟨hx, hb, hml, hown, hts, hr, hlk⟩ := id C
  unfold X11_holds at h
  refine lv_aload_n hx hb dX11_holds_0 rfl (lv_at hl 0 rfl) ?_
  refine gX0_6 C hK hP w488 dX11_holds_1 ?_
  refine lv_iload_n hx hb dX11_holds_4 rfl (lv_at hl 1 rfl) ?_
  refine lv_lload_n hx hb dX11_holds_5 rfl (lv_at hl 2 rfl) ?_
  obtain ⟨q1, h2, h⟩ := bnd h
  refine cPi (run_V (rest := []) C (kX3_entryHolds h2) caX3_entryHolds w1173 ⟨rfl, rfl, Nat.le_of_ble_eq_true rfl, Nat.le_of_ble_eq_true rfl⟩ hK hN hP (rX21 hK hP) rfl hl.1 rfl (Nat.le_of_ble_eq_true rfl) dX11_holds_6 ⟨Nat.zero_le _, Nat.zero_le _⟩) ?_
  obtain ⟨n3, h⟩ := grd h
  obtain rfl := Option.some.inj h
  exact W.zret (ty := .boolean) hx hb hr (bz_n n3) (fun t ht _ => ⟨rfl, ht⟩) (fun _ h9 => by cases h9) dX11_holds_9 hlk
theorem kX11_holds  {v1 : Int32} {v2 : Int64} {q : Int32} (h : X11_holds en ra v1 v2 = some q) : Met l yX11_holds (.code yX11_holds cX11_holds 4 (some .boolean) :: WA) ({ frames := 3, cells := 0, slots := 0, locals := 69 } : Room) (va_Pc [.ref (ad 0), .int v1, .long v2] (PR D cy (GX cy ad (ad 21) (ad 55) nm tp kp cu se ur ab lo im sy un en ra li i2))) (QP (some (.int q))) 0 0 (fun _ => False) :=
  met_of (by decide) (Nat.le_of_ble_eq_true rfl) (fun p e s m below meth c ls C hP hK hN hl => bX11_holds_0 C hK hN h hl hP)
def X11_row (li : Tli) (v1 : Int32) (v2 : Int32) : Int32 := (if (X4_has li v1) = 0 then (-1 : Int32) else (if v2 = (0 : Int32) then (X4_unitOf li v1) else (if v2 = (1 : Int32) then (X4_fileOf li v1) else (if v2 = (2 : Int32) then (X4_lineOf li v1) else (if v2 = (3 : Int32) then (if (X4_endsAt li v1) = 0 then (0 : Int32) else (1 : Int32)) else (-1 : Int32))))))
set_option maxRecDepth 20000 in
theorem bX11_row_0 (C : Cx p s m args meth c cX11_row 4 (some .int) RX11 (.code yX11_row cX11_row 4 (some .int))) (hK : va_K D vwCl (tysX cy) s) (hN : NW s)  {q : Int32}  {v1 : Int32} {v2 : Int32} (h : X11_row li v1 v2 = q) {ls : Array Slot} (hl : lv_has ls 4 [(0, .ref (ad 0)), (1, .int v1), (2, .int v2)]) (hP : va_P D vwCl (GX cy ad (ad 21) (ad 55) nm tp kp cu se ur ab lo im sy un en ra li i2) s.heap) : W p l e ({ frames := 2, cells := 0, slots := 0, locals := 42 } : Room) s m args below meth c s.heap [] 0 0 (MQ below (QP (some (.int q))) args s 0 0 (fun _ => False)) (F0 m 0 ls []) := by
  obtain ⟨hx, hb, hml, hown, hts, hr, hlk⟩ := id C
  unfold X11_row at h
  refine lv_aload_n hx hb dX11_row_0 rfl (lv_at hl 0 rfl) ?_
  refine gX0_6 C hK hP w488 dX11_row_1 ?_
  refine gX21_4N C hK hP hN w467 dX11_row_4 ?_
  refine lv_astore_n (lv' := [(3, .ref (ad 48)), (0, .ref (ad 0)), (1, .int v1), (2, .int v2)]) hx hb dX11_row_7 rfl hl (by decide) rfl (fun ls hl => ?_)
  refine lv_aload_n hx hb dX11_row_8 rfl (lv_at hl 0 rfl) ?_
  refine lv_iload_n hx hb dX11_row_9 rfl (lv_at hl 2 rfl) ?_
  refine cPi (run_V (rest := []) C (kX4_has rfl) caX4_has w1192 ⟨rfl, rfl, Nat.le_of_ble_eq_true rfl, Nat.le_of_ble_eq_true rfl⟩ hK hN hP (rX48 hK hP) rfl hl.1 rfl (Nat.le_of_ble_eq_true rfl) dX11_row_10 ⟨Nat.zero_le _, Nat.zero_le _⟩) ?_
  refine lv_if_ne (tgt := 18) hx hb dX11_row_13 (by decide) (fun c1 => ?_) (fun c1 => ?_)
  · rw [if_neg c1] at h
    refine lv_iload_n hx hb dX11_row_18 rfl (lv_at hl 3 rfl) ?_
    by_cases c2 : v2 = (0 : Int32)
    · rw [if_pos c2] at h
      rw [c2]
      refine lv_tableIn (off := 29) (tgt := 48) hx hb dX11_row_19 (by decide) (by decide) (by decide) (by decide) ?_
      refine lv_aload_n hx hb dX11_row_48 rfl (lv_at hl 0 rfl) ?_
      refine lv_iload_n hx hb dX11_row_49 rfl (lv_at hl 2 rfl) ?_
      refine cPi (run_V (rest := []) C (kX4_unitOf rfl) caX4_unitOf w1196 ⟨rfl, rfl, Nat.le_of_ble_eq_true rfl, Nat.le_of_ble_eq_true rfl⟩ hK hN hP (rX48 hK hP) rfl hl.1 rfl (Nat.le_of_ble_eq_true rfl) dX11_row_50 ⟨Nat.zero_le _, Nat.zero_le _⟩) ?_
      obtain rfl := h
      exact W.iret hx hb hr (fun t ht _ => ⟨rfl, ht⟩) (fun _ h9 => by cases h9) dX11_row_53 hlk
    rw [if_neg c2] at h
    by_cases c3 : v2 = (1 : Int32)
    · rw [if_pos c3] at h
      rw [c3]
      refine lv_tableIn (off := 35) (tgt := 54) hx hb dX11_row_19 (by decide) (by decide) (by decide) (by decide) ?_
      refine lv_aload_n hx hb dX11_row_54 rfl (lv_at hl 0 rfl) ?_
      refine lv_iload_n hx hb dX11_row_55 rfl (lv_at hl 2 rfl) ?_
      refine cPi (run_V (rest := []) C (kX4_fileOf rfl) caX4_fileOf w1200 ⟨rfl, rfl, Nat.le_of_ble_eq_true rfl, Nat.le_of_ble_eq_true rfl⟩ hK hN hP (rX48 hK hP) rfl hl.1 rfl (Nat.le_of_ble_eq_true rfl) dX11_row_56 ⟨Nat.zero_le _, Nat.zero_le _⟩) ?_
      obtain rfl := h
      exact W.iret hx hb hr (fun t ht _ => ⟨rfl, ht⟩) (fun _ h9 => by cases h9) dX11_row_59 hlk
    rw [if_neg c3] at h
    by_cases c4 : v2 = (2 : Int32)
    · rw [if_pos c4] at h
      rw [c4]
      refine lv_tableIn (off := 41) (tgt := 60) hx hb dX11_row_19 (by decide) (by decide) (by decide) (by decide) ?_
      refine lv_aload_n hx hb dX11_row_60 rfl (lv_at hl 0 rfl) ?_
      refine lv_iload_n hx hb dX11_row_61 rfl (lv_at hl 2 rfl) ?_
      refine cPi (run_V (rest := []) C (kX4_lineOf rfl) caX4_lineOf w1204 ⟨rfl, rfl, Nat.le_of_ble_eq_true rfl, Nat.le_of_ble_eq_true rfl⟩ hK hN hP (rX48 hK hP) rfl hl.1 rfl (Nat.le_of_ble_eq_true rfl) dX11_row_62 ⟨Nat.zero_le _, Nat.zero_le _⟩) ?_
      obtain rfl := h
      exact W.iret hx hb hr (fun t ht _ => ⟨rfl, ht⟩) (fun _ h9 => by cases h9) dX11_row_65 hlk
    rw [if_neg c4] at h
    by_cases c5 : v2 = (3 : Int32)
    · rw [if_pos c5] at h
      rw [c5]
      refine lv_tableIn (off := 47) (tgt := 66) hx hb dX11_row_19 (by decide) (by decide) (by decide) (by decide) ?_
      refine lv_aload_n hx hb dX11_row_66 rfl (lv_at hl 0 rfl) ?_
      refine lv_iload_n hx hb dX11_row_67 rfl (lv_at hl 2 rfl) ?_
      refine cPi (run_V (rest := []) C (kX4_endsAt rfl) caX4_endsAt w1208 ⟨rfl, rfl, Nat.le_of_ble_eq_true rfl, Nat.le_of_ble_eq_true rfl⟩ hK hN hP (rX48 hK hP) rfl hl.1 rfl (Nat.le_of_ble_eq_true rfl) dX11_row_68 ⟨Nat.zero_le _, Nat.zero_le _⟩) ?_
      refine lv_if_eq (tgt := 78) hx hb dX11_row_71 (by decide) (fun c6 => ?_) (fun c6 => ?_)
      · rw [if_pos c6] at h
        refine lv_iconst (v := (0 : Int32)) hx hb dX11_row_78 (by decide) ?_
        obtain rfl := h
        exact W.iret hx hb hr (fun t ht _ => ⟨rfl, ht⟩) (fun _ h9 => by cases h9) dX11_row_79 hlk
      · rw [if_neg c6] at h
        refine lv_iconst (v := (1 : Int32)) hx hb dX11_row_74 (by decide) ?_
        refine lv_goto (tgt := 79) hx hb dX11_row_75 (by decide) ?_
        obtain rfl := h
        exact W.iret hx hb hr (fun t ht _ => ⟨rfl, ht⟩) (fun _ h9 => by cases h9) dX11_row_79 hlk
    rw [if_neg c5] at h
    refine tsw_d (tgt := 80) hx hb dX11_row_19 [(0 : Int32), (1 : Int32), (2 : Int32), (3 : Int32)] (by simp only [List.mem_cons, List.not_mem_nil, or_false]; rintro _ (rfl | rfl | rfl | rfl) <;> assumption) (by decide +kernel) (by decide) ?_
    refine lv_iconst (v := (-1 : Int32)) hx hb dX11_row_80 (by decide) ?_
    obtain rfl := h
    exact W.iret hx hb hr (fun t ht _ => ⟨rfl, ht⟩) (fun _ h9 => by cases h9) dX11_row_81 hlk
  · rw [if_pos c1] at h
    refine lv_iconst (v := (-1 : Int32)) hx hb dX11_row_16 (by decide) ?_
    obtain rfl := h
    exact W.iret hx hb hr (fun t ht _ => ⟨rfl, ht⟩) (fun _ h9 => by cases h9) dX11_row_17 hlk
theorem kX11_row  {v1 : Int32} {v2 : Int32} {q : Int32} (h : X11_row li v1 v2 = q) : Met l yX11_row (.code yX11_row cX11_row 4 (some .int) :: WA) ({ frames := 2, cells := 0, slots := 0, locals := 42 } : Room) (va_Pc [.ref (ad 0), .int v1, .int v2] (PR D cy (GX cy ad (ad 21) (ad 55) nm tp kp cu se ur ab lo im sy un en ra li i2))) (QP (some (.int q))) 0 0 (fun _ => False) :=
  met_of (by decide) (Nat.le_of_ble_eq_true rfl) (fun p e s m below meth c ls C hP hK hN hl => bX11_row_0 C hK hN h hl hP)
def X11_rowAt (li : Tli) (v1 : Int32) : Int64 := (if (X4_has li v1) = 0 then (-1 : Int64) else (X4_addressOf li v1))
set_option maxRecDepth 20000 in
theorem bX11_rowAt_0 (C : Cx p s m args meth c cX11_rowAt 2 (some .long) RX11 (.code yX11_rowAt cX11_rowAt 2 (some .long))) (hK : va_K D vwCl (tysX cy) s) (hN : NW s)  {q : Int64}  {v1 : Int32} (h : X11_rowAt li v1 = q) {ls : Array Slot} (hl : lv_has ls 2 [(0, .ref (ad 0)), (1, .int v1)]) (hP : va_P D vwCl (GX cy ad (ad 21) (ad 55) nm tp kp cu se ur ab lo im sy un en ra li i2) s.heap) : W p l e ({ frames := 2, cells := 0, slots := 0, locals := 42 } : Room) s m args below meth c s.heap [] 0 0 (MQ below (QP (some (.long q))) args s 0 0 (fun _ => False)) (F0 m 0 ls []) := by
  obtain ⟨hx, hb, hml, hown, hts, hr, hlk⟩ := id C
  unfold X11_rowAt at h
  refine lv_aload_n hx hb dX11_rowAt_0 rfl (lv_at hl 0 rfl) ?_
  refine gX0_6 C hK hP w488 dX11_rowAt_1 ?_
  refine gX21_4N C hK hP hN w467 dX11_rowAt_4 ?_
  refine lv_iload_n hx hb dX11_rowAt_7 rfl (lv_at hl 1 rfl) ?_
  refine cPi (run_V (rest := []) C (kX4_has rfl) caX4_has w1192 ⟨rfl, rfl, Nat.le_of_ble_eq_true rfl, Nat.le_of_ble_eq_true rfl⟩ hK hN hP (rX48 hK hP) rfl hl.1 rfl (Nat.le_of_ble_eq_true rfl) dX11_rowAt_8 ⟨Nat.zero_le _, Nat.zero_le _⟩) ?_
  refine lv_if_eq (tgt := 28) hx hb dX11_rowAt_11 (by decide) (fun c1 => ?_) (fun c1 => ?_)
  · rw [if_pos c1] at h
    refine lv_ldc2 (v := (-1 : Int64)) hx hb hown (hts _ (List.mem_cons_of_mem _ w782)) dX11_rowAt_28 ?_
    obtain rfl := h
    exact W.lret hx hb hr (fun t ht _ => ⟨rfl, ht⟩) (fun _ h9 => by cases h9) dX11_rowAt_31 hlk
  · rw [if_neg c1] at h
    refine lv_aload_n hx hb dX11_rowAt_14 rfl (lv_at hl 0 rfl) ?_
    refine gX0_6 C hK hP w488 dX11_rowAt_15 ?_
    refine gX21_4N C hK hP hN w467 dX11_rowAt_18 ?_
    refine lv_iload_n hx hb dX11_rowAt_21 rfl (lv_at hl 1 rfl) ?_
    refine cPl (run_V (rest := []) C (kX4_addressOf rfl) caX4_addressOf w1216 ⟨rfl, rfl, Nat.le_of_ble_eq_true rfl, Nat.le_of_ble_eq_true rfl⟩ hK hN hP (rX48 hK hP) rfl hl.1 rfl (Nat.le_of_ble_eq_true rfl) dX11_rowAt_22 ⟨Nat.zero_le _, Nat.zero_le _⟩) ?_
    refine lv_goto (tgt := 31) hx hb dX11_rowAt_25 (by decide) ?_
    obtain rfl := h
    exact W.lret hx hb hr (fun t ht _ => ⟨rfl, ht⟩) (fun _ h9 => by cases h9) dX11_rowAt_31 hlk
theorem kX11_rowAt  {v1 : Int32} {q : Int64} (h : X11_rowAt li v1 = q) : Met l yX11_rowAt (.code yX11_rowAt cX11_rowAt 2 (some .long) :: WA) ({ frames := 2, cells := 0, slots := 0, locals := 42 } : Room) (va_Pc [.ref (ad 0), .int v1] (PR D cy (GX cy ad (ad 21) (ad 55) nm tp kp cu se ur ab lo im sy un en ra li i2))) (QP (some (.long q))) 0 0 (fun _ => False) :=
  met_of (by decide) (Nat.le_of_ble_eq_true rfl) (fun p e s m below meth c ls C hP hK hN hl => bX11_rowAt_0 C hK hN h hl hP)
def X11_find (lo : Tlo) (sy : Tsy) (en : Ten) (ra : Tra) (li : Tli) (v1 : Int64) : Option (Int32 × Tlo) := ((X5_seek lo sy en ra li v1).bind fun q1 => some (q1.1, q1.2))
set_option maxRecDepth 20000 in
theorem bX11_find_0 (C : Cx p s m args meth c cX11_find 3 (some .int) RX11 (.code yX11_find cX11_find 3 (some .int))) (hI : Apart ad 89) (hK : va_K D vwCl (tysX cy) s) (hN : NW s)  {q : Int32 × Tlo}  {v1 : Int64} (h : X11_find lo sy en ra li v1 = some q) {ls : Array Slot} (hl : lv_has ls 3 [(0, .ref (ad 0)), (1, .long v1)]) {H : Heap} {locs : List Loc} (hP : va_P D vwCl (GX cy ad (ad 21) (ad 55) nm tp kp cu se ur ab lo im sy un en ra li i2) H) (hS : va_S (Ac ad 89) s.heap H locs) : W p l e ({ frames := 5, cells := 0, slots := 0, locals := 121 } : Room) s m args below meth c H locs 0 0 (MQ below (QR (some (.int q.1)) D (GX cy ad (ad 21) (ad 55) nm tp kp cu se ur ab q.2 im sy un en ra li i2) (Ac ad 89)) args s 0 0 (Ac ad 89)) (F0 m 0 ls []) := by
  obtain ⟨hx, hb, hml, hown, hts, hr, hlk⟩ := id C
  unfold X11_find at h
  refine lv_aload_n hx hb dX11_find_0 rfl (lv_at hl 0 rfl) ?_
  refine gX0_5 C hK hP w487 dX11_find_1 ?_
  refine lv_aload_n hx hb dX11_find_4 rfl (lv_at hl 0 rfl) ?_
  refine gX0_6 C hK hP w488 dX11_find_5 ?_
  refine lv_lload_n hx hb dX11_find_8 rfl (lv_at hl 1 rfl) ?_
  obtain ⟨q1, h2, h⟩ := bnd h
  refine cRi (run_V (rest := []) C (kX5_seek hI h2) caX5_seek w1224 ⟨rfl, rfl, Nat.le_of_ble_eq_true rfl, Nat.le_of_ble_eq_true rfl⟩ hK hN hP (rX19 hK hP) rfl hl.1 rfl (Nat.le_of_ble_eq_true rfl) dX11_find_9 ⟨Nat.zero_le _, Nat.zero_le _⟩) hS (fun H locs hP hS => ?_)
  have hP : va_P D vwCl (GX cy ad (ad 21) (ad 55) nm tp kp cu se ur ab q1.2 im sy un en ra li i2) H := hP
  obtain rfl := Option.some.inj h
  exact W.iret hx hb hr (fun t ht _ => ⟨rfl, by rw [ht]; exact hP, hS.F ht⟩) hS.2.2 dX11_find_12 hlk
theorem kX11_find (hI : Apart ad 89) {v1 : Int64} {q : Int32 × Tlo} (h : X11_find lo sy en ra li v1 = some q) : Met l yX11_find (.code yX11_find cX11_find 3 (some .int) :: WA) ({ frames := 5, cells := 0, slots := 0, locals := 121 } : Room) (va_Pc [.ref (ad 0), .long v1] (PR D cy (GX cy ad (ad 21) (ad 55) nm tp kp cu se ur ab lo im sy un en ra li i2))) (QR (some (.int q.1)) D (GX cy ad (ad 21) (ad 55) nm tp kp cu se ur ab q.2 im sy un en ra li i2) (Ac ad 89)) 0 0 (Ac ad 89) :=
  met_of (by decide) (Nat.le_of_ble_eq_true rfl) (fun p e s m below meth c ls C hP hK hN hl => bX11_find_0 C hI hK hN h hl hP va_S.rf)
def X11_frame (lo : Tlo) (un : Tun) (en : Ten) (li : Tli) (v1 : Int32) (v2 : Int32) : Option (Int32) := (if (X5_entryOf lo v1) = (-1 : Int32) then some (-1 : Int32) else (if v2 = (0 : Int32) then some (X5_entryOf lo v1) else (if v2 = (1 : Int32) then some (X5_fileNumberOf lo en li v1) else (if v2 = (2 : Int32) then some (X5_lineNumberOf lo en li v1) else (if v2 = (3 : Int32) then ((X2_namedFor en (X5_entryOf lo v1)).bind fun q6 => some (X2_nameLengthOf en q6)) else (if v2 = (4 : Int32) then some (X10_fileLengthOf un (X5_fileOf lo un en li v1)) else some (-1 : Int32)))))))
set_option maxRecDepth 20000 in
theorem bX11_frame_0 (C : Cx p s m args meth c cX11_frame 4 (some .int) RX11 (.code yX11_frame cX11_frame 4 (some .int))) (hK : va_K D vwCl (tysX cy) s) (hN : NW s)  {q : Int32}  {v1 : Int32} {v2 : Int32} (h : X11_frame lo un en li v1 v2 = some q) {ls : Array Slot} (hl : lv_has ls 4 [(0, .ref (ad 0)), (1, .int v1), (2, .int v2)]) (hP : va_P D vwCl (GX cy ad (ad 21) (ad 55) nm tp kp cu se ur ab lo im sy un en ra li i2) s.heap) : W p l e ({ frames := 5, cells := 0, slots := 0, locals := 112 } : Room) s m args below meth c s.heap [] 0 0 (MQ below (QP (some (.int q))) args s 0 0 (fun _ => False)) (F0 m 0 ls []) := by
  obtain ⟨hx, hb, hml, hown, hts, hr, hlk⟩ := id C
  unfold X11_frame at h
  refine lv_aload_n hx hb dX11_frame_0 rfl (lv_at hl 0 rfl) ?_
  refine gX0_5 C hK hP w487 dX11_frame_1 ?_
  refine lv_iload_n hx hb dX11_frame_4 rfl (lv_at hl 1 rfl) ?_
  refine cPi (run_V (rest := []) C (kX5_entryOf rfl) caX5_entryOf w1277 ⟨rfl, rfl, Nat.le_of_ble_eq_true rfl, Nat.le_of_ble_eq_true rfl⟩ hK hN hP (rX19 hK hP) rfl hl.1 rfl (Nat.le_of_ble_eq_true rfl) dX11_frame_5 ⟨Nat.zero_le _, Nat.zero_le _⟩) ?_
  refine lv_istore_n (lv' := [(3, .int (X5_entryOf lo v1)), (0, .ref (ad 0)), (1, .int v1), (2, .int v2)]) hx hb dX11_frame_8 rfl hl (by decide) rfl (fun ls hl => ?_)
  refine lv_iload_n hx hb dX11_frame_9 rfl (lv_at hl 0 rfl) ?_
  refine lv_iconst (v := (-1 : Int32)) hx hb dX11_frame_10 (by decide) ?_
  refine lv_icmp_ne (tgt := 16) hx hb dX11_frame_11 (by decide) (fun c1 => ?_) (fun c1 => ?_)
  · rw [if_neg c1] at h
    refine lv_iload_n hx hb dX11_frame_16 rfl (lv_at hl 3 rfl) ?_
    by_cases c2 : v2 = (0 : Int32)
    · rw [if_pos c2] at h
      rw [c2]
      refine lv_tableIn (off := 35) (tgt := 52) hx hb dX11_frame_17 (by decide) (by decide) (by decide) (by decide) ?_
      refine lv_iload_n hx hb dX11_frame_52 rfl (lv_at hl 0 rfl) ?_
      obtain rfl := Option.some.inj h
      exact W.iret hx hb hr (fun t ht _ => ⟨rfl, ht⟩) (fun _ h9 => by cases h9) dX11_frame_53 hlk
    rw [if_neg c2] at h
    by_cases c3 : v2 = (1 : Int32)
    · rw [if_pos c3] at h
      rw [c3]
      refine lv_tableIn (off := 37) (tgt := 54) hx hb dX11_frame_17 (by decide) (by decide) (by decide) (by decide) ?_
      refine lv_aload_n hx hb dX11_frame_54 rfl (lv_at hl 1 rfl) ?_
      refine gX0_5 C hK hP w487 dX11_frame_55 ?_
      refine lv_aload_n hx hb dX11_frame_58 rfl (lv_at hl 1 rfl) ?_
      refine gX0_6 C hK hP w488 dX11_frame_59 ?_
      refine lv_iload_n hx hb dX11_frame_62 rfl (lv_at hl 2 rfl) ?_
      refine cPi (run_V (rest := []) C (kX5_fileNumberOf rfl) caX5_fileNumberOf w1278 ⟨rfl, rfl, Nat.le_of_ble_eq_true rfl, Nat.le_of_ble_eq_true rfl⟩ hK hN hP (rX19 hK hP) rfl hl.1 rfl (Nat.le_of_ble_eq_true rfl) dX11_frame_63 ⟨Nat.zero_le _, Nat.zero_le _⟩) ?_
      obtain rfl := Option.some.inj h
      exact W.iret hx hb hr (fun t ht _ => ⟨rfl, ht⟩) (fun _ h9 => by cases h9) dX11_frame_66 hlk
    rw [if_neg c3] at h
    by_cases c4 : v2 = (2 : Int32)
    · rw [if_pos c4] at h
      rw [c4]
      refine lv_tableIn (off := 50) (tgt := 67) hx hb dX11_frame_17 (by decide) (by decide) (by decide) (by decide) ?_
      refine lv_aload_n hx hb dX11_frame_67 rfl (lv_at hl 1 rfl) ?_
      refine gX0_5 C hK hP w487 dX11_frame_68 ?_
      refine lv_aload_n hx hb dX11_frame_71 rfl (lv_at hl 1 rfl) ?_
      refine gX0_6 C hK hP w488 dX11_frame_72 ?_
      refine lv_iload_n hx hb dX11_frame_75 rfl (lv_at hl 2 rfl) ?_
      refine cPi (run_V (rest := []) C (kX5_lineNumberOf rfl) caX5_lineNumberOf w1284 ⟨rfl, rfl, Nat.le_of_ble_eq_true rfl, Nat.le_of_ble_eq_true rfl⟩ hK hN hP (rX19 hK hP) rfl hl.1 rfl (Nat.le_of_ble_eq_true rfl) dX11_frame_76 ⟨Nat.zero_le _, Nat.zero_le _⟩) ?_
      obtain rfl := Option.some.inj h
      exact W.iret hx hb hr (fun t ht _ => ⟨rfl, ht⟩) (fun _ h9 => by cases h9) dX11_frame_79 hlk
    rw [if_neg c4] at h
    by_cases c5 : v2 = (3 : Int32)
    · rw [if_pos c5] at h
      rw [c5]
      refine lv_tableIn (off := 63) (tgt := 80) hx hb dX11_frame_17 (by decide) (by decide) (by decide) (by decide) ?_
      refine lv_aload_n hx hb dX11_frame_80 rfl (lv_at hl 1 rfl) ?_
      refine gX0_6 C hK hP w488 dX11_frame_81 ?_
      refine gX21_2N C hK hP hN w462 dX11_frame_84 ?_
      refine lv_aload_n hx hb dX11_frame_87 rfl (lv_at hl 1 rfl) ?_
      refine gX0_6 C hK hP w488 dX11_frame_88 ?_
      refine gX21_2N C hK hP hN w462 dX11_frame_91 ?_
      refine lv_iload_n hx hb dX11_frame_94 rfl (lv_at hl 0 rfl) ?_
      obtain ⟨q6, h7, h⟩ := bnd h
      refine cPi (run_V (rest := [.ref (ad 34)]) C (kX2_namedFor h7) caX2_namedFor w1159 ⟨rfl, rfl, Nat.le_of_ble_eq_true rfl, Nat.le_of_ble_eq_true rfl⟩ hK hN hP (rX34 hK hP) rfl hl.1 rfl (Nat.le_of_ble_eq_true rfl) dX11_frame_95 ⟨Nat.zero_le _, Nat.zero_le _⟩) ?_
      refine cPi (run_V (rest := []) C (kX2_nameLengthOf rfl) caX2_nameLengthOf w1164 ⟨rfl, rfl, Nat.le_of_ble_eq_true rfl, Nat.le_of_ble_eq_true rfl⟩ hK hN hP (rX34 hK hP) rfl hl.1 rfl (Nat.le_of_ble_eq_true rfl) dX11_frame_98 ⟨Nat.zero_le _, Nat.zero_le _⟩) ?_
      obtain rfl := Option.some.inj h
      exact W.iret hx hb hr (fun t ht _ => ⟨rfl, ht⟩) (fun _ h9 => by cases h9) dX11_frame_101 hlk
    rw [if_neg c5] at h
    by_cases c8 : v2 = (4 : Int32)
    · rw [if_pos c8] at h
      rw [c8]
      refine lv_tableIn (off := 85) (tgt := 102) hx hb dX11_frame_17 (by decide) (by decide) (by decide) (by decide) ?_
      refine lv_aload_n hx hb dX11_frame_102 rfl (lv_at hl 1 rfl) ?_
      refine gX0_6 C hK hP w488 dX11_frame_103 ?_
      refine gX21_1N C hK hP hN w456 dX11_frame_106 ?_
      refine lv_aload_n hx hb dX11_frame_109 rfl (lv_at hl 1 rfl) ?_
      refine gX0_5 C hK hP w487 dX11_frame_110 ?_
      refine lv_aload_n hx hb dX11_frame_113 rfl (lv_at hl 1 rfl) ?_
      refine gX0_6 C hK hP w488 dX11_frame_114 ?_
      refine lv_iload_n hx hb dX11_frame_117 rfl (lv_at hl 2 rfl) ?_
      refine cPi (run_V (rest := [.ref (ad 27)]) C (kX5_fileOf rfl) caX5_fileOf w1289 ⟨rfl, rfl, Nat.le_of_ble_eq_true rfl, Nat.le_of_ble_eq_true rfl⟩ hK hN hP (rX19 hK hP) rfl hl.1 rfl (Nat.le_of_ble_eq_true rfl) dX11_frame_118 ⟨Nat.zero_le _, Nat.zero_le _⟩) ?_
      refine cPi (run_V (rest := []) C (kX10_fileLengthOf rfl) caX10_fileLengthOf w1298 ⟨rfl, rfl, Nat.le_of_ble_eq_true rfl, Nat.le_of_ble_eq_true rfl⟩ hK hN hP (rX27 hK hP) rfl hl.1 rfl (Nat.le_of_ble_eq_true rfl) dX11_frame_121 ⟨Nat.zero_le _, Nat.zero_le _⟩) ?_
      obtain rfl := Option.some.inj h
      exact W.iret hx hb hr (fun t ht _ => ⟨rfl, ht⟩) (fun _ h9 => by cases h9) dX11_frame_124 hlk
    rw [if_neg c8] at h
    refine tsw_d (tgt := 125) hx hb dX11_frame_17 [(0 : Int32), (1 : Int32), (2 : Int32), (3 : Int32), (4 : Int32)] (by simp only [List.mem_cons, List.not_mem_nil, or_false]; rintro _ (rfl | rfl | rfl | rfl | rfl) <;> assumption) (by decide +kernel) (by decide) ?_
    refine lv_iconst (v := (-1 : Int32)) hx hb dX11_frame_125 (by decide) ?_
    obtain rfl := Option.some.inj h
    exact W.iret hx hb hr (fun t ht _ => ⟨rfl, ht⟩) (fun _ h9 => by cases h9) dX11_frame_126 hlk
  · rw [if_pos c1] at h
    refine lv_iconst (v := (-1 : Int32)) hx hb dX11_frame_14 (by decide) ?_
    obtain rfl := Option.some.inj h
    exact W.iret hx hb hr (fun t ht _ => ⟨rfl, ht⟩) (fun _ h9 => by cases h9) dX11_frame_15 hlk
theorem kX11_frame  {v1 : Int32} {v2 : Int32} {q : Int32} (h : X11_frame lo un en li v1 v2 = some q) : Met l yX11_frame (.code yX11_frame cX11_frame 4 (some .int) :: WA) ({ frames := 5, cells := 0, slots := 0, locals := 112 } : Room) (va_Pc [.ref (ad 0), .int v1, .int v2] (PR D cy (GX cy ad (ad 21) (ad 55) nm tp kp cu se ur ab lo im sy un en ra li i2))) (QP (some (.int q))) 0 0 (fun _ => False) :=
  met_of (by decide) (Nat.le_of_ble_eq_true rfl) (fun p e s m below meth c ls C hP hK hN hl => bX11_frame_0 C hK hN h hl hP)
def X11_sign (kp : Tkp) (v1 : Int32) (v2 : Int32) (v3 : Int32) : Option (Int32) := (if v1 < 0 then some (-1 : Int32) else (if v3 < 0 then some (-1 : Int32) else (if v3 < v2 then (if v3 < ((8000 : Int32) - v1) then (if inb (v1 + v3) 8000 = true then some ((kp ((v1 + v3)).toNatClampNeg) &&& (255 : Int32)) else none) else some (-1 : Int32)) else some (-1 : Int32))))
set_option maxRecDepth 20000 in
theorem bX11_sign_0 (C : Cx p s m args meth c cX11_sign 4 (some .int) RX11 (.code yX11_sign cX11_sign 4 (some .int))) (hK : va_K D vwCl (tysX cy) s) (hN : NW s)  {q : Int32}  {v1 : Int32} {v2 : Int32} {v3 : Int32} (h : X11_sign kp v1 v2 v3 = some q) {ls : Array Slot} (hl : lv_has ls 4 [(0, .ref (ad 0)), (1, .int v1), (2, .int v2), (3, .int v3)]) (hP : va_P D vwCl (GX cy ad tk sp nm tp kp cu se ur ab lo im sy un en ra li i2) s.heap) : W p l e ({ frames := 0, cells := 0, slots := 0, locals := 0 } : Room) s m args below meth c s.heap [] 0 0 (MQ below (QP (some (.int q))) args s 0 0 (fun _ => False)) (F0 m 0 ls []) := by
  obtain ⟨hx, hb, hml, hown, hts, hr, hlk⟩ := id C
  unfold X11_sign at h
  refine lv_iload_n hx hb dX11_sign_0 rfl (lv_at hl 1 rfl) ?_
  refine lv_if_lt (tgt := 24) hx hb dX11_sign_1 (by decide) (fun c1 => ?_) (fun c1 => ?_)
  · rw [if_pos c1] at h
    refine lv_iconst (v := (-1 : Int32)) hx hb dX11_sign_24 (by decide) ?_
    obtain rfl := Option.some.inj h
    exact W.iret hx hb hr (fun t ht _ => ⟨rfl, ht⟩) (fun _ h9 => by cases h9) dX11_sign_25 hlk
  · rw [if_neg c1] at h
    refine lv_iload_n hx hb dX11_sign_4 rfl (lv_at hl 3 rfl) ?_
    refine lv_if_lt (tgt := 24) hx hb dX11_sign_5 (by decide) (fun c2 => ?_) (fun c2 => ?_)
    · rw [if_pos c2] at h
      refine lv_iconst (v := (-1 : Int32)) hx hb dX11_sign_24 (by decide) ?_
      obtain rfl := Option.some.inj h
      exact W.iret hx hb hr (fun t ht _ => ⟨rfl, ht⟩) (fun _ h9 => by cases h9) dX11_sign_25 hlk
    · rw [if_neg c2] at h
      refine lv_iload_n hx hb dX11_sign_8 rfl (lv_at hl 3 rfl) ?_
      refine lv_iload_n hx hb dX11_sign_9 rfl (lv_at hl 2 rfl) ?_
      refine b_icmp_ge (tgt := 24) hx hb dX11_sign_10 (by decide) (fun c3 => ?_) (fun c3 => ?_)
      · rw [if_neg c3] at h
        refine lv_iconst (v := (-1 : Int32)) hx hb dX11_sign_24 (by decide) ?_
        obtain rfl := Option.some.inj h
        exact W.iret hx hb hr (fun t ht _ => ⟨rfl, ht⟩) (fun _ h9 => by cases h9) dX11_sign_25 hlk
      · rw [if_pos c3] at h
        refine lv_iload_n hx hb dX11_sign_13 rfl (lv_at hl 3 rfl) ?_
        refine lv_aload_n hx hb dX11_sign_14 rfl (lv_at hl 0 rfl) ?_
        refine gX0_1 C hK hP w483 dX11_sign_15 ?_
        refine lX2 C hK hP dX11_sign_18 ?_
        refine lv_iload_n hx hb dX11_sign_19 rfl (lv_at hl 1 rfl) ?_
        refine lv_isub hx hb dX11_sign_20 ?_
        refine lv_icmp_lt (tgt := 26) hx hb dX11_sign_21 (by decide) (fun c4 => ?_) (fun c4 => ?_)
        · rw [if_pos c4] at h
          refine lv_aload_n hx hb dX11_sign_26 rfl (lv_at hl 0 rfl) ?_
          refine gX0_1 C hK hP w483 dX11_sign_27 ?_
          refine lv_iload_n hx hb dX11_sign_30 rfl (lv_at hl 1 rfl) ?_
          refine lv_iload_n hx hb dX11_sign_31 rfl (lv_at hl 3 rfl) ?_
          refine lv_iadd hx hb dX11_sign_32 ?_
          obtain ⟨n5, h⟩ := grd h
          refine aX2 (f := kp) C hK hP rfl n5 dX11_sign_33 ?_
          refine lv_sipush (v := (255 : Int32)) hx hb dX11_sign_34 (by decide) ?_
          refine lv_iand hx hb dX11_sign_37 ?_
          obtain rfl := Option.some.inj h
          exact W.iret hx hb hr (fun t ht _ => ⟨rfl, ht⟩) (fun _ h9 => by cases h9) dX11_sign_38 hlk
        · rw [if_neg c4] at h
          refine lv_iconst (v := (-1 : Int32)) hx hb dX11_sign_24 (by decide) ?_
          obtain rfl := Option.some.inj h
          exact W.iret hx hb hr (fun t ht _ => ⟨rfl, ht⟩) (fun _ h9 => by cases h9) dX11_sign_25 hlk
theorem kX11_sign  {v1 : Int32} {v2 : Int32} {v3 : Int32} {q : Int32} (h : X11_sign kp v1 v2 v3 = some q) : Met l yX11_sign (.code yX11_sign cX11_sign 4 (some .int) :: WA) ({ frames := 0, cells := 0, slots := 0, locals := 0 } : Room) (va_Pc [.ref (ad 0), .int v1, .int v2, .int v3] (PR D cy (GX cy ad tk sp nm tp kp cu se ur ab lo im sy un en ra li i2))) (QP (some (.int q))) 0 0 (fun _ => False) :=
  met_of (by decide) (Nat.le_of_ble_eq_true rfl) (fun p e s m below meth c ls C hP hK hN hl => bX11_sign_0 C hK hN h hl hP)
def X11_name (kp : Tkp) (lo : Tlo) (sy : Tsy) (en : Ten) (v1 : Int32) (v2 : Int32) : Option (Int32) := (if v1 = (-1 : Int32) then ((X11_sign kp (X8_namePlaceOf sy (X5_symbolFound lo)) (X8_nameLengthOf sy (X5_symbolFound lo)) v2).bind fun q6 => some q6) else ((X2_namedFor en (X5_entryOf lo v1)).bind fun q2 => ((X11_sign kp (X2_namePlaceOf en q2) (X2_nameLengthOf en q2) v2).bind fun q4 => some q4)))
set_option maxRecDepth 20000 in
theorem bX11_name_0 (C : Cx p s m args meth c cX11_name 4 (some .int) RX11 (.code yX11_name cX11_name 4 (some .int))) (hK : va_K D vwCl (tysX cy) s) (hN : NW s)  {q : Int32}  {v1 : Int32} {v2 : Int32} (h : X11_name kp lo sy en v1 v2 = some q) {ls : Array Slot} (hl : lv_has ls 4 [(0, .ref (ad 0)), (1, .int v1), (2, .int v2)]) (hP : va_P D vwCl (GX cy ad (ad 21) (ad 55) nm tp kp cu se ur ab lo im sy un en ra li i2) s.heap) : W p l e ({ frames := 4, cells := 0, slots := 0, locals := 88 } : Room) s m args below meth c s.heap [] 0 0 (MQ below (QP (some (.int q))) args s 0 0 (fun _ => False)) (F0 m 0 ls []) := by
  obtain ⟨hx, hb, hml, hown, hts, hr, hlk⟩ := id C
  unfold X11_name at h
  refine lv_iload_n hx hb dX11_name_0 rfl (lv_at hl 1 rfl) ?_
  refine lv_iconst (v := (-1 : Int32)) hx hb dX11_name_1 (by decide) ?_
  refine lv_icmp_ne (tgt := 41) hx hb dX11_name_2 (by decide) (fun c1 => ?_) (fun c1 => ?_)
  · rw [if_neg c1] at h
    refine lv_aload_n hx hb dX11_name_41 rfl (lv_at hl 0 rfl) ?_
    refine gX0_6 C hK hP w488 dX11_name_42 ?_
    refine gX21_2N C hK hP hN w462 dX11_name_45 ?_
    refine lv_aload_n hx hb dX11_name_48 rfl (lv_at hl 0 rfl) ?_
    refine gX0_5 C hK hP w487 dX11_name_49 ?_
    refine lv_iload_n hx hb dX11_name_52 rfl (lv_at hl 1 rfl) ?_
    refine cPi (run_V (rest := [.ref (ad 34)]) C (kX5_entryOf rfl) caX5_entryOf w1277 ⟨rfl, rfl, Nat.le_of_ble_eq_true rfl, Nat.le_of_ble_eq_true rfl⟩ hK hN hP (rX19 hK hP) rfl hl.1 rfl (Nat.le_of_ble_eq_true rfl) dX11_name_53 ⟨Nat.zero_le _, Nat.zero_le _⟩) ?_
    obtain ⟨q2, h3, h⟩ := bnd h
    refine cPi (run_V (rest := []) C (kX2_namedFor h3) caX2_namedFor w1159 ⟨rfl, rfl, Nat.le_of_ble_eq_true rfl, Nat.le_of_ble_eq_true rfl⟩ hK hN hP (rX34 hK hP) rfl hl.1 rfl (Nat.le_of_ble_eq_true rfl) dX11_name_56 ⟨Nat.zero_le _, Nat.zero_le _⟩) ?_
    refine lv_istore_n (lv' := [(3, .int q2), (0, .ref (ad 0)), (1, .int v1), (2, .int v2)]) hx hb dX11_name_59 rfl hl (by decide) rfl (fun ls hl => ?_)
    refine lv_aload_n hx hb dX11_name_60 rfl (lv_at hl 1 rfl) ?_
    refine lv_aload_n hx hb dX11_name_61 rfl (lv_at hl 1 rfl) ?_
    refine gX0_6 C hK hP w488 dX11_name_62 ?_
    refine gX21_2N C hK hP hN w462 dX11_name_65 ?_
    refine lv_iload_n hx hb dX11_name_68 rfl (lv_at hl 0 rfl) ?_
    refine cPi (run_V (rest := [.ref (ad 0)]) C (kX2_namePlaceOf rfl) caX2_namePlaceOf w1323 ⟨rfl, rfl, Nat.le_of_ble_eq_true rfl, Nat.le_of_ble_eq_true rfl⟩ hK hN hP (rX34 hK hP) rfl hl.1 rfl (Nat.le_of_ble_eq_true rfl) dX11_name_69 ⟨Nat.zero_le _, Nat.zero_le _⟩) ?_
    refine lv_aload_n hx hb dX11_name_72 rfl (lv_at hl 1 rfl) ?_
    refine gX0_6 C hK hP w488 dX11_name_73 ?_
    refine gX21_2N C hK hP hN w462 dX11_name_76 ?_
    refine lv_iload_n hx hb dX11_name_79 rfl (lv_at hl 0 rfl) ?_
    refine cPi (run_V (rest := [.int (X2_namePlaceOf en q2), .ref (ad 0)]) C (kX2_nameLengthOf rfl) caX2_nameLengthOf w1164 ⟨rfl, rfl, Nat.le_of_ble_eq_true rfl, Nat.le_of_ble_eq_true rfl⟩ hK hN hP (rX34 hK hP) rfl hl.1 rfl (Nat.le_of_ble_eq_true rfl) dX11_name_80 ⟨Nat.zero_le _, Nat.zero_le _⟩) ?_
    refine lv_iload_n hx hb dX11_name_83 rfl (lv_at hl 3 rfl) ?_
    obtain ⟨q4, h5, h⟩ := bnd h
    refine cPi (run_V (rest := []) C (kX11_sign h5) caX11_sign w1319 ⟨rfl, rfl, Nat.le_of_ble_eq_true rfl, Nat.le_of_ble_eq_true rfl⟩ hK hN hP (rX0 hK hP) rfl hl.1 rfl (Nat.le_of_ble_eq_true rfl) dX11_name_84 ⟨Nat.zero_le _, Nat.zero_le _⟩) ?_
    obtain rfl := Option.some.inj h
    exact W.iret hx hb hr (fun t ht _ => ⟨rfl, ht⟩) (fun _ h9 => by cases h9) dX11_name_87 hlk
  · rw [if_pos c1] at h
    refine lv_aload_n hx hb dX11_name_5 rfl (lv_at hl 0 rfl) ?_
    refine gX0_5 C hK hP w487 dX11_name_6 ?_
    refine cPi (run_V (rest := []) C (kX5_symbolFound rfl) caX5_symbolFound w1306 ⟨rfl, rfl, Nat.le_of_ble_eq_true rfl, Nat.le_of_ble_eq_true rfl⟩ hK hN hP (rX19 hK hP) rfl hl.1 rfl (Nat.le_of_ble_eq_true rfl) dX11_name_9 ⟨Nat.zero_le _, Nat.zero_le _⟩) ?_
    refine lv_istore_n (lv' := [(3, .int (X5_symbolFound lo)), (0, .ref (ad 0)), (1, .int v1), (2, .int v2)]) hx hb dX11_name_12 rfl hl (by decide) rfl (fun ls hl => ?_)
    refine lv_aload_n hx hb dX11_name_13 rfl (lv_at hl 1 rfl) ?_
    refine lv_aload_n hx hb dX11_name_14 rfl (lv_at hl 1 rfl) ?_
    refine gX0_6 C hK hP w488 dX11_name_15 ?_
    refine gX21_0N C hK hP hN w450 dX11_name_18 ?_
    refine lv_iload_n hx hb dX11_name_21 rfl (lv_at hl 0 rfl) ?_
    refine cPi (run_V (rest := [.ref (ad 0)]) C (kX8_namePlaceOf rfl) caX8_namePlaceOf w1310 ⟨rfl, rfl, Nat.le_of_ble_eq_true rfl, Nat.le_of_ble_eq_true rfl⟩ hK hN hP (rX22 hK hP) rfl hl.1 rfl (Nat.le_of_ble_eq_true rfl) dX11_name_22 ⟨Nat.zero_le _, Nat.zero_le _⟩) ?_
    refine lv_aload_n hx hb dX11_name_25 rfl (lv_at hl 1 rfl) ?_
    refine gX0_6 C hK hP w488 dX11_name_26 ?_
    refine gX21_0N C hK hP hN w450 dX11_name_29 ?_
    refine lv_iload_n hx hb dX11_name_32 rfl (lv_at hl 0 rfl) ?_
    refine cPi (run_V (rest := [.int (X8_namePlaceOf sy (X5_symbolFound lo)), .ref (ad 0)]) C (kX8_nameLengthOf rfl) caX8_nameLengthOf w1315 ⟨rfl, rfl, Nat.le_of_ble_eq_true rfl, Nat.le_of_ble_eq_true rfl⟩ hK hN hP (rX22 hK hP) rfl hl.1 rfl (Nat.le_of_ble_eq_true rfl) dX11_name_33 ⟨Nat.zero_le _, Nat.zero_le _⟩) ?_
    refine lv_iload_n hx hb dX11_name_36 rfl (lv_at hl 3 rfl) ?_
    obtain ⟨q6, h7, h⟩ := bnd h
    refine cPi (run_V (rest := []) C (kX11_sign h7) caX11_sign w1319 ⟨rfl, rfl, Nat.le_of_ble_eq_true rfl, Nat.le_of_ble_eq_true rfl⟩ hK hN hP (rX0 hK hP) rfl hl.1 rfl (Nat.le_of_ble_eq_true rfl) dX11_name_37 ⟨Nat.zero_le _, Nat.zero_le _⟩) ?_
    obtain rfl := Option.some.inj h
    exact W.iret hx hb hr (fun t ht _ => ⟨rfl, ht⟩) (fun _ h9 => by cases h9) dX11_name_40 hlk
theorem kX11_name  {v1 : Int32} {v2 : Int32} {q : Int32} (h : X11_name kp lo sy en v1 v2 = some q) : Met l yX11_name (.code yX11_name cX11_name 4 (some .int) :: WA) ({ frames := 4, cells := 0, slots := 0, locals := 88 } : Room) (va_Pc [.ref (ad 0), .int v1, .int v2] (PR D cy (GX cy ad (ad 21) (ad 55) nm tp kp cu se ur ab lo im sy un en ra li i2))) (QP (some (.int q))) 0 0 (fun _ => False) :=
  met_of (by decide) (Nat.le_of_ble_eq_true rfl) (fun p e s m below meth c ls C hP hK hN hl => bX11_name_0 C hK hN h hl hP)
def X11_file (kp : Tkp) (lo : Tlo) (un : Tun) (en : Ten) (li : Tli) (v1 : Int32) (v2 : Int32) : Option (Int32) := ((X11_sign kp (X10_filePlaceOf un (X5_fileOf lo un en li v1)) (X10_fileLengthOf un (X5_fileOf lo un en li v1)) v2).bind fun q1 => some q1)
set_option maxRecDepth 20000 in
theorem bX11_file_0 (C : Cx p s m args meth c cX11_file 4 (some .int) RX11 (.code yX11_file cX11_file 4 (some .int))) (hK : va_K D vwCl (tysX cy) s) (hN : NW s)  {q : Int32}  {v1 : Int32} {v2 : Int32} (h : X11_file kp lo un en li v1 v2 = some q) {ls : Array Slot} (hl : lv_has ls 4 [(0, .ref (ad 0)), (1, .int v1), (2, .int v2)]) (hP : va_P D vwCl (GX cy ad (ad 21) (ad 55) nm tp kp cu se ur ab lo im sy un en ra li i2) s.heap) : W p l e ({ frames := 5, cells := 0, slots := 0, locals := 112 } : Room) s m args below meth c s.heap [] 0 0 (MQ below (QP (some (.int q))) args s 0 0 (fun _ => False)) (F0 m 0 ls []) := by
  obtain ⟨hx, hb, hml, hown, hts, hr, hlk⟩ := id C
  unfold X11_file at h
  refine lv_aload_n hx hb dX11_file_0 rfl (lv_at hl 0 rfl) ?_
  refine gX0_5 C hK hP w487 dX11_file_1 ?_
  refine lv_aload_n hx hb dX11_file_4 rfl (lv_at hl 0 rfl) ?_
  refine gX0_6 C hK hP w488 dX11_file_5 ?_
  refine lv_iload_n hx hb dX11_file_8 rfl (lv_at hl 1 rfl) ?_
  refine cPi (run_V (rest := []) C (kX5_fileOf rfl) caX5_fileOf w1289 ⟨rfl, rfl, Nat.le_of_ble_eq_true rfl, Nat.le_of_ble_eq_true rfl⟩ hK hN hP (rX19 hK hP) rfl hl.1 rfl (Nat.le_of_ble_eq_true rfl) dX11_file_9 ⟨Nat.zero_le _, Nat.zero_le _⟩) ?_
  refine lv_istore_n (lv' := [(3, .int (X5_fileOf lo un en li v1)), (0, .ref (ad 0)), (1, .int v1), (2, .int v2)]) hx hb dX11_file_12 rfl hl (by decide) rfl (fun ls hl => ?_)
  refine lv_aload_n hx hb dX11_file_13 rfl (lv_at hl 1 rfl) ?_
  refine lv_aload_n hx hb dX11_file_14 rfl (lv_at hl 1 rfl) ?_
  refine gX0_6 C hK hP w488 dX11_file_15 ?_
  refine gX21_1N C hK hP hN w456 dX11_file_18 ?_
  refine lv_iload_n hx hb dX11_file_21 rfl (lv_at hl 0 rfl) ?_
  refine cPi (run_V (rest := [.ref (ad 0)]) C (kX10_filePlaceOf rfl) caX10_filePlaceOf w1331 ⟨rfl, rfl, Nat.le_of_ble_eq_true rfl, Nat.le_of_ble_eq_true rfl⟩ hK hN hP (rX27 hK hP) rfl hl.1 rfl (Nat.le_of_ble_eq_true rfl) dX11_file_22 ⟨Nat.zero_le _, Nat.zero_le _⟩) ?_
  refine lv_aload_n hx hb dX11_file_25 rfl (lv_at hl 1 rfl) ?_
  refine gX0_6 C hK hP w488 dX11_file_26 ?_
  refine gX21_1N C hK hP hN w456 dX11_file_29 ?_
  refine lv_iload_n hx hb dX11_file_32 rfl (lv_at hl 0 rfl) ?_
  refine cPi (run_V (rest := [.int (X10_filePlaceOf un (X5_fileOf lo un en li v1)), .ref (ad 0)]) C (kX10_fileLengthOf rfl) caX10_fileLengthOf w1298 ⟨rfl, rfl, Nat.le_of_ble_eq_true rfl, Nat.le_of_ble_eq_true rfl⟩ hK hN hP (rX27 hK hP) rfl hl.1 rfl (Nat.le_of_ble_eq_true rfl) dX11_file_33 ⟨Nat.zero_le _, Nat.zero_le _⟩) ?_
  refine lv_iload_n hx hb dX11_file_36 rfl (lv_at hl 3 rfl) ?_
  obtain ⟨q1, h2, h⟩ := bnd h
  refine cPi (run_V (rest := []) C (kX11_sign h2) caX11_sign w1319 ⟨rfl, rfl, Nat.le_of_ble_eq_true rfl, Nat.le_of_ble_eq_true rfl⟩ hK hN hP (rX0 hK hP) rfl hl.1 rfl (Nat.le_of_ble_eq_true rfl) dX11_file_37 ⟨Nat.zero_le _, Nat.zero_le _⟩) ?_
  obtain rfl := Option.some.inj h
  exact W.iret hx hb hr (fun t ht _ => ⟨rfl, ht⟩) (fun _ h9 => by cases h9) dX11_file_40 hlk
theorem kX11_file  {v1 : Int32} {v2 : Int32} {q : Int32} (h : X11_file kp lo un en li v1 v2 = some q) : Met l yX11_file (.code yX11_file cX11_file 4 (some .int) :: WA) ({ frames := 5, cells := 0, slots := 0, locals := 112 } : Room) (va_Pc [.ref (ad 0), .int v1, .int v2] (PR D cy (GX cy ad (ad 21) (ad 55) nm tp kp cu se ur ab lo im sy un en ra li i2))) (QP (some (.int q))) 0 0 (fun _ => False) :=
  met_of (by decide) (Nat.le_of_ble_eq_true rfl) (fun p e s m below meth c ls C hP hK hN hl => bX11_file_0 C hK hN h hl hP)
def X11_symbol (lo : Tlo) (sy : Tsy) (v1 : Int32) : Int32 := (if (X5_symbolFound lo) = (-1 : Int32) then (-1 : Int32) else (if v1 = (0 : Int32) then (X5_symbolFound lo) else (if v1 = (1 : Int32) then (X8_nameLengthOf sy (X5_symbolFound lo)) else (if v1 = (2 : Int32) then (X5_aboveSymbol lo) else (-1 : Int32)))))
set_option maxRecDepth 20000 in
theorem bX11_symbol_0 (C : Cx p s m args meth c cX11_symbol 3 (some .int) RX11 (.code yX11_symbol cX11_symbol 3 (some .int))) (hK : va_K D vwCl (tysX cy) s) (hN : NW s)  {q : Int32}  {v1 : Int32} (h : X11_symbol lo sy v1 = q) {ls : Array Slot} (hl : lv_has ls 3 [(0, .ref (ad 0)), (1, .int v1)]) (hP : va_P D vwCl (GX cy ad (ad 21) (ad 55) nm tp kp cu se ur ab lo im sy un en ra li i2) s.heap) : W p l e ({ frames := 2, cells := 0, slots := 0, locals := 42 } : Room) s m args below meth c s.heap [] 0 0 (MQ below (QP (some (.int q))) args s 0 0 (fun _ => False)) (F0 m 0 ls []) := by
  obtain ⟨hx, hb, hml, hown, hts, hr, hlk⟩ := id C
  unfold X11_symbol at h
  refine lv_aload_n hx hb dX11_symbol_0 rfl (lv_at hl 0 rfl) ?_
  refine gX0_5 C hK hP w487 dX11_symbol_1 ?_
  refine cPi (run_V (rest := []) C (kX5_symbolFound rfl) caX5_symbolFound w1306 ⟨rfl, rfl, Nat.le_of_ble_eq_true rfl, Nat.le_of_ble_eq_true rfl⟩ hK hN hP (rX19 hK hP) rfl hl.1 rfl (Nat.le_of_ble_eq_true rfl) dX11_symbol_4 ⟨Nat.zero_le _, Nat.zero_le _⟩) ?_
  refine lv_istore_n (lv' := [(2, .int (X5_symbolFound lo)), (0, .ref (ad 0)), (1, .int v1)]) hx hb dX11_symbol_7 rfl hl (by decide) rfl (fun ls hl => ?_)
  refine lv_iload_n hx hb dX11_symbol_8 rfl (lv_at hl 0 rfl) ?_
  refine lv_iconst (v := (-1 : Int32)) hx hb dX11_symbol_9 (by decide) ?_
  refine lv_icmp_ne (tgt := 15) hx hb dX11_symbol_10 (by decide) (fun c1 => ?_) (fun c1 => ?_)
  · rw [if_neg c1] at h
    refine lv_iload_n hx hb dX11_symbol_15 rfl (lv_at hl 2 rfl) ?_
    by_cases c2 : v1 = (0 : Int32)
    · rw [if_pos c2] at h
      rw [c2]
      refine lv_tableIn (off := 28) (tgt := 44) hx hb dX11_symbol_16 (by decide) (by decide) (by decide) (by decide) ?_
      refine lv_iload_n hx hb dX11_symbol_44 rfl (lv_at hl 0 rfl) ?_
      obtain rfl := h
      exact W.iret hx hb hr (fun t ht _ => ⟨rfl, ht⟩) (fun _ h9 => by cases h9) dX11_symbol_45 hlk
    rw [if_neg c2] at h
    by_cases c3 : v1 = (1 : Int32)
    · rw [if_pos c3] at h
      rw [c3]
      refine lv_tableIn (off := 30) (tgt := 46) hx hb dX11_symbol_16 (by decide) (by decide) (by decide) (by decide) ?_
      refine lv_aload_n hx hb dX11_symbol_46 rfl (lv_at hl 1 rfl) ?_
      refine gX0_6 C hK hP w488 dX11_symbol_47 ?_
      refine gX21_0N C hK hP hN w450 dX11_symbol_50 ?_
      refine lv_iload_n hx hb dX11_symbol_53 rfl (lv_at hl 0 rfl) ?_
      refine cPi (run_V (rest := []) C (kX8_nameLengthOf rfl) caX8_nameLengthOf w1315 ⟨rfl, rfl, Nat.le_of_ble_eq_true rfl, Nat.le_of_ble_eq_true rfl⟩ hK hN hP (rX22 hK hP) rfl hl.1 rfl (Nat.le_of_ble_eq_true rfl) dX11_symbol_54 ⟨Nat.zero_le _, Nat.zero_le _⟩) ?_
      obtain rfl := h
      exact W.iret hx hb hr (fun t ht _ => ⟨rfl, ht⟩) (fun _ h9 => by cases h9) dX11_symbol_57 hlk
    rw [if_neg c3] at h
    by_cases c4 : v1 = (2 : Int32)
    · rw [if_pos c4] at h
      rw [c4]
      refine lv_tableIn (off := 42) (tgt := 58) hx hb dX11_symbol_16 (by decide) (by decide) (by decide) (by decide) ?_
      refine lv_aload_n hx hb dX11_symbol_58 rfl (lv_at hl 1 rfl) ?_
      refine gX0_5 C hK hP w487 dX11_symbol_59 ?_
      refine cPi (run_V (rest := []) C (kX5_aboveSymbol rfl) caX5_aboveSymbol w1339 ⟨rfl, rfl, Nat.le_of_ble_eq_true rfl, Nat.le_of_ble_eq_true rfl⟩ hK hN hP (rX19 hK hP) rfl hl.1 rfl (Nat.le_of_ble_eq_true rfl) dX11_symbol_62 ⟨Nat.zero_le _, Nat.zero_le _⟩) ?_
      obtain rfl := h
      exact W.iret hx hb hr (fun t ht _ => ⟨rfl, ht⟩) (fun _ h9 => by cases h9) dX11_symbol_65 hlk
    rw [if_neg c4] at h
    refine tsw_d (tgt := 66) hx hb dX11_symbol_16 [(0 : Int32), (1 : Int32), (2 : Int32)] (by simp only [List.mem_cons, List.not_mem_nil, or_false]; rintro _ (rfl | rfl | rfl) <;> assumption) (by decide +kernel) (by decide) ?_
    refine lv_iconst (v := (-1 : Int32)) hx hb dX11_symbol_66 (by decide) ?_
    obtain rfl := h
    exact W.iret hx hb hr (fun t ht _ => ⟨rfl, ht⟩) (fun _ h9 => by cases h9) dX11_symbol_67 hlk
  · rw [if_pos c1] at h
    refine lv_iconst (v := (-1 : Int32)) hx hb dX11_symbol_13 (by decide) ?_
    obtain rfl := h
    exact W.iret hx hb hr (fun t ht _ => ⟨rfl, ht⟩) (fun _ h9 => by cases h9) dX11_symbol_14 hlk
theorem kX11_symbol  {v1 : Int32} {q : Int32} (h : X11_symbol lo sy v1 = q) : Met l yX11_symbol (.code yX11_symbol cX11_symbol 3 (some .int) :: WA) ({ frames := 2, cells := 0, slots := 0, locals := 42 } : Room) (va_Pc [.ref (ad 0), .int v1] (PR D cy (GX cy ad (ad 21) (ad 55) nm tp kp cu se ur ab lo im sy un en ra li i2))) (QP (some (.int q))) 0 0 (fun _ => False) :=
  met_of (by decide) (Nat.le_of_ble_eq_true rfl) (fun p e s m below meth c ls C hP hK hN hl => bX11_symbol_0 C hK hN h hl hP)
def X11_count (nm : Tnm) (im : Tim) (sy : Tsy) (un : Tun) (en : Ten) (ra : Tra) (li : Tli) (v1 : Int32) : Int32 := (if v1 = (0 : Int32) then nm else (if v1 = (1 : Int32) then im else (if v1 = (2 : Int32) then (X8_total sy) else (if v1 = (3 : Int32) then (X10_total un) else (if v1 = (4 : Int32) then (X2_total en) else (if v1 = (5 : Int32) then (X6_total ra) else (if v1 = (6 : Int32) then (X4_total li) else (if v1 = (7 : Int32) then (X10_fileTotal un) else (-1 : Int32)))))))))
set_option maxRecDepth 20000 in
theorem bX11_count_0 (C : Cx p s m args meth c cX11_count 2 (some .int) RX11 (.code yX11_count cX11_count 2 (some .int))) (hK : va_K D vwCl (tysX cy) s) (hN : NW s)  {q : Int32}  {v1 : Int32} (h : X11_count nm im sy un en ra li v1 = q) {ls : Array Slot} (hl : lv_has ls 2 [(0, .ref (ad 0)), (1, .int v1)]) (hP : va_P D vwCl (GX cy ad (ad 21) (ad 55) nm tp kp cu se ur ab lo im sy un en ra li i2) s.heap) : W p l e ({ frames := 1, cells := 0, slots := 0, locals := 20 } : Room) s m args below meth c s.heap [] 0 0 (MQ below (QP (some (.int q))) args s 0 0 (fun _ => False)) (F0 m 0 ls []) := by
  obtain ⟨hx, hb, hml, hown, hts, hr, hlk⟩ := id C
  unfold X11_count at h
  refine lv_iload_n hx hb dX11_count_0 rfl (lv_at hl 1 rfl) ?_
  by_cases c1 : v1 = (0 : Int32)
  · rw [if_pos c1] at h
    rw [c1]
    refine lv_tableIn (off := 47) (tgt := 48) hx hb dX11_count_1 (by decide) (by decide) (by decide) (by decide) ?_
    refine lv_aload_n hx hb dX11_count_48 rfl (lv_at hl 0 rfl) ?_
    refine gX0_8 (v := nm) C hK hP rfl w490 dX11_count_49 ?_
    obtain rfl := h
    exact W.iret hx hb hr (fun t ht _ => ⟨rfl, ht⟩) (fun _ h9 => by cases h9) dX11_count_52 hlk
  rw [if_neg c1] at h
  by_cases c2 : v1 = (1 : Int32)
  · rw [if_pos c2] at h
    rw [c2]
    refine lv_tableIn (off := 52) (tgt := 53) hx hb dX11_count_1 (by decide) (by decide) (by decide) (by decide) ?_
    refine lv_aload_n hx hb dX11_count_53 rfl (lv_at hl 0 rfl) ?_
    refine gX0_6 C hK hP w488 dX11_count_54 ?_
    refine gX21_5N (v := im) C hK hP rfl hN w468 dX11_count_57 ?_
    obtain rfl := h
    exact W.iret hx hb hr (fun t ht _ => ⟨rfl, ht⟩) (fun _ h9 => by cases h9) dX11_count_60 hlk
  rw [if_neg c2] at h
  by_cases c3 : v1 = (2 : Int32)
  · rw [if_pos c3] at h
    rw [c3]
    refine lv_tableIn (off := 60) (tgt := 61) hx hb dX11_count_1 (by decide) (by decide) (by decide) (by decide) ?_
    refine lv_aload_n hx hb dX11_count_61 rfl (lv_at hl 0 rfl) ?_
    refine gX0_6 C hK hP w488 dX11_count_62 ?_
    refine gX21_0N C hK hP hN w450 dX11_count_65 ?_
    refine cPi (run_V (rest := []) C (kX8_total rfl) caX8_total w1347 ⟨rfl, rfl, Nat.le_of_ble_eq_true rfl, Nat.le_of_ble_eq_true rfl⟩ hK hN hP (rX22 hK hP) rfl hl.1 rfl (Nat.le_of_ble_eq_true rfl) dX11_count_68 ⟨Nat.zero_le _, Nat.zero_le _⟩) ?_
    obtain rfl := h
    exact W.iret hx hb hr (fun t ht _ => ⟨rfl, ht⟩) (fun _ h9 => by cases h9) dX11_count_71 hlk
  rw [if_neg c3] at h
  by_cases c4 : v1 = (3 : Int32)
  · rw [if_pos c4] at h
    rw [c4]
    refine lv_tableIn (off := 71) (tgt := 72) hx hb dX11_count_1 (by decide) (by decide) (by decide) (by decide) ?_
    refine lv_aload_n hx hb dX11_count_72 rfl (lv_at hl 0 rfl) ?_
    refine gX0_6 C hK hP w488 dX11_count_73 ?_
    refine gX21_1N C hK hP hN w456 dX11_count_76 ?_
    refine cPi (run_V (rest := []) C (kX10_total rfl) caX10_total w1351 ⟨rfl, rfl, Nat.le_of_ble_eq_true rfl, Nat.le_of_ble_eq_true rfl⟩ hK hN hP (rX27 hK hP) rfl hl.1 rfl (Nat.le_of_ble_eq_true rfl) dX11_count_79 ⟨Nat.zero_le _, Nat.zero_le _⟩) ?_
    obtain rfl := h
    exact W.iret hx hb hr (fun t ht _ => ⟨rfl, ht⟩) (fun _ h9 => by cases h9) dX11_count_82 hlk
  rw [if_neg c4] at h
  by_cases c5 : v1 = (4 : Int32)
  · rw [if_pos c5] at h
    rw [c5]
    refine lv_tableIn (off := 82) (tgt := 83) hx hb dX11_count_1 (by decide) (by decide) (by decide) (by decide) ?_
    refine lv_aload_n hx hb dX11_count_83 rfl (lv_at hl 0 rfl) ?_
    refine gX0_6 C hK hP w488 dX11_count_84 ?_
    refine gX21_2N C hK hP hN w462 dX11_count_87 ?_
    refine cPi (run_V (rest := []) C (kX2_total rfl) caX2_total w1123 ⟨rfl, rfl, Nat.le_of_ble_eq_true rfl, Nat.le_of_ble_eq_true rfl⟩ hK hN hP (rX34 hK hP) rfl hl.1 rfl (Nat.le_of_ble_eq_true rfl) dX11_count_90 ⟨Nat.zero_le _, Nat.zero_le _⟩) ?_
    obtain rfl := h
    exact W.iret hx hb hr (fun t ht _ => ⟨rfl, ht⟩) (fun _ h9 => by cases h9) dX11_count_93 hlk
  rw [if_neg c5] at h
  by_cases c6 : v1 = (5 : Int32)
  · rw [if_pos c6] at h
    rw [c6]
    refine lv_tableIn (off := 93) (tgt := 94) hx hb dX11_count_1 (by decide) (by decide) (by decide) (by decide) ?_
    refine lv_aload_n hx hb dX11_count_94 rfl (lv_at hl 0 rfl) ?_
    refine gX0_6 C hK hP w488 dX11_count_95 ?_
    refine gX21_3N C hK hP hN w464 dX11_count_98 ?_
    refine cPi (run_V (rest := []) C (kX6_total rfl) caX6_total w1352 ⟨rfl, rfl, Nat.le_of_ble_eq_true rfl, Nat.le_of_ble_eq_true rfl⟩ hK hN hP (rX45 hK hP) rfl hl.1 rfl (Nat.le_of_ble_eq_true rfl) dX11_count_101 ⟨Nat.zero_le _, Nat.zero_le _⟩) ?_
    obtain rfl := h
    exact W.iret hx hb hr (fun t ht _ => ⟨rfl, ht⟩) (fun _ h9 => by cases h9) dX11_count_104 hlk
  rw [if_neg c6] at h
  by_cases c7 : v1 = (6 : Int32)
  · rw [if_pos c7] at h
    rw [c7]
    refine lv_tableIn (off := 104) (tgt := 105) hx hb dX11_count_1 (by decide) (by decide) (by decide) (by decide) ?_
    refine lv_aload_n hx hb dX11_count_105 rfl (lv_at hl 0 rfl) ?_
    refine gX0_6 C hK hP w488 dX11_count_106 ?_
    refine gX21_4N C hK hP hN w467 dX11_count_109 ?_
    refine cPi (run_V (rest := []) C (kX4_total rfl) caX4_total w1356 ⟨rfl, rfl, Nat.le_of_ble_eq_true rfl, Nat.le_of_ble_eq_true rfl⟩ hK hN hP (rX48 hK hP) rfl hl.1 rfl (Nat.le_of_ble_eq_true rfl) dX11_count_112 ⟨Nat.zero_le _, Nat.zero_le _⟩) ?_
    obtain rfl := h
    exact W.iret hx hb hr (fun t ht _ => ⟨rfl, ht⟩) (fun _ h9 => by cases h9) dX11_count_115 hlk
  rw [if_neg c7] at h
  by_cases c8 : v1 = (7 : Int32)
  · rw [if_pos c8] at h
    rw [c8]
    refine lv_tableIn (off := 115) (tgt := 116) hx hb dX11_count_1 (by decide) (by decide) (by decide) (by decide) ?_
    refine lv_aload_n hx hb dX11_count_116 rfl (lv_at hl 0 rfl) ?_
    refine gX0_6 C hK hP w488 dX11_count_117 ?_
    refine gX21_1N C hK hP hN w456 dX11_count_120 ?_
    refine cPi (run_V (rest := []) C (kX10_fileTotal rfl) caX10_fileTotal w1360 ⟨rfl, rfl, Nat.le_of_ble_eq_true rfl, Nat.le_of_ble_eq_true rfl⟩ hK hN hP (rX27 hK hP) rfl hl.1 rfl (Nat.le_of_ble_eq_true rfl) dX11_count_123 ⟨Nat.zero_le _, Nat.zero_le _⟩) ?_
    obtain rfl := h
    exact W.iret hx hb hr (fun t ht _ => ⟨rfl, ht⟩) (fun _ h9 => by cases h9) dX11_count_126 hlk
  rw [if_neg c8] at h
  refine tsw_d (tgt := 127) hx hb dX11_count_1 [(0 : Int32), (1 : Int32), (2 : Int32), (3 : Int32), (4 : Int32), (5 : Int32), (6 : Int32), (7 : Int32)] (by simp only [List.mem_cons, List.not_mem_nil, or_false]; rintro _ (rfl | rfl | rfl | rfl | rfl | rfl | rfl | rfl) <;> assumption) (by decide +kernel) (by decide) ?_
  refine lv_iconst (v := (-1 : Int32)) hx hb dX11_count_127 (by decide) ?_
  obtain rfl := h
  exact W.iret hx hb hr (fun t ht _ => ⟨rfl, ht⟩) (fun _ h9 => by cases h9) dX11_count_128 hlk
theorem kX11_count  {v1 : Int32} {q : Int32} (h : X11_count nm im sy un en ra li v1 = q) : Met l yX11_count (.code yX11_count cX11_count 2 (some .int) :: WA) ({ frames := 1, cells := 0, slots := 0, locals := 20 } : Room) (va_Pc [.ref (ad 0), .int v1] (PR D cy (GX cy ad (ad 21) (ad 55) nm tp kp cu se ur ab lo im sy un en ra li i2))) (QP (some (.int q))) 0 0 (fun _ => False) :=
  met_of (by decide) (Nat.le_of_ble_eq_true rfl) (fun p e s m below meth c ls C hP hK hN hl => bX11_count_0 C hK hN h hl hP)
end
