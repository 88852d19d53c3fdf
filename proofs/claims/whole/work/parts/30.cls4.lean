section
variable {p : Program} {l : Launch} {e : Env} {s : State} {m : MethodId} {args : Array Value} {below : List Frame} {meth : Method} {c : Code} {D : va_G} {cy : Nat → ClassId} {ad : Nat → Nat}
variable {tk : Nat} {sp : Nat} {nm : Tnm} {tp : Ttp} {kp : Tkp} {cu : Tcu} {se : Tse} {ur : Tur} {ab : Tab} {lo : Tlo} {im : Tim} {sy : Tsy} {un : Tun} {en : Ten} {ra : Tra} {li : Tli} {i2 : Ti2}
def X11_entry (en : Ten) (v1 : Int32) (v2 : Int32) : Option (Int32) := (if (X2_has en v1) = 0 then some (-1 : Int32) else (if v2 = (0 : Int32) then some (((X2_tagOf en v1)).toInt32) else (if v2 = (1 : Int32) then some (X2_parentOf en v1) else (if v2 = (2 : Int32) then some (X2_unitOf en v1) else (if v2 = (3 : Int32) then some (X2_originOf en v1) else (if v2 = (4 : Int32) then some (X2_rangeTotalOf en v1) else (if v2 = (5 : Int32) then some (X2_placeOf en v1) else (if v2 = (6 : Int32) then ((X2_namedFor en v1).bind fun q9 => some (X2_nameLengthOf en q9)) else (if v2 = (7 : Int32) then some (((X2_valueOr en v1 (7 : Int32) (-1 : Int64))).toInt32) else (if v2 = (8 : Int32) then some (((X2_valueOr en v1 (8 : Int32) (-1 : Int64))).toInt32) else some (-1 : Int32)))))))))))
set_option maxRecDepth 20000 in
theorem bX11_entry_0 (C : Cx p s m args meth c cX11_entry 4 (some .int) RX11 (.code yX11_entry cX11_entry 4 (some .int))) (hK : va_K D vwCl (tysX cy) s) (hN : NW s)  {q : Int32}  {v1 : Int32} {v2 : Int32} (h : X11_entry en v1 v2 = some q) {ls : Array Slot} (hl : lv_has ls 4 [(0, .ref (ad 0)), (1, .int v1), (2, .int v2)]) (hP : va_P D vwCl (GX cy ad (ad 21) (ad 55) nm tp kp cu se ur ab lo im sy un en ra li i2) s.heap) : W p l e ({ frames := 3, cells := 0, slots := 0, locals := 67 } : Room) s m args below meth c s.heap [] 0 0 (MQ below (QP (some (.int q))) args s 0 0 (fun _ => False)) (F0 m 0 ls []) := by
  obtain ⟨hx, hb, hml, hown, hts, hr, hlk⟩ := id C
  unfold X11_entry at h
  refine lv_aload_n hx hb dX11_entry_0 rfl (lv_at hl 0 rfl) ?_
  refine gX0_6 C hK hP w478 dX11_entry_1 ?_
  refine gX21_2N C hK hP hN w452 dX11_entry_4 ?_
  refine lv_astore_n (lv' := [(3, .ref (ad 34)), (0, .ref (ad 0)), (1, .int v1), (2, .int v2)]) hx hb dX11_entry_7 rfl hl (by decide) rfl (fun ls hl => ?_)
  refine lv_aload_n hx hb dX11_entry_8 rfl (lv_at hl 0 rfl) ?_
  refine lv_iload_n hx hb dX11_entry_9 rfl (lv_at hl 2 rfl) ?_
  refine cPi (run_V (rest := []) C (kX2_has rfl) caX2_has w1110 ⟨rfl, rfl, Nat.le_of_ble_eq_true rfl, Nat.le_of_ble_eq_true rfl⟩ hK hN hP (rX34 hK hP) rfl hl.1 rfl (Nat.le_of_ble_eq_true rfl) dX11_entry_10 ⟨Nat.zero_le _, Nat.zero_le _⟩) ?_
  refine lv_if_ne (tgt := 18) hx hb dX11_entry_13 (by decide) (fun c1 => ?_) (fun c1 => ?_)
  · rw [if_neg c1] at h
    refine lv_iload_n hx hb dX11_entry_18 rfl (lv_at hl 3 rfl) ?_
    by_cases c2 : v2 = (0 : Int32)
    · rw [if_pos c2] at h
      rw [c2]
      refine lv_tableIn (off := 49) (tgt := 68) hx hb dX11_entry_19 (by decide) (by decide) (by decide) (by decide) ?_
      refine lv_aload_n hx hb dX11_entry_68 rfl (lv_at hl 0 rfl) ?_
      refine lv_iload_n hx hb dX11_entry_69 rfl (lv_at hl 2 rfl) ?_
      refine cPl (run_V (rest := []) C (kX2_tagOf rfl) caX2_tagOf w1111 ⟨rfl, rfl, Nat.le_of_ble_eq_true rfl, Nat.le_of_ble_eq_true rfl⟩ hK hN hP (rX34 hK hP) rfl hl.1 rfl (Nat.le_of_ble_eq_true rfl) dX11_entry_70 ⟨Nat.zero_le _, Nat.zero_le _⟩) ?_
      refine lv_l2i (v := (((X2_tagOf en v1)).toInt32)) hx hb dX11_entry_73 rfl ?_
      obtain rfl := Option.some.inj h
      exact W.iret hx hb hr (fun t ht _ => ⟨rfl, ht⟩) (fun _ h9 => by cases h9) dX11_entry_74 hlk
    rw [if_neg c2] at h
    by_cases c3 : v2 = (1 : Int32)
    · rw [if_pos c3] at h
      rw [c3]
      refine lv_tableIn (off := 56) (tgt := 75) hx hb dX11_entry_19 (by decide) (by decide) (by decide) (by decide) ?_
      refine lv_aload_n hx hb dX11_entry_75 rfl (lv_at hl 0 rfl) ?_
      refine lv_iload_n hx hb dX11_entry_76 rfl (lv_at hl 2 rfl) ?_
      refine cPi (run_V (rest := []) C (kX2_parentOf rfl) caX2_parentOf w1115 ⟨rfl, rfl, Nat.le_of_ble_eq_true rfl, Nat.le_of_ble_eq_true rfl⟩ hK hN hP (rX34 hK hP) rfl hl.1 rfl (Nat.le_of_ble_eq_true rfl) dX11_entry_77 ⟨Nat.zero_le _, Nat.zero_le _⟩) ?_
      obtain rfl := Option.some.inj h
      exact W.iret hx hb hr (fun t ht _ => ⟨rfl, ht⟩) (fun _ h9 => by cases h9) dX11_entry_80 hlk
    rw [if_neg c3] at h
    by_cases c4 : v2 = (2 : Int32)
    · rw [if_pos c4] at h
      rw [c4]
      refine lv_tableIn (off := 62) (tgt := 81) hx hb dX11_entry_19 (by decide) (by decide) (by decide) (by decide) ?_
      refine lv_aload_n hx hb dX11_entry_81 rfl (lv_at hl 0 rfl) ?_
      refine lv_iload_n hx hb dX11_entry_82 rfl (lv_at hl 2 rfl) ?_
      refine cPi (run_V (rest := []) C (kX2_unitOf rfl) caX2_unitOf w1119 ⟨rfl, rfl, Nat.le_of_ble_eq_true rfl, Nat.le_of_ble_eq_true rfl⟩ hK hN hP (rX34 hK hP) rfl hl.1 rfl (Nat.le_of_ble_eq_true rfl) dX11_entry_83 ⟨Nat.zero_le _, Nat.zero_le _⟩) ?_
      obtain rfl := Option.some.inj h
      exact W.iret hx hb hr (fun t ht _ => ⟨rfl, ht⟩) (fun _ h9 => by cases h9) dX11_entry_86 hlk
    rw [if_neg c4] at h
    by_cases c5 : v2 = (3 : Int32)
    · rw [if_pos c5] at h
      rw [c5]
      refine lv_tableIn (off := 68) (tgt := 87) hx hb dX11_entry_19 (by decide) (by decide) (by decide) (by decide) ?_
      refine lv_aload_n hx hb dX11_entry_87 rfl (lv_at hl 0 rfl) ?_
      refine lv_iload_n hx hb dX11_entry_88 rfl (lv_at hl 2 rfl) ?_
      refine cPi (run_V (rest := []) C (kX2_originOf rfl) caX2_originOf w1120 ⟨rfl, rfl, Nat.le_of_ble_eq_true rfl, Nat.le_of_ble_eq_true rfl⟩ hK hN hP (rX34 hK hP) rfl hl.1 rfl (Nat.le_of_ble_eq_true rfl) dX11_entry_89 ⟨Nat.zero_le _, Nat.zero_le _⟩) ?_
      obtain rfl := Option.some.inj h
      exact W.iret hx hb hr (fun t ht _ => ⟨rfl, ht⟩) (fun _ h9 => by cases h9) dX11_entry_92 hlk
    rw [if_neg c5] at h
    by_cases c6 : v2 = (4 : Int32)
    · rw [if_pos c6] at h
      rw [c6]
      refine lv_tableIn (off := 74) (tgt := 93) hx hb dX11_entry_19 (by decide) (by decide) (by decide) (by decide) ?_
      refine lv_aload_n hx hb dX11_entry_93 rfl (lv_at hl 0 rfl) ?_
      refine lv_iload_n hx hb dX11_entry_94 rfl (lv_at hl 2 rfl) ?_
      refine cPi (run_V (rest := []) C (kX2_rangeTotalOf rfl) caX2_rangeTotalOf w1124 ⟨rfl, rfl, Nat.le_of_ble_eq_true rfl, Nat.le_of_ble_eq_true rfl⟩ hK hN hP (rX34 hK hP) rfl hl.1 rfl (Nat.le_of_ble_eq_true rfl) dX11_entry_95 ⟨Nat.zero_le _, Nat.zero_le _⟩) ?_
      obtain rfl := Option.some.inj h
      exact W.iret hx hb hr (fun t ht _ => ⟨rfl, ht⟩) (fun _ h9 => by cases h9) dX11_entry_98 hlk
    rw [if_neg c6] at h
    by_cases c7 : v2 = (5 : Int32)
    · rw [if_pos c7] at h
      rw [c7]
      refine lv_tableIn (off := 80) (tgt := 99) hx hb dX11_entry_19 (by decide) (by decide) (by decide) (by decide) ?_
      refine lv_aload_n hx hb dX11_entry_99 rfl (lv_at hl 0 rfl) ?_
      refine lv_iload_n hx hb dX11_entry_100 rfl (lv_at hl 2 rfl) ?_
      refine cPi (run_V (rest := []) C (kX2_placeOf rfl) caX2_placeOf w1128 ⟨rfl, rfl, Nat.le_of_ble_eq_true rfl, Nat.le_of_ble_eq_true rfl⟩ hK hN hP (rX34 hK hP) rfl hl.1 rfl (Nat.le_of_ble_eq_true rfl) dX11_entry_101 ⟨Nat.zero_le _, Nat.zero_le _⟩) ?_
      obtain rfl := Option.some.inj h
      exact W.iret hx hb hr (fun t ht _ => ⟨rfl, ht⟩) (fun _ h9 => by cases h9) dX11_entry_104 hlk
    rw [if_neg c7] at h
    by_cases c8 : v2 = (6 : Int32)
    · rw [if_pos c8] at h
      rw [c8]
      refine lv_tableIn (off := 86) (tgt := 105) hx hb dX11_entry_19 (by decide) (by decide) (by decide) (by decide) ?_
      refine lv_aload_n hx hb dX11_entry_105 rfl (lv_at hl 0 rfl) ?_
      refine lv_aload_n hx hb dX11_entry_106 rfl (lv_at hl 0 rfl) ?_
      refine lv_iload_n hx hb dX11_entry_107 rfl (lv_at hl 2 rfl) ?_
      obtain ⟨q9, h10, h⟩ := bnd h
      refine cPi (run_V (rest := [.ref (ad 34)]) C (kX2_namedFor h10) caX2_namedFor w1129 ⟨rfl, rfl, Nat.le_of_ble_eq_true rfl, Nat.le_of_ble_eq_true rfl⟩ hK hN hP (rX34 hK hP) rfl hl.1 rfl (Nat.le_of_ble_eq_true rfl) dX11_entry_108 ⟨Nat.zero_le _, Nat.zero_le _⟩) ?_
      refine cPi (run_V (rest := []) C (kX2_nameLengthOf rfl) caX2_nameLengthOf w1134 ⟨rfl, rfl, Nat.le_of_ble_eq_true rfl, Nat.le_of_ble_eq_true rfl⟩ hK hN hP (rX34 hK hP) rfl hl.1 rfl (Nat.le_of_ble_eq_true rfl) dX11_entry_111 ⟨Nat.zero_le _, Nat.zero_le _⟩) ?_
      obtain rfl := Option.some.inj h
      exact W.iret hx hb hr (fun t ht _ => ⟨rfl, ht⟩) (fun _ h9 => by cases h9) dX11_entry_114 hlk
    rw [if_neg c8] at h
    by_cases c11 : v2 = (7 : Int32)
    · rw [if_pos c11] at h
      rw [c11]
      refine lv_tableIn (off := 96) (tgt := 115) hx hb dX11_entry_19 (by decide) (by decide) (by decide) (by decide) ?_
      refine lv_aload_n hx hb dX11_entry_115 rfl (lv_at hl 0 rfl) ?_
      refine lv_iload_n hx hb dX11_entry_116 rfl (lv_at hl 2 rfl) ?_
      refine lv_bipush (v := (7 : Int32)) hx hb dX11_entry_117 (by decide) ?_
      refine lv_ldc2 (v := (-1 : Int64)) hx hb hown (hts _ (List.mem_cons_of_mem _ w772)) dX11_entry_119 ?_
      refine cPl (run_V (rest := []) C (kX2_valueOr rfl) caX2_valueOr w1138 ⟨rfl, rfl, Nat.le_of_ble_eq_true rfl, Nat.le_of_ble_eq_true rfl⟩ hK hN hP (rX34 hK hP) rfl hl.1 rfl (Nat.le_of_ble_eq_true rfl) dX11_entry_122 ⟨Nat.zero_le _, Nat.zero_le _⟩) ?_
      refine lv_l2i (v := (((X2_valueOr en v1 (7 : Int32) (-1 : Int64))).toInt32)) hx hb dX11_entry_125 rfl ?_
      obtain rfl := Option.some.inj h
      exact W.iret hx hb hr (fun t ht _ => ⟨rfl, ht⟩) (fun _ h9 => by cases h9) dX11_entry_126 hlk
    rw [if_neg c11] at h
    by_cases c12 : v2 = (8 : Int32)
    · rw [if_pos c12] at h
      rw [c12]
      refine lv_tableIn (off := 108) (tgt := 127) hx hb dX11_entry_19 (by decide) (by decide) (by decide) (by decide) ?_
      refine lv_aload_n hx hb dX11_entry_127 rfl (lv_at hl 0 rfl) ?_
      refine lv_iload_n hx hb dX11_entry_128 rfl (lv_at hl 2 rfl) ?_
      refine lv_bipush (v := (8 : Int32)) hx hb dX11_entry_129 (by decide) ?_
      refine lv_ldc2 (v := (-1 : Int64)) hx hb hown (hts _ (List.mem_cons_of_mem _ w772)) dX11_entry_131 ?_
      refine cPl (run_V (rest := []) C (kX2_valueOr rfl) caX2_valueOr w1138 ⟨rfl, rfl, Nat.le_of_ble_eq_true rfl, Nat.le_of_ble_eq_true rfl⟩ hK hN hP (rX34 hK hP) rfl hl.1 rfl (Nat.le_of_ble_eq_true rfl) dX11_entry_134 ⟨Nat.zero_le _, Nat.zero_le _⟩) ?_
      refine lv_l2i (v := (((X2_valueOr en v1 (8 : Int32) (-1 : Int64))).toInt32)) hx hb dX11_entry_137 rfl ?_
      obtain rfl := Option.some.inj h
      exact W.iret hx hb hr (fun t ht _ => ⟨rfl, ht⟩) (fun _ h9 => by cases h9) dX11_entry_138 hlk
    rw [if_neg c12] at h
    refine tsw_d (tgt := 139) hx hb dX11_entry_19 [(0 : Int32), (1 : Int32), (2 : Int32), (3 : Int32), (4 : Int32), (5 : Int32), (6 : Int32), (7 : Int32), (8 : Int32)] (by simp only [List.mem_cons, List.not_mem_nil, or_false]; rintro _ (rfl | rfl | rfl | rfl | rfl | rfl | rfl | rfl | rfl) <;> assumption) (by decide +kernel) (by decide) ?_
    refine lv_iconst (v := (-1 : Int32)) hx hb dX11_entry_139 (by decide) ?_
    obtain rfl := Option.some.inj h
    exact W.iret hx hb hr (fun t ht _ => ⟨rfl, ht⟩) (fun _ h9 => by cases h9) dX11_entry_140 hlk
  · rw [if_pos c1] at h
    refine lv_iconst (v := (-1 : Int32)) hx hb dX11_entry_16 (by decide) ?_
    obtain rfl := Option.some.inj h
    exact W.iret hx hb hr (fun t ht _ => ⟨rfl, ht⟩) (fun _ h9 => by cases h9) dX11_entry_17 hlk
theorem kX11_entry  {v1 : Int32} {v2 : Int32} {q : Int32} (h : X11_entry en v1 v2 = some q) : Met l yX11_entry (.code yX11_entry cX11_entry 4 (some .int) :: WA) ({ frames := 3, cells := 0, slots := 0, locals := 67 } : Room) (va_Pc [.ref (ad 0), .int v1, .int v2] (PR D cy (GX cy ad (ad 21) (ad 55) nm tp kp cu se ur ab lo im sy un en ra li i2))) (QP (some (.int q))) 0 0 (fun _ => False) :=
  met_of (by decide) (Nat.le_of_ble_eq_true rfl) (fun p e s m below meth c ls C hP hK hN hl => bX11_entry_0 C hK hN h hl hP)
def X11_holds (en : Ten) (ra : Tra) (v1 : Int32) (v2 : Int64) : Option (Int32) := ((X3_entryHolds en ra v1 v2).bind fun q1 => (if bz q1 = true then some q1 else none))
set_option maxRecDepth 20000 in
theorem bX11_holds_0 (C : Cx p s m args meth c cX11_holds 4 (some .boolean) RX11 (.code yX11_holds cX11_holds 4 (some .boolean))) (hK : va_K D vwCl (tysX cy) s) (hN : NW s)  {q : Int32}  {v1 : Int32} {v2 : Int64} (h : X11_holds en ra v1 v2 = some q) {ls : Array Slot} (hl : lv_has ls 4 [(0, .ref (ad 0)), (1, .int v1), (2, .long v2)]) (hP : va_P D vwCl (GX cy ad (ad 21) (ad 55) nm tp kp cu se ur ab lo im sy un en ra li i2) s.heap) : W p l e ({ frames := 3, cells := 0, slots := 0, locals := 69 } : Room) s m args below meth c s.heap [] 0 0 (MQ below (QP (some (.int q))) args s 0 0 (fun _ => False)) (F0 m 0 ls []) := by
  obtain ⟨hx, hb, hml, hown, hts, hr, hlk⟩ := id C
  unfold X11_holds at h
  refine lv_aload_n hx hb dX11_holds_0 rfl (lv_at hl 0 rfl) ?_
  refine gX0_6 C hK hP w478 dX11_holds_1 ?_
  refine lv_iload_n hx hb dX11_holds_4 rfl (lv_at hl 1 rfl) ?_
  refine lv_lload_n hx hb dX11_holds_5 rfl (lv_at hl 2 rfl) ?_
  obtain ⟨q1, h2, h⟩ := bnd h
  refine cPi (run_V (rest := []) C (kX3_entryHolds h2) caX3_entryHolds w1143 ⟨rfl, rfl, Nat.le_of_ble_eq_true rfl, Nat.le_of_ble_eq_true rfl⟩ hK hN hP (rX21 hK hP) rfl hl.1 rfl (Nat.le_of_ble_eq_true rfl) dX11_holds_6 ⟨Nat.zero_le _, Nat.zero_le _⟩) ?_
  obtain ⟨n3, h⟩ := grd h
  obtain rfl := Option.some.inj h
  exact W.zret (ty := .boolean) hx hb hr (bz_n n3) (fun t ht _ => ⟨rfl, ht⟩) (fun _ h9 => by cases h9) dX11_holds_9 hlk
theorem kX11_holds  {v1 : Int32} {v2 : Int64} {q : Int32} (h : X11_holds en ra v1 v2 = some q) : Met l yX11_holds (.code yX11_holds cX11_holds 4 (some .boolean) :: WA) ({ frames := 3, cells := 0, slots := 0, locals := 69 } : Room) (va_Pc [.ref (ad 0), .int v1, .long v2] (PR D cy (GX cy ad (ad 21) (ad 55) nm tp kp cu se ur ab lo im sy un en ra li i2))) (QP (some (.int q))) 0 0 (fun _ => False) :=
  met_of (by decide) (Nat.le_of_ble_eq_true rfl) (fun p e s m below meth c ls C hP hK hN hl => bX11_holds_0 C hK hN h hl hP)
def X11_row (li : Tli) (v1 : Int32) (v2 : Int32) : Int32 := (if (X4_has li v1) = 0 then (-1 : Int32) else (if v2 = (0 : Int32) then (X4_unitOf li v1) else (if v2 = (1 : Int32) then (X4_fileOf li v1) else (if v2 = (2 : Int32) then (X4_lineOf li v1) else (if v2 = (3 : Int32) then (if (X4_endsAt li v1) = 0 then (0 : Int32) else (1 : Int32)) else (-1 : Int32))))))
set_option maxRecDepth 20000 in
theorem bX11_row_0 (C : Cx p s m args meth c cX11_row 4 (some .int) RX11 (.code yX11_row cX11_row 4 (some .int))) (hK : va_K D vwCl (tysX cy) s) (hN : NW s)  {q : Int32}  {v1 : Int32} {v2 : Int32} (h : X11_row li v1 v2 = q) {ls : Array Slot} (hl : lv_has ls 4 [(0, .ref (ad 0)), (1, .int v1), (2, .int v2)]) (hP : va_P D vwCl (GX cy ad (ad 21) (ad 55) nm tp kp cu se ur ab lo im sy un en ra li i2) s.heap) : W p l e ({ frames := 2, cells := 0, slots := 0, locals := 42 } : Room) s m args below meth c s.heap [] 0 0 (MQ below (QP (some (.int q))) args s 0 0 (fun _ => False)) (F0 m 0 ls []) := by
  obtain ⟨hx, hb, hml, hown, hts, hr, hlk⟩ := id C
  unfold X11_row at h
  refine lv_aload_n hx hb dX11_row_0 rfl (lv_at hl 0 rfl) ?_
  refine gX0_6 C hK hP w478 dX11_row_1 ?_
  refine gX21_4N C hK hP hN w457 dX11_row_4 ?_
  refine lv_astore_n (lv' := [(3, .ref (ad 48)), (0, .ref (ad 0)), (1, .int v1), (2, .int v2)]) hx hb dX11_row_7 rfl hl (by decide) rfl (fun ls hl => ?_)
  refine lv_aload_n hx hb dX11_row_8 rfl (lv_at hl 0 rfl) ?_
  refine lv_iload_n hx hb dX11_row_9 rfl (lv_at hl 2 rfl) ?_
  refine cPi (run_V (rest := []) C (kX4_has rfl) caX4_has w1162 ⟨rfl, rfl, Nat.le_of_ble_eq_true rfl, Nat.le_of_ble_eq_true rfl⟩ hK hN hP (rX48 hK hP) rfl hl.1 rfl (Nat.le_of_ble_eq_true rfl) dX11_row_10 ⟨Nat.zero_le _, Nat.zero_le _⟩) ?_
  refine lv_if_ne (tgt := 18) hx hb dX11_row_13 (by decide) (fun c1 => ?_) (fun c1 => ?_)
  · rw [if_neg c1] at h
    refine lv_iload_n hx hb dX11_row_18 rfl (lv_at hl 3 rfl) ?_
    by_cases c2 : v2 = (0 : Int32)
    · rw [if_pos c2] at h
      rw [c2]
      refine lv_tableIn (off := 29) (tgt := 48) hx hb dX11_row_19 (by decide) (by decide) (by decide) (by decide) ?_
      refine lv_aload_n hx hb dX11_row_48 rfl (lv_at hl 0 rfl) ?_
      refine lv_iload_n hx hb dX11_row_49 rfl (lv_at hl 2 rfl) ?_
      refine cPi (run_V (rest := []) C (kX4_unitOf rfl) caX4_unitOf w1166 ⟨rfl, rfl, Nat.le_of_ble_eq_true rfl, Nat.le_of_ble_eq_true rfl⟩ hK hN hP (rX48 hK hP) rfl hl.1 rfl (Nat.le_of_ble_eq_true rfl) dX11_row_50 ⟨Nat.zero_le _, Nat.zero_le _⟩) ?_
      obtain rfl := h
      exact W.iret hx hb hr (fun t ht _ => ⟨rfl, ht⟩) (fun _ h9 => by cases h9) dX11_row_53 hlk
    rw [if_neg c2] at h
    by_cases c3 : v2 = (1 : Int32)
    · rw [if_pos c3] at h
      rw [c3]
      refine lv_tableIn (off := 35) (tgt := 54) hx hb dX11_row_19 (by decide) (by decide) (by decide) (by decide) ?_
      refine lv_aload_n hx hb dX11_row_54 rfl (lv_at hl 0 rfl) ?_
      refine lv_iload_n hx hb dX11_row_55 rfl (lv_at hl 2 rfl) ?_
      refine cPi (run_V (rest := []) C (kX4_fileOf rfl) caX4_fileOf w1170 ⟨rfl, rfl, Nat.le_of_ble_eq_true rfl, Nat.le_of_ble_eq_true rfl⟩ hK hN hP (rX48 hK hP) rfl hl.1 rfl (Nat.le_of_ble_eq_true rfl) dX11_row_56 ⟨Nat.zero_le _, Nat.zero_le _⟩) ?_
      obtain rfl := h
      exact W.iret hx hb hr (fun t ht _ => ⟨rfl, ht⟩) (fun _ h9 => by cases h9) dX11_row_59 hlk
    rw [if_neg c3] at h
    by_cases c4 : v2 = (2 : Int32)
    · rw [if_pos c4] at h
      rw [c4]
      refine lv_tableIn (off := 41) (tgt := 60) hx hb dX11_row_19 (by decide) (by decide) (by decide) (by decide) ?_
      refine lv_aload_n hx hb dX11_row_60 rfl (lv_at hl 0 rfl) ?_
      refine lv_iload_n hx hb dX11_row_61 rfl (lv_at hl 2 rfl) ?_
      refine cPi (run_V (rest := []) C (kX4_lineOf rfl) caX4_lineOf w1174 ⟨rfl, rfl, Nat.le_of_ble_eq_true rfl, Nat.le_of_ble_eq_true rfl⟩ hK hN hP (rX48 hK hP) rfl hl.1 rfl (Nat.le_of_ble_eq_true rfl) dX11_row_62 ⟨Nat.zero_le _, Nat.zero_le _⟩) ?_
      obtain rfl := h
      exact W.iret hx hb hr (fun t ht _ => ⟨rfl, ht⟩) (fun _ h9 => by cases h9) dX11_row_65 hlk
    rw [if_neg c4] at h
    by_cases c5 : v2 = (3 : Int32)
    · rw [if_pos c5] at h
      rw [c5]
      refine lv_tableIn (off := 47) (tgt := 66) hx hb dX11_row_19 (by decide) (by decide) (by decide) (by decide) ?_
      refine lv_aload_n hx hb dX11_row_66 rfl (lv_at hl 0 rfl) ?_
      refine lv_iload_n hx hb dX11_row_67 rfl (lv_at hl 2 rfl) ?_
      refine cPi (run_V (rest := []) C (kX4_endsAt rfl) caX4_endsAt w1178 ⟨rfl, rfl, Nat.le_of_ble_eq_true rfl, Nat.le_of_ble_eq_true rfl⟩ hK hN hP (rX48 hK hP) rfl hl.1 rfl (Nat.le_of_ble_eq_true rfl) dX11_row_68 ⟨Nat.zero_le _, Nat.zero_le _⟩) ?_
      refine lv_if_eq (tgt := 78) hx hb dX11_row_71 (by decide) (fun c6 => ?_) (fun c6 => ?_)
      · rw [if_pos c6] at h
        refine lv_iconst (v := (0 : Int32)) hx hb dX11_row_78 (by decide) ?_
        obtain rfl := h
        exact W.iret hx hb hr (fun t ht _ => ⟨rfl, ht⟩) (fun _ h9 => by cases h9) dX11_row_79 hlk
      · rw [if_neg c6] at h
        refine lv_iconst (v := (1 : Int32)) hx hb dX11_row_74 (by decide) ?_
        refine lv_goto (tgt := 79) hx hb dX11_row_75 (by decide) ?_
        obtain rfl := h
        exact W.iret hx hb hr (fun t ht _ => ⟨rfl, ht⟩) (fun _ h9 => by cases h9) dX11_row_79 hlk
    rw [if_neg c5] at h
    refine tsw_d (tgt := 80) hx hb dX11_row_19 [(0 : Int32), (1 : Int32), (2 : Int32), (3 : Int32)] (by simp only [List.mem_cons, List.not_mem_nil, or_false]; rintro _ (rfl | rfl | rfl | rfl) <;> assumption) (by decide +kernel) (by decide) ?_
    refine lv_iconst (v := (-1 : Int32)) hx hb dX11_row_80 (by decide) ?_
    obtain rfl := h
    exact W.iret hx hb hr (fun t ht _ => ⟨rfl, ht⟩) (fun _ h9 => by cases h9) dX11_row_81 hlk
  · rw [if_pos c1] at h
    refine lv_iconst (v := (-1 : Int32)) hx hb dX11_row_16 (by decide) ?_
    obtain rfl := h
    exact W.iret hx hb hr (fun t ht _ => ⟨rfl, ht⟩) (fun _ h9 => by cases h9) dX11_row_17 hlk
theorem kX11_row  {v1 : Int32} {v2 : Int32} {q : Int32} (h : X11_row li v1 v2 = q) : Met l yX11_row (.code yX11_row cX11_row 4 (some .int) :: WA) ({ frames := 2, cells := 0, slots := 0, locals := 42 } : Room) (va_Pc [.ref (ad 0), .int v1, .int v2] (PR D cy (GX cy ad (ad 21) (ad 55) nm tp kp cu se ur ab lo im sy un en ra li i2))) (QP (some (.int q))) 0 0 (fun _ => False) :=
  met_of (by decide) (Nat.le_of_ble_eq_true rfl) (fun p e s m below meth c ls C hP hK hN hl => bX11_row_0 C hK hN h hl hP)
def X11_rowAt (li : Tli) (v1 : Int32) : Int64 := (if (X4_has li v1) = 0 then (-1 : Int64) else (X4_addressOf li v1))
set_option maxRecDepth 20000 in
theorem bX11_rowAt_0 (C : Cx p s m args meth c cX11_rowAt 2 (some .long) RX11 (.code yX11_rowAt cX11_rowAt 2 (some .long))) (hK : va_K D vwCl (tysX cy) s) (hN : NW s)  {q : Int64}  {v1 : Int32} (h : X11_rowAt li v1 = q) {ls : Array Slot} (hl : lv_has ls 2 [(0, .ref (ad 0)), (1, .int v1)]) (hP : va_P D vwCl (GX cy ad (ad 21) (ad 55) nm tp kp cu se ur ab lo im sy un en ra li i2) s.heap) : W p l e ({ frames := 2, cells := 0, slots := 0, locals := 42 } : Room) s m args below meth c s.heap [] 0 0 (MQ below (QP (some (.long q))) args s 0 0 (fun _ => False)) (F0 m 0 ls []) := by
  obtain ⟨hx, hb, hml, hown, hts, hr, hlk⟩ := id C
  unfold X11_rowAt at h
  refine lv_aload_n hx hb dX11_rowAt_0 rfl (lv_at hl 0 rfl) ?_
  refine gX0_6 C hK hP w478 dX11_rowAt_1 ?_
  refine gX21_4N C hK hP hN w457 dX11_rowAt_4 ?_
  refine lv_iload_n hx hb dX11_rowAt_7 rfl (lv_at hl 1 rfl) ?_
  refine cPi (run_V (rest := []) C (kX4_has rfl) caX4_has w1162 ⟨rfl, rfl, Nat.le_of_ble_eq_true rfl, Nat.le_of_ble_eq_true rfl⟩ hK hN hP (rX48 hK hP) rfl hl.1 rfl (Nat.le_of_ble_eq_true rfl) dX11_rowAt_8 ⟨Nat.zero_le _, Nat.zero_le _⟩) ?_
  refine lv_if_eq (tgt := 28) hx hb dX11_rowAt_11 (by decide) (fun c1 => ?_) (fun c1 => ?_)
  · rw [if_pos c1] at h
    refine lv_ldc2 (v := (-1 : Int64)) hx hb hown (hts _ (List.mem_cons_of_mem _ w772)) dX11_rowAt_28 ?_
    obtain rfl := h
    exact W.lret hx hb hr (fun t ht _ => ⟨rfl, ht⟩) (fun _ h9 => by cases h9) dX11_rowAt_31 hlk
  · rw [if_neg c1] at h
    refine lv_aload_n hx hb dX11_rowAt_14 rfl (lv_at hl 0 rfl) ?_
    refine gX0_6 C hK hP w478 dX11_rowAt_15 ?_
    refine gX21_4N C hK hP hN w457 dX11_rowAt_18 ?_
    refine lv_iload_n hx hb dX11_rowAt_21 rfl (lv_at hl 1 rfl) ?_
    refine cPl (run_V (rest := []) C (kX4_addressOf rfl) caX4_addressOf w1186 ⟨rfl, rfl, Nat.le_of_ble_eq_true rfl, Nat.le_of_ble_eq_true rfl⟩ hK hN hP (rX48 hK hP) rfl hl.1 rfl (Nat.le_of_ble_eq_true rfl) dX11_rowAt_22 ⟨Nat.zero_le _, Nat.zero_le _⟩) ?_
    refine lv_goto (tgt := 31) hx hb dX11_rowAt_25 (by decide) ?_
    obtain rfl := h
    exact W.lret hx hb hr (fun t ht _ => ⟨rfl, ht⟩) (fun _ h9 => by cases h9) dX11_rowAt_31 hlk
theorem kX11_rowAt  {v1 : Int32} {q : Int64} (h : X11_rowAt li v1 = q) : Met l yX11_rowAt (.code yX11_rowAt cX11_rowAt 2 (some .long) :: WA) ({ frames := 2, cells := 0, slots := 0, locals := 42 } : Room) (va_Pc [.ref (ad 0), .int v1] (PR D cy (GX cy ad (ad 21) (ad 55) nm tp kp cu se ur ab lo im sy un en ra li i2))) (QP (some (.long q))) 0 0 (fun _ => False) :=
  met_of (by decide) (Nat.le_of_ble_eq_true rfl) (fun p e s m below meth c ls C hP hK hN hl => bX11_rowAt_0 C hK hN h hl hP)
def X11_find (lo : Tlo) (sy : Tsy) (en : Ten) (ra : Tra) (li : Tli) (v1 : Int64) : Option (Int32 × Tlo) := ((X5_seek lo sy en ra li v1).bind fun q1 => some (q1.1, q1.2))
set_option maxRecDepth 20000 in
theorem bX11_find_0 (C : Cx p s m args meth c cX11_find 3 (some .int) RX11 (.code yX11_find cX11_find 3 (some .int))) (hI : Apart ad 89) (hK : va_K D vwCl (tysX cy) s) (hN : NW s)  {q : Int32 × Tlo}  {v1 : Int64} (h : X11_find lo sy en ra li v1 = some q) {ls : Array Slot} (hl : lv_has ls 3 [(0, .ref (ad 0)), (1, .long v1)]) {H : Heap} {locs : List Loc} (hP : va_P D vwCl (GX cy ad (ad 21) (ad 55) nm tp kp cu se ur ab lo im sy un en ra li i2) H) (hS : va_S (Ac ad 89) s.heap H locs) : W p l e ({ frames := 5, cells := 0, slots := 0, locals := 121 } : Room) s m args below meth c H locs 0 0 (MQ below (QR (some (.int q.1)) D (GX cy ad (ad 21) (ad 55) nm tp kp cu se ur ab q.2 im sy un en ra li i2) (Ac ad 89)) args s 0 0 (Ac ad 89)) (F0 m 0 ls []) := by
  obtain ⟨hx, hb, hml, hown, hts, hr, hlk⟩ := id C
  unfold X11_find at h
  refine lv_aload_n hx hb dX11_find_0 rfl (lv_at hl 0 rfl) ?_
  refine gX0_5 C hK hP w477 dX11_find_1 ?_
  refine lv_aload_n hx hb dX11_find_4 rfl (lv_at hl 0 rfl) ?_
  refine gX0_6 C hK hP w478 dX11_find_5 ?_
  refine lv_lload_n hx hb dX11_find_8 rfl (lv_at hl 1 rfl) ?_
  obtain ⟨q1, h2, h⟩ := bnd h
  refine cRi (run_V (rest := []) C (kX5_seek hI h2) caX5_seek w1194 ⟨rfl, rfl, Nat.le_of_ble_eq_true rfl, Nat.le_of_ble_eq_true rfl⟩ hK hN hP (rX19 hK hP) rfl hl.1 rfl (Nat.le_of_ble_eq_true rfl) dX11_find_9 ⟨Nat.zero_le _, Nat.zero_le _⟩) hS (fun H locs hP hS => ?_)
  have hP : va_P D vwCl (GX cy ad (ad 21) (ad 55) nm tp kp cu se ur ab q1.2 im sy un en ra li i2) H := hP
  obtain rfl := Option.some.inj h
  exact W.iret hx hb hr (fun t ht _ => ⟨rfl, by rw [ht]; exact hP, hS.F ht⟩) hS.2.2 dX11_find_12 hlk
theorem kX11_find (hI : Apart ad 89) {v1 : Int64} {q : Int32 × Tlo} (h : X11_find lo sy en ra li v1 = some q) : Met l yX11_find (.code yX11_find cX11_find 3 (some .int) :: WA) ({ frames := 5, cells := 0, slots := 0, locals := 121 } : Room) (va_Pc [.ref (ad 0), .long v1] (PR D cy (GX cy ad (ad 21) (ad 55) nm tp kp cu se ur ab lo im sy un en ra li i2))) (QR (some (.int q.1)) D (GX cy ad (ad 21) (ad 55) nm tp kp cu se ur ab q.2 im sy un en ra li i2) (Ac ad 89)) 0 0 (Ac ad 89) :=
  met_of (by decide) (Nat.le_of_ble_eq_true rfl) (fun p e s m below meth c ls C hP hK hN hl => bX11_find_0 C hI hK hN h hl hP va_S.rf)
def X11_frame (lo : Tlo) (un : Tun) (en : Ten) (li : Tli) (v1 : Int32) (v2 : Int32) : Option (Int32) := (if (X5_entryOf lo v1) = (-1 : Int32) then some (-1 : Int32) else (if v2 = (0 : Int32) then some (X5_entryOf lo v1) else (if v2 = (1 : Int32) then some (X5_fileNumberOf lo en li v1) else (if v2 = (2 : Int32) then some (X5_lineNumberOf lo en li v1) else (if v2 = (3 : Int32) then ((X2_namedFor en (X5_entryOf lo v1)).bind fun q6 => some (X2_nameLengthOf en q6)) else (if v2 = (4 : Int32) then some (X10_fileLengthOf un (X5_fileOf lo un en li v1)) else some (-1 : Int32)))))))
set_option maxRecDepth 20000 in
theorem bX11_frame_0 (C : Cx p s m args meth c cX11_frame 4 (some .int) RX11 (.code yX11_frame cX11_frame 4 (some .int))) (hK : va_K D vwCl (tysX cy) s) (hN : NW s)  {q : Int32}  {v1 : Int32} {v2 : Int32} (h : X11_frame lo un en li v1 v2 = some q) {ls : Array Slot} (hl : lv_has ls 4 [(0, .ref (ad 0)), (1, .int v1), (2, .int v2)]) (hP : va_P D vwCl (GX cy ad (ad 21) (ad 55) nm tp kp cu se ur ab lo im sy un en ra li i2) s.heap) : W p l e ({ frames := 5, cells := 0, slots := 0, locals := 112 } : Room) s m args below meth c s.heap [] 0 0 (MQ below (QP (some (.int q))) args s 0 0 (fun _ => False)) (F0 m 0 ls []) := by
  obtain ⟨hx, hb, hml, hown, hts, hr, hlk⟩ := id C
  unfold X11_frame at h
  refine lv_aload_n hx hb dX11_frame_0 rfl (lv_at hl 0 rfl) ?_
  refine gX0_5 C hK hP w477 dX11_frame_1 ?_
  refine lv_iload_n hx hb dX11_frame_4 rfl (lv_at hl 1 rfl) ?_
  refine cPi (run_V (rest := []) C (kX5_entryOf rfl) caX5_entryOf w1247 ⟨rfl, rfl, Nat.le_of_ble_eq_true rfl, Nat.le_of_ble_eq_true rfl⟩ hK hN hP (rX19 hK hP) rfl hl.1 rfl (Nat.le_of_ble_eq_true rfl) dX11_frame_5 ⟨Nat.zero_le _, Nat.zero_le _⟩) ?_
  refine lv_istore_n (lv' := [(3, .int (X5_entryOf lo v1)), (0, .ref (ad 0)), (1, .int v1), (2, .int v2)]) hx hb dX11_frame_8 rfl hl (by decide) rfl (fun ls hl => ?_)
  refine lv_iload_n hx hb dX11_frame_9 rfl (lv_at hl 0 rfl) ?_
  refine lv_iconst (v := (-1 : Int32)) hx hb dX11_frame_10 (by decide) ?_
  refine lv_icmp_ne (tgt := 16) hx hb dX11_frame_11 (by decide) (fun c1 => ?_) (fun c1 => ?_)
  · rw [if_neg c1] at h
    refine lv_iload_n hx hb dX11_frame_16 rfl (lv_at hl 3 rfl) ?_
    by_cases c2 : v2 = (0 : Int32)
    · rw [if_pos c2] at h
      rw [c2]
      refine lv_tableIn (off := 35) (tgt := 52) hx hb dX11_frame_17 (by decide) (by decide) (by decide) (by decide) ?_
      refine lv_iload_n hx hb dX11_frame_52 rfl (lv_at hl 0 rfl) ?_
      obtain rfl := Option.some.inj h
      exact W.iret hx hb hr (fun t ht _ => ⟨rfl, ht⟩) (fun _ h9 => by cases h9) dX11_frame_53 hlk
    rw [if_neg c2] at h
    by_cases c3 : v2 = (1 : Int32)
    · rw [if_pos c3] at h
      rw [c3]
      refine lv_tableIn (off := 37) (tgt := 54) hx hb dX11_frame_17 (by decide) (by decide) (by decide) (by decide) ?_
      refine lv_aload_n hx hb dX11_frame_54 rfl (lv_at hl 1 rfl) ?_
      refine gX0_5 C hK hP w477 dX11_frame_55 ?_
      refine lv_aload_n hx hb dX11_frame_58 rfl (lv_at hl 1 rfl) ?_
      refine gX0_6 C hK hP w478 dX11_frame_59 ?_
      refine lv_iload_n hx hb dX11_frame_62 rfl (lv_at hl 2 rfl) ?_
      refine cPi (run_V (rest := []) C (kX5_fileNumberOf rfl) caX5_fileNumberOf w1248 ⟨rfl, rfl, Nat.le_of_ble_eq_true rfl, Nat.le_of_ble_eq_true rfl⟩ hK hN hP (rX19 hK hP) rfl hl.1 rfl (Nat.le_of_ble_eq_true rfl) dX11_frame_63 ⟨Nat.zero_le _, Nat.zero_le _⟩) ?_
      obtain rfl := Option.some.inj h
      exact W.iret hx hb hr (fun t ht _ => ⟨rfl, ht⟩) (fun _ h9 => by cases h9) dX11_frame_66 hlk
    rw [if_neg c3] at h
    by_cases c4 : v2 = (2 : Int32)
    · rw [if_pos c4] at h
      rw [c4]
      refine lv_tableIn (off := 50) (tgt := 67) hx hb dX11_frame_17 (by decide) (by decide) (by decide) (by decide) ?_
      refine lv_aload_n hx hb dX11_frame_67 rfl (lv_at hl 1 rfl) ?_
      refine gX0_5 C hK hP w477 dX11_frame_68 ?_
      refine lv_aload_n hx hb dX11_frame_71 rfl (lv_at hl 1 rfl) ?_
      refine gX0_6 C hK hP w478 dX11_frame_72 ?_
      refine lv_iload_n hx hb dX11_frame_75 rfl (lv_at hl 2 rfl) ?_
      refine cPi (run_V (rest := []) C (kX5_lineNumberOf rfl) caX5_lineNumberOf w1254 ⟨rfl, rfl, Nat.le_of_ble_eq_true rfl, Nat.le_of_ble_eq_true rfl⟩ hK hN hP (rX19 hK hP) rfl hl.1 rfl (Nat.le_of_ble_eq_true rfl) dX11_frame_76 ⟨Nat.zero_le _, Nat.zero_le _⟩) ?_
      obtain rfl := Option.some.inj h
      exact W.iret hx hb hr (fun t ht _ => ⟨rfl, ht⟩) (fun _ h9 => by cases h9) dX11_frame_79 hlk
    rw [if_neg c4] at h
    by_cases c5 : v2 = (3 : Int32)
    · rw [if_pos c5] at h
      rw [c5]
      refine lv_tableIn (off := 63) (tgt := 80) hx hb dX11_frame_17 (by decide) (by decide) (by decide) (by decide) ?_
      refine lv_aload_n hx hb dX11_frame_80 rfl (lv_at hl 1 rfl) ?_
      refine gX0_6 C hK hP w478 dX11_frame_81 ?_
      refine gX21_2N C hK hP hN w452 dX11_frame_84 ?_
      refine lv_aload_n hx hb dX11_frame_87 rfl (lv_at hl 1 rfl) ?_
      refine gX0_6 C hK hP w478 dX11_frame_88 ?_
      refine gX21_2N C hK hP hN w452 dX11_frame_91 ?_
      refine lv_iload_n hx hb dX11_frame_94 rfl (lv_at hl 0 rfl) ?_
      obtain ⟨q6, h7, h⟩ := bnd h
      refine cPi (run_V (rest := [.ref (ad 34)]) C (kX2_namedFor h7) caX2_namedFor w1129 ⟨rfl, rfl, Nat.le_of_ble_eq_true rfl, Nat.le_of_ble_eq_true rfl⟩ hK hN hP (rX34 hK hP) rfl hl.1 rfl (Nat.le_of_ble_eq_true rfl) dX11_frame_95 ⟨Nat.zero_le _, Nat.zero_le _⟩) ?_
      refine cPi (run_V (rest := []) C (kX2_nameLengthOf rfl) caX2_nameLengthOf w1134 ⟨rfl, rfl, Nat.le_of_ble_eq_true rfl, Nat.le_of_ble_eq_true rfl⟩ hK hN hP (rX34 hK hP) rfl hl.1 rfl (Nat.le_of_ble_eq_true rfl) dX11_frame_98 ⟨Nat.zero_le _, Nat.zero_le _⟩) ?_
      obtain rfl := Option.some.inj h
      exact W.iret hx hb hr (fun t ht _ => ⟨rfl, ht⟩) (fun _ h9 => by cases h9) dX11_frame_101 hlk
    rw [if_neg c5] at h
    by_cases c8 : v2 = (4 : Int32)
    · rw [if_pos c8] at h
      rw [c8]
      refine lv_tableIn (off := 85) (tgt := 102) hx hb dX11_frame_17 (by decide) (by decide) (by decide) (by decide) ?_
      refine lv_aload_n hx hb dX11_frame_102 rfl (lv_at hl 1 rfl) ?_
      refine gX0_6 C hK hP w478 dX11_frame_103 ?_
      refine gX21_1N C hK hP hN w446 dX11_frame_106 ?_
      refine lv_aload_n hx hb dX11_frame_109 rfl (lv_at hl 1 rfl) ?_
      refine gX0_5 C hK hP w477 dX11_frame_110 ?_
      refine lv_aload_n hx hb dX11_frame_113 rfl (lv_at hl 1 rfl) ?_
      refine gX0_6 C hK hP w478 dX11_frame_114 ?_
      refine lv_iload_n hx hb dX11_frame_117 rfl (lv_at hl 2 rfl) ?_
      refine cPi (run_V (rest := [.ref (ad 27)]) C (kX5_fileOf rfl) caX5_fileOf w1259 ⟨rfl, rfl, Nat.le_of_ble_eq_true rfl, Nat.le_of_ble_eq_true rfl⟩ hK hN hP (rX19 hK hP) rfl hl.1 rfl (Nat.le_of_ble_eq_true rfl) dX11_frame_118 ⟨Nat.zero_le _, Nat.zero_le _⟩) ?_
      refine cPi (run_V (rest := []) C (kX10_fileLengthOf rfl) caX10_fileLengthOf w1268 ⟨rfl, rfl, Nat.le_of_ble_eq_true rfl, Nat.le_of_ble_eq_true rfl⟩ hK hN hP (rX27 hK hP) rfl hl.1 rfl (Nat.le_of_ble_eq_true rfl) dX11_frame_121 ⟨Nat.zero_le _, Nat.zero_le _⟩) ?_
      obtain rfl := Option.some.inj h
      exact W.iret hx hb hr (fun t ht _ => ⟨rfl, ht⟩) (fun _ h9 => by cases h9) dX11_frame_124 hlk
    rw [if_neg c8] at h
    refine tsw_d (tgt := 125) hx hb dX11_frame_17 [(0 : Int32), (1 : Int32), (2 : Int32), (3 : Int32), (4 : Int32)] (by simp only [List.mem_cons, List.not_mem_nil, or_false]; rintro _ (rfl | rfl | rfl | rfl | rfl) <;> assumption) (by decide +kernel) (by decide) ?_
    refine lv_iconst (v := (-1 : Int32)) hx hb dX11_frame_125 (by decide) ?_
    obtain rfl := Option.some.inj h
    exact W.iret hx hb hr (fun t ht _ => ⟨rfl, ht⟩) (fun _ h9 => by cases h9) dX11_frame_126 hlk
  · rw [if_pos c1] at h
    refine lv_iconst (v := (-1 : Int32)) hx hb dX11_frame_14 (by decide) ?_
    obtain rfl := Option.some.inj h
    exact W.iret hx hb hr (fun t ht _ => ⟨rfl, ht⟩) (fun _ h9 => by cases h9) dX11_frame_15 hlk
theorem kX11_frame  {v1 : Int32} {v2 : Int32} {q : Int32} (h : X11_frame lo un en li v1 v2 = some q) : Met l yX11_frame (.code yX11_frame cX11_frame 4 (some .int) :: WA) ({ frames := 5, cells := 0, slots := 0, locals := 112 } : Room) (va_Pc [.ref (ad 0), .int v1, .int v2] (PR D cy (GX cy ad (ad 21) (ad 55) nm tp kp cu se ur ab lo im sy un en ra li i2))) (QP (some (.int q))) 0 0 (fun _ => False) :=
  met_of (by decide) (Nat.le_of_ble_eq_true rfl) (fun p e s m below meth c ls C hP hK hN hl => bX11_frame_0 C hK hN h hl hP)
def X11_sign (kp : Tkp) (v1 : Int32) (v2 : Int32) (v3 : Int32) : Option (Int32) := (if v1 < 0 then some (-1 : Int32) else (if v3 < 0 then some (-1 : Int32) else (if v3 < v2 then (if v3 < ((8000 : Int32) - v1) then (if inb (v1 + v3) 8000 = true then some ((kp ((v1 + v3)).toNatClampNeg) &&& (255 : Int32)) else none) else some (-1 : Int32)) else some (-1 : Int32))))
set_option maxRecDepth 20000 in
theorem bX11_sign_0 (C : Cx p s m args meth c cX11_sign 4 (some .int) RX11 (.code yX11_sign cX11_sign 4 (some .int))) (hK : va_K D vwCl (tysX cy) s) (hN : NW s)  {q : Int32}  {v1 : Int32} {v2 : Int32} {v3 : Int32} (h : X11_sign kp v1 v2 v3 = some q) {ls : Array Slot} (hl : lv_has ls 4 [(0, .ref (ad 0)), (1, .int v1), (2, .int v2), (3, .int v3)]) (hP : va_P D vwCl (GX cy ad tk sp nm tp kp cu se ur ab lo im sy un en ra li i2) s.heap) : W p l e ({ frames := 0, cells := 0, slots := 0, locals := 0 } : Room) s m args below meth c s.heap [] 0 0 (MQ below (QP (some (.int q))) args s 0 0 (fun _ => False)) (F0 m 0 ls []) := by
  obtain ⟨hx, hb, hml, hown, hts, hr, hlk⟩ := id C
  unfold X11_sign at h
  refine lv_iload_n hx hb dX11_sign_0 rfl (lv_at hl 1 rfl) ?_
  refine lv_if_lt (tgt := 24) hx hb dX11_sign_1 (by decide) (fun c1 => ?_) (fun c1 => ?_)
  · rw [if_pos c1] at h
    refine lv_iconst (v := (-1 : Int32)) hx hb dX11_sign_24 (by decide) ?_
    obtain rfl := Option.some.inj h
    exact W.iret hx hb hr (fun t ht _ => ⟨rfl, ht⟩) (fun _ h9 => by cases h9) dX11_sign_25 hlk
  · rw [if_neg c1] at h
    refine lv_iload_n hx hb dX11_sign_4 rfl (lv_at hl 3 rfl) ?_
    refine lv_if_lt (tgt := 24) hx hb dX11_sign_5 (by decide) (fun c2 => ?_) (fun c2 => ?_)
    · rw [if_pos c2] at h
      refine lv_iconst (v := (-1 : Int32)) hx hb dX11_sign_24 (by decide) ?_
      obtain rfl := Option.some.inj h
      exact W.iret hx hb hr (fun t ht _ => ⟨rfl, ht⟩) (fun _ h9 => by cases h9) dX11_sign_25 hlk
    · rw [if_neg c2] at h
      refine lv_iload_n hx hb dX11_sign_8 rfl (lv_at hl 3 rfl) ?_
      refine lv_iload_n hx hb dX11_sign_9 rfl (lv_at hl 2 rfl) ?_
      refine b_icmp_ge (tgt := 24) hx hb dX11_sign_10 (by decide) (fun c3 => ?_) (fun c3 => ?_)
      · rw [if_neg c3] at h
        refine lv_iconst (v := (-1 : Int32)) hx hb dX11_sign_24 (by decide) ?_
        obtain rfl := Option.some.inj h
        exact W.iret hx hb hr (fun t ht _ => ⟨rfl, ht⟩) (fun _ h9 => by cases h9) dX11_sign_25 hlk
      · rw [if_pos c3] at h
        refine lv_iload_n hx hb dX11_sign_13 rfl (lv_at hl 3 rfl) ?_
        refine lv_aload_n hx hb dX11_sign_14 rfl (lv_at hl 0 rfl) ?_
        refine gX0_1 C hK hP w473 dX11_sign_15 ?_
        refine lX2 C hK hP dX11_sign_18 ?_
        refine lv_iload_n hx hb dX11_sign_19 rfl (lv_at hl 1 rfl) ?_
        refine lv_isub hx hb dX11_sign_20 ?_
        refine lv_icmp_lt (tgt := 26) hx hb dX11_sign_21 (by decide) (fun c4 => ?_) (fun c4 => ?_)
        · rw [if_pos c4] at h
          refine lv_aload_n hx hb dX11_sign_26 rfl (lv_at hl 0 rfl) ?_
          refine gX0_1 C hK hP w473 dX11_sign_27 ?_
          refine lv_iload_n hx hb dX11_sign_30 rfl (lv_at hl 1 rfl) ?_
          refine lv_iload_n hx hb dX11_sign_31 rfl (lv_at hl 3 rfl) ?_
          refine lv_iadd hx hb dX11_sign_32 ?_
          obtain ⟨n5, h⟩ := grd h
          refine aX2 (f := kp) C hK hP rfl n5 dX11_sign_33 ?_
          refine lv_sipush (v := (255 : Int32)) hx hb dX11_sign_34 (by decide) ?_
          refine lv_iand hx hb dX11_sign_37 ?_
          obtain rfl := Option.some.inj h
          exact W.iret hx hb hr (fun t ht _ => ⟨rfl, ht⟩) (fun _ h9 => by cases h9) dX11_sign_38 hlk
        · rw [if_neg c4] at h
          refine lv_iconst (v := (-1 : Int32)) hx hb dX11_sign_24 (by decide) ?_
          obtain rfl := Option.some.inj h
          exact W.iret hx hb hr (fun t ht _ => ⟨rfl, ht⟩) (fun _ h9 => by cases h9) dX11_sign_25 hlk
theorem kX11_sign  {v1 : Int32} {v2 : Int32} {v3 : Int32} {q : Int32} (h : X11_sign kp v1 v2 v3 = some q) : Met l yX11_sign (.code yX11_sign cX11_sign 4 (some .int) :: WA) ({ frames := 0, cells := 0, slots := 0, locals := 0 } : Room) (va_Pc [.ref (ad 0), .int v1, .int v2, .int v3] (PR D cy (GX cy ad tk sp nm tp kp cu se ur ab lo im sy un en ra li i2))) (QP (some (.int q))) 0 0 (fun _ => False) :=
  met_of (by decide) (Nat.le_of_ble_eq_true rfl) (fun p e s m below meth c ls C hP hK hN hl => bX11_sign_0 C hK hN h hl hP)
def X11_name (kp : Tkp) (lo : Tlo) (sy : Tsy) (en : Ten) (v1 : Int32) (v2 : Int32) : Option (Int32) := (if v1 = (-1 : Int32) then ((X11_sign kp (X8_namePlaceOf sy (X5_symbolFound lo)) (X8_nameLengthOf sy (X5_symbolFound lo)) v2).bind fun q6 => some q6) else ((X2_namedFor en (X5_entryOf lo v1)).bind fun q2 => ((X11_sign kp (X2_namePlaceOf en q2) (X2_nameLengthOf en q2) v2).bind fun q4 => some q4)))
set_option maxRecDepth 20000 in
theorem bX11_name_0 (C : Cx p s m args meth c cX11_name 4 (some .int) RX11 (.code yX11_name cX11_name 4 (some .int))) (hK : va_K D vwCl (tysX cy) s) (hN : NW s)  {q : Int32}  {v1 : Int32} {v2 : Int32} (h : X11_name kp lo sy en v1 v2 = some q) {ls : Array Slot} (hl : lv_has ls 4 [(0, .ref (ad 0)), (1, .int v1), (2, .int v2)]) (hP : va_P D vwCl (GX cy ad (ad 21) (ad 55) nm tp kp cu se ur ab lo im sy un en ra li i2) s.heap) : W p l e ({ frames := 4, cells := 0, slots := 0, locals := 88 } : Room) s m args below meth c s.heap [] 0 0 (MQ below (QP (some (.int q))) args s 0 0 (fun _ => False)) (F0 m 0 ls []) := by
  obtain ⟨hx, hb, hml, hown, hts, hr, hlk⟩ := id C
  unfold X11_name at h
  refine lv_iload_n hx hb dX11_name_0 rfl (lv_at hl 1 rfl) ?_
  refine lv_iconst (v := (-1 : Int32)) hx hb dX11_name_1 (by decide) ?_
  refine lv_icmp_ne (tgt := 41) hx hb dX11_name_2 (by decide) (fun c1 => ?_) (fun c1 => ?_)
  · rw [if_neg c1] at h
    refine lv_aload_n hx hb dX11_name_41 rfl (lv_at hl 0 rfl) ?_
    refine gX0_6 C hK hP w478 dX11_name_42 ?_
    refine gX21_2N C hK hP hN w452 dX11_name_45 ?_
    refine lv_aload_n hx hb dX11_name_48 rfl (lv_at hl 0 rfl) ?_
    refine gX0_5 C hK hP w477 dX11_name_49 ?_
    refine lv_iload_n hx hb dX11_name_52 rfl (lv_at hl 1 rfl) ?_
    refine cPi (run_V (rest := [.ref (ad 34)]) C (kX5_entryOf rfl) caX5_entryOf w1247 ⟨rfl, rfl, Nat.le_of_ble_eq_true rfl, Nat.le_of_ble_eq_true rfl⟩ hK hN hP (rX19 hK hP) rfl hl.1 rfl (Nat.le_of_ble_eq_true rfl) dX11_name_53 ⟨Nat.zero_le _, Nat.zero_le _⟩) ?_
    obtain ⟨q2, h3, h⟩ := bnd h
    refine cPi (run_V (rest := []) C (kX2_namedFor h3) caX2_namedFor w1129 ⟨rfl, rfl, Nat.le_of_ble_eq_true rfl, Nat.le_of_ble_eq_true rfl⟩ hK hN hP (rX34 hK hP) rfl hl.1 rfl (Nat.le_of_ble_eq_true rfl) dX11_name_56 ⟨Nat.zero_le _, Nat.zero_le _⟩) ?_
    refine lv_istore_n (lv' := [(3, .int q2), (0, .ref (ad 0)), (1, .int v1), (2, .int v2)]) hx hb dX11_name_59 rfl hl (by decide) rfl (fun ls hl => ?_)
    refine lv_aload_n hx hb dX11_name_60 rfl (lv_at hl 1 rfl) ?_
    refine lv_aload_n hx hb dX11_name_61 rfl (lv_at hl 1 rfl) ?_
    refine gX0_6 C hK hP w478 dX11_name_62 ?_
    refine gX21_2N C hK hP hN w452 dX11_name_65 ?_
    refine lv_iload_n hx hb dX11_name_68 rfl (lv_at hl 0 rfl) ?_
    refine cPi (run_V (rest := [.ref (ad 0)]) C (kX2_namePlaceOf rfl) caX2_namePlaceOf w1293 ⟨rfl, rfl, Nat.le_of_ble_eq_true rfl, Nat.le_of_ble_eq_true rfl⟩ hK hN hP (rX34 hK hP) rfl hl.1 rfl (Nat.le_of_ble_eq_true rfl) dX11_name_69 ⟨Nat.zero_le _, Nat.zero_le _⟩) ?_
    refine lv_aload_n hx hb dX11_name_72 rfl (lv_at hl 1 rfl) ?_
    refine gX0_6 C hK hP w478 dX11_name_73 ?_
    refine gX21_2N C hK hP hN w452 dX11_name_76 ?_
    refine lv_iload_n hx hb dX11_name_79 rfl (lv_at hl 0 rfl) ?_
    refine cPi (run_V (rest := [.int (X2_namePlaceOf en q2), .ref (ad 0)]) C (kX2_nameLengthOf rfl) caX2_nameLengthOf w1134 ⟨rfl, rfl, Nat.le_of_ble_eq_true rfl, Nat.le_of_ble_eq_true rfl⟩ hK hN hP (rX34 hK hP) rfl hl.1 rfl (Nat.le_of_ble_eq_true rfl) dX11_name_80 ⟨Nat.zero_le _, Nat.zero_le _⟩) ?_
    refine lv_iload_n hx hb dX11_name_83 rfl (lv_at hl 3 rfl) ?_
    obtain ⟨q4, h5, h⟩ := bnd h
    refine cPi (run_V (rest := []) C (kX11_sign h5) caX11_sign w1289 ⟨rfl, rfl, Nat.le_of_ble_eq_true rfl, Nat.le_of_ble_eq_true rfl⟩ hK hN hP (rX0 hK hP) rfl hl.1 rfl (Nat.le_of_ble_eq_true rfl) dX11_name_84 ⟨Nat.zero_le _, Nat.zero_le _⟩) ?_
    obtain rfl := Option.some.inj h
    exact W.iret hx hb hr (fun t ht _ => ⟨rfl, ht⟩) (fun _ h9 => by cases h9) dX11_name_87 hlk
  · rw [if_pos c1] at h
    refine lv_aload_n hx hb dX11_name_5 rfl (lv_at hl 0 rfl) ?_
    refine gX0_5 C hK hP w477 dX11_name_6 ?_
    refine cPi (run_V (rest := []) C (kX5_symbolFound rfl) caX5_symbolFound w1276 ⟨rfl, rfl, Nat.le_of_ble_eq_true rfl, Nat.le_of_ble_eq_true rfl⟩ hK hN hP (rX19 hK hP) rfl hl.1 rfl (Nat.le_of_ble_eq_true rfl) dX11_name_9 ⟨Nat.zero_le _, Nat.zero_le _⟩) ?_
    refine lv_istore_n (lv' := [(3, .int (X5_symbolFound lo)), (0, .ref (ad 0)), (1, .int v1), (2, .int v2)]) hx hb dX11_name_12 rfl hl (by decide) rfl (fun ls hl => ?_)
    refine lv_aload_n hx hb dX11_name_13 rfl (lv_at hl 1 rfl) ?_
    refine lv_aload_n hx hb dX11_name_14 rfl (lv_at hl 1 rfl) ?_
    refine gX0_6 C hK hP w478 dX11_name_15 ?_
    refine gX21_0N C hK hP hN w440 dX11_name_18 ?_
    refine lv_iload_n hx hb dX11_name_21 rfl (lv_at hl 0 rfl) ?_
    refine cPi (run_V (rest := [.ref (ad 0)]) C (kX8_namePlaceOf rfl) caX8_namePlaceOf w1280 ⟨rfl, rfl, Nat.le_of_ble_eq_true rfl, Nat.le_of_ble_eq_true rfl⟩ hK hN hP (rX22 hK hP) rfl hl.1 rfl (Nat.le_of_ble_eq_true rfl) dX11_name_22 ⟨Nat.zero_le _, Nat.zero_le _⟩) ?_
    refine lv_aload_n hx hb dX11_name_25 rfl (lv_at hl 1 rfl) ?_
    refine gX0_6 C hK hP w478 dX11_name_26 ?_
    refine gX21_0N C hK hP hN w440 dX11_name_29 ?_
    refine lv_iload_n hx hb dX11_name_32 rfl (lv_at hl 0 rfl) ?_
    refine cPi (run_V (rest := [.int (X8_namePlaceOf sy (X5_symbolFound lo)), .ref (ad 0)]) C (kX8_nameLengthOf rfl) caX8_nameLengthOf w1285 ⟨rfl, rfl, Nat.le_of_ble_eq_true rfl, Nat.le_of_ble_eq_true rfl⟩ hK hN hP (rX22 hK hP) rfl hl.1 rfl (Nat.le_of_ble_eq_true rfl) dX11_name_33 ⟨Nat.zero_le _, Nat.zero_le _⟩) ?_
    refine lv_iload_n hx hb dX11_name_36 rfl (lv_at hl 3 rfl) ?_
    obtain ⟨q6, h7, h⟩ := bnd h
    refine cPi (run_V (rest := []) C (kX11_sign h7) caX11_sign w1289 ⟨rfl, rfl, Nat.le_of_ble_eq_true rfl, Nat.le_of_ble_eq_true rfl⟩ hK hN hP (rX0 hK hP) rfl hl.1 rfl (Nat.le_of_ble_eq_true rfl) dX11_name_37 ⟨Nat.zero_le _, Nat.zero_le _⟩) ?_
    obtain rfl := Option.some.inj h
    exact W.iret hx hb hr (fun t ht _ => ⟨rfl, ht⟩) (fun _ h9 => by cases h9) dX11_name_40 hlk
theorem kX11_name  {v1 : Int32} {v2 : Int32} {q : Int32} (h : X11_name kp lo sy en v1 v2 = some q) : Met l yX11_name (.code yX11_name cX11_name 4 (some .int) :: WA) ({ frames := 4, cells := 0, slots := 0, locals := 88 } : Room) (va_Pc [.ref (ad 0), .int v1, .int v2] (PR D cy (GX cy ad (ad 21) (ad 55) nm tp kp cu se ur ab lo im sy un en ra li i2))) (QP (some (.int q))) 0 0 (fun _ => False) :=
  met_of (by decide) (Nat.le_of_ble_eq_true rfl) (fun p e s m below meth c ls C hP hK hN hl => bX11_name_0 C hK hN h hl hP)
def X11_file (kp : Tkp) (lo : Tlo) (un : Tun) (en : Ten) (li : Tli) (v1 : Int32) (v2 : Int32) : Option (Int32) := ((X11_sign kp (X10_filePlaceOf un (X5_fileOf lo un en li v1)) (X10_fileLengthOf un (X5_fileOf lo un en li v1)) v2).bind fun q1 => some q1)
set_option maxRecDepth 20000 in
theorem bX11_file_0 (C : Cx p s m args meth c cX11_file 4 (some .int) RX11 (.code yX11_file cX11_file 4 (some .int))) (hK : va_K D vwCl (tysX cy) s) (hN : NW s)  {q : Int32}  {v1 : Int32} {v2 : Int32} (h : X11_file kp lo un en li v1 v2 = some q) {ls : Array Slot} (hl : lv_has ls 4 [(0, .ref (ad 0)), (1, .int v1), (2, .int v2)]) (hP : va_P D vwCl (GX cy ad (ad 21) (ad 55) nm tp kp cu se ur ab lo im sy un en ra li i2) s.heap) : W p l e ({ frames := 5, cells := 0, slots := 0, locals := 112 } : Room) s m args below meth c s.heap [] 0 0 (MQ below (QP (some (.int q))) args s 0 0 (fun _ => False)) (F0 m 0 ls []) := by
  obtain ⟨hx, hb, hml, hown, hts, hr, hlk⟩ := id C
  unfold X11_file at h
  refine lv_aload_n hx hb dX11_file_0 rfl (lv_at hl 0 rfl) ?_
  refine gX0_5 C hK hP w477 dX11_file_1 ?_
  refine lv_aload_n hx hb dX11_file_4 rfl (lv_at hl 0 rfl) ?_
  refine gX0_6 C hK hP w478 dX11_file_5 ?_
  refine lv_iload_n hx hb dX11_file_8 rfl (lv_at hl 1 rfl) ?_
  refine cPi (run_V (rest := []) C (kX5_fileOf rfl) caX5_fileOf w1259 ⟨rfl, rfl, Nat.le_of_ble_eq_true rfl, Nat.le_of_ble_eq_true rfl⟩ hK hN hP (rX19 hK hP) rfl hl.1 rfl (Nat.le_of_ble_eq_true rfl) dX11_file_9 ⟨Nat.zero_le _, Nat.zero_le _⟩) ?_
  refine lv_istore_n (lv' := [(3, .int (X5_fileOf lo un en li v1)), (0, .ref (ad 0)), (1, .int v1), (2, .int v2)]) hx hb dX11_file_12 rfl hl (by decide) rfl (fun ls hl => ?_)
  refine lv_aload_n hx hb dX11_file_13 rfl (lv_at hl 1 rfl) ?_
  refine lv_aload_n hx hb dX11_file_14 rfl (lv_at hl 1 rfl) ?_
  refine gX0_6 C hK hP w478 dX11_file_15 ?_
  refine gX21_1N C hK hP hN w446 dX11_file_18 ?_
  refine lv_iload_n hx hb dX11_file_21 rfl (lv_at hl 0 rfl) ?_
  refine cPi (run_V (rest := [.ref (ad 0)]) C (kX10_filePlaceOf rfl) caX10_filePlaceOf w1301 ⟨rfl, rfl, Nat.le_of_ble_eq_true rfl, Nat.le_of_ble_eq_true rfl⟩ hK hN hP (rX27 hK hP) rfl hl.1 rfl (Nat.le_of_ble_eq_true rfl) dX11_file_22 ⟨Nat.zero_le _, Nat.zero_le _⟩) ?_
  refine lv_aload_n hx hb dX11_file_25 rfl (lv_at hl 1 rfl) ?_
  refine gX0_6 C hK hP w478 dX11_file_26 ?_
  refine gX21_1N C hK hP hN w446 dX11_file_29 ?_
  refine lv_iload_n hx hb dX11_file_32 rfl (lv_at hl 0 rfl) ?_
  refine cPi (run_V (rest := [.int (X10_filePlaceOf un (X5_fileOf lo un en li v1)), .ref (ad 0)]) C (kX10_fileLengthOf rfl) caX10_fileLengthOf w1268 ⟨rfl, rfl, Nat.le_of_ble_eq_true rfl, Nat.le_of_ble_eq_true rfl⟩ hK hN hP (rX27 hK hP) rfl hl.1 rfl (Nat.le_of_ble_eq_true rfl) dX11_file_33 ⟨Nat.zero_le _, Nat.zero_le _⟩) ?_
  refine lv_iload_n hx hb dX11_file_36 rfl (lv_at hl 3 rfl) ?_
  obtain ⟨q1, h2, h⟩ := bnd h
  refine cPi (run_V (rest := []) C (kX11_sign h2) caX11_sign w1289 ⟨rfl, rfl, Nat.le_of_ble_eq_true rfl, Nat.le_of_ble_eq_true rfl⟩ hK hN hP (rX0 hK hP) rfl hl.1 rfl (Nat.le_of_ble_eq_true rfl) dX11_file_37 ⟨Nat.zero_le _, Nat.zero_le _⟩) ?_
  obtain rfl := Option.some.inj h
  exact W.iret hx hb hr (fun t ht _ => ⟨rfl, ht⟩) (fun _ h9 => by cases h9) dX11_file_40 hlk
theorem kX11_file  {v1 : Int32} {v2 : Int32} {q : Int32} (h : X11_file kp lo un en li v1 v2 = some q) : Met l yX11_file (.code yX11_file cX11_file 4 (some .int) :: WA) ({ frames := 5, cells := 0, slots := 0, locals := 112 } : Room) (va_Pc [.ref (ad 0), .int v1, .int v2] (PR D cy (GX cy ad (ad 21) (ad 55) nm tp kp cu se ur ab lo im sy un en ra li i2))) (QP (some (.int q))) 0 0 (fun _ => False) :=
  met_of (by decide) (Nat.le_of_ble_eq_true rfl) (fun p e s m below meth c ls C hP hK hN hl => bX11_file_0 C hK hN h hl hP)
def X11_symbol (lo : Tlo) (sy : Tsy) (v1 : Int32) : Int32 := (if (X5_symbolFound lo) = (-1 : Int32) then (-1 : Int32) else (if v1 = (0 : Int32) then (X5_symbolFound lo) else (if v1 = (1 : Int32) then (X8_nameLengthOf sy (X5_symbolFound lo)) else (if v1 = (2 : Int32) then (X5_aboveSymbol lo) else (-1 : Int32)))))
set_option maxRecDepth 20000 in
theorem bX11_symbol_0 (C : Cx p s m args meth c cX11_symbol 3 (some .int) RX11 (.code yX11_symbol cX11_symbol 3 (some .int))) (hK : va_K D vwCl (tysX cy) s) (hN : NW s)  {q : Int32}  {v1 : Int32} (h : X11_symbol lo sy v1 = q) {ls : Array Slot} (hl : lv_has ls 3 [(0, .ref (ad 0)), (1, .int v1)]) (hP : va_P D vwCl (GX cy ad (ad 21) (ad 55) nm tp kp cu se ur ab lo im sy un en ra li i2) s.heap) : W p l e ({ frames := 2, cells := 0, slots := 0, locals := 42 } : Room) s m args below meth c s.heap [] 0 0 (MQ below (QP (some (.int q))) args s 0 0 (fun _ => False)) (F0 m 0 ls []) := by
  obtain ⟨hx, hb, hml, hown, hts, hr, hlk⟩ := id C
  unfold X11_symbol at h
  refine lv_aload_n hx hb dX11_symbol_0 rfl (lv_at hl 0 rfl) ?_
  refine gX0_5 C hK hP w477 dX11_symbol_1 ?_
  refine cPi (run_V (rest := []) C (kX5_symbolFound rfl) caX5_symbolFound w1276 ⟨rfl, rfl, Nat.le_of_ble_eq_true rfl, Nat.le_of_ble_eq_true rfl⟩ hK hN hP (rX19 hK hP) rfl hl.1 rfl (Nat.le_of_ble_eq_true rfl) dX11_symbol_4 ⟨Nat.zero_le _, Nat.zero_le _⟩) ?_
  refine lv_istore_n (lv' := [(2, .int (X5_symbolFound lo)), (0, .ref (ad 0)), (1, .int v1)]) hx hb dX11_symbol_7 rfl hl (by decide) rfl (fun ls hl => ?_)
  refine lv_iload_n hx hb dX11_symbol_8 rfl (lv_at hl 0 rfl) ?_
  refine lv_iconst (v := (-1 : Int32)) hx hb dX11_symbol_9 (by decide) ?_
  refine lv_icmp_ne (tgt := 15) hx hb dX11_symbol_10 (by decide) (fun c1 => ?_) (fun c1 => ?_)
  · rw [if_neg c1] at h
    refine lv_iload_n hx hb dX11_symbol_15 rfl (lv_at hl 2 rfl) ?_
    by_cases c2 : v1 = (0 : Int32)
    · rw [if_pos c2] at h
      rw [c2]
      refine lv_tableIn (off := 28) (tgt := 44) hx hb dX11_symbol_16 (by decide) (by decide) (by decide) (by decide) ?_
      refine lv_iload_n hx hb dX11_symbol_44 rfl (lv_at hl 0 rfl) ?_
      obtain rfl := h
      exact W.iret hx hb hr (fun t ht _ => ⟨rfl, ht⟩) (fun _ h9 => by cases h9) dX11_symbol_45 hlk
    rw [if_neg c2] at h
    by_cases c3 : v1 = (1 : Int32)
    · rw [if_pos c3] at h
      rw [c3]
      refine lv_tableIn (off := 30) (tgt := 46) hx hb dX11_symbol_16 (by decide) (by decide) (by decide) (by decide) ?_
      refine lv_aload_n hx hb dX11_symbol_46 rfl (lv_at hl 1 rfl) ?_
      refine gX0_6 C hK hP w478 dX11_symbol_47 ?_
      refine gX21_0N C hK hP hN w440 dX11_symbol_50 ?_
      refine lv_iload_n hx hb dX11_symbol_53 rfl (lv_at hl 0 rfl) ?_
      refine cPi (run_V (rest := []) C (kX8_nameLengthOf rfl) caX8_nameLengthOf w1285 ⟨rfl, rfl, Nat.le_of_ble_eq_true rfl, Nat.le_of_ble_eq_true rfl⟩ hK hN hP (rX22 hK hP) rfl hl.1 rfl (Nat.le_of_ble_eq_true rfl) dX11_symbol_54 ⟨Nat.zero_le _, Nat.zero_le _⟩) ?_
      obtain rfl := h
      exact W.iret hx hb hr (fun t ht _ => ⟨rfl, ht⟩) (fun _ h9 => by cases h9) dX11_symbol_57 hlk
    rw [if_neg c3] at h
    by_cases c4 : v1 = (2 : Int32)
    · rw [if_pos c4] at h
      rw [c4]
      refine lv_tableIn (off := 42) (tgt := 58) hx hb dX11_symbol_16 (by decide) (by decide) (by decide) (by decide) ?_
      refine lv_aload_n hx hb dX11_symbol_58 rfl (lv_at hl 1 rfl) ?_
      refine gX0_5 C hK hP w477 dX11_symbol_59 ?_
      refine cPi (run_V (rest := []) C (kX5_aboveSymbol rfl) caX5_aboveSymbol w1309 ⟨rfl, rfl, Nat.le_of_ble_eq_true rfl, Nat.le_of_ble_eq_true rfl⟩ hK hN hP (rX19 hK hP) rfl hl.1 rfl (Nat.le_of_ble_eq_true rfl) dX11_symbol_62 ⟨Nat.zero_le _, Nat.zero_le _⟩) ?_
      obtain rfl := h
      exact W.iret hx hb hr (fun t ht _ => ⟨rfl, ht⟩) (fun _ h9 => by cases h9) dX11_symbol_65 hlk
    rw [if_neg c4] at h
    refine tsw_d (tgt := 66) hx hb dX11_symbol_16 [(0 : Int32), (1 : Int32), (2 : Int32)] (by simp only [List.mem_cons, List.not_mem_nil, or_false]; rintro _ (rfl | rfl | rfl) <;> assumption) (by decide +kernel) (by decide) ?_
    refine lv_iconst (v := (-1 : Int32)) hx hb dX11_symbol_66 (by decide) ?_
    obtain rfl := h
    exact W.iret hx hb hr (fun t ht _ => ⟨rfl, ht⟩) (fun _ h9 => by cases h9) dX11_symbol_67 hlk
  · rw [if_pos c1] at h
    refine lv_iconst (v := (-1 : Int32)) hx hb dX11_symbol_13 (by decide) ?_
    obtain rfl := h
    exact W.iret hx hb hr (fun t ht _ => ⟨rfl, ht⟩) (fun _ h9 => by cases h9) dX11_symbol_14 hlk
theorem kX11_symbol  {v1 : Int32} {q : Int32} (h : X11_symbol lo sy v1 = q) : Met l yX11_symbol (.code yX11_symbol cX11_symbol 3 (some .int) :: WA) ({ frames := 2, cells := 0, slots := 0, locals := 42 } : Room) (va_Pc [.ref (ad 0), .int v1] (PR D cy (GX cy ad (ad 21) (ad 55) nm tp kp cu se ur ab lo im sy un en ra li i2))) (QP (some (.int q))) 0 0 (fun _ => False) :=
  met_of (by decide) (Nat.le_of_ble_eq_true rfl) (fun p e s m below meth c ls C hP hK hN hl => bX11_symbol_0 C hK hN h hl hP)
def X11_count (nm : Tnm) (im : Tim) (sy : Tsy) (un : Tun) (en : Ten) (ra : Tra) (li : Tli) (v1 : Int32) : Int32 := (if v1 = (0 : Int32) then nm else (if v1 = (1 : Int32) then im else (if v1 = (2 : Int32) then (X8_total sy) else (if v1 = (3 : Int32) then (X10_total un) else (if v1 = (4 : Int32) then (X2_total en) else (if v1 = (5 : Int32) then (X6_total ra) else (if v1 = (6 : Int32) then (X4_total li) else (if v1 = (7 : Int32) then (X10_fileTotal un) else (-1 : Int32)))))))))
set_option maxRecDepth 20000 in
theorem bX11_count_0 (C : Cx p s m args meth c cX11_count 2 (some .int) RX11 (.code yX11_count cX11_count 2 (some .int))) (hK : va_K D vwCl (tysX cy) s) (hN : NW s)  {q : Int32}  {v1 : Int32} (h : X11_count nm im sy un en ra li v1 = q) {ls : Array Slot} (hl : lv_has ls 2 [(0, .ref (ad 0)), (1, .int v1)]) (hP : va_P D vwCl (GX cy ad (ad 21) (ad 55) nm tp kp cu se ur ab lo im sy un en ra li i2) s.heap) : W p l e ({ frames := 1, cells := 0, slots := 0, locals := 20 } : Room) s m args below meth c s.heap [] 0 0 (MQ below (QP (some (.int q))) args s 0 0 (fun _ => False)) (F0 m 0 ls []) := by
  obtain ⟨hx, hb, hml, hown, hts, hr, hlk⟩ := id C
  unfold X11_count at h
  refine lv_iload_n hx hb dX11_count_0 rfl (lv_at hl 1 rfl) ?_
  by_cases c1 : v1 = (0 : Int32)
  · rw [if_pos c1] at h
    rw [c1]
    refine lv_tableIn (off := 47) (tgt := 48) hx hb dX11_count_1 (by decide) (by decide) (by decide) (by decide) ?_
    refine lv_aload_n hx hb dX11_count_48 rfl (lv_at hl 0 rfl) ?_
    refine gX0_8 (v := nm) C hK hP rfl w480 dX11_count_49 ?_
    obtain rfl := h
    exact W.iret hx hb hr (fun t ht _ => ⟨rfl, ht⟩) (fun _ h9 => by cases h9) dX11_count_52 hlk
  rw [if_neg c1] at h
  by_cases c2 : v1 = (1 : Int32)
  · rw [if_pos c2] at h
    rw [c2]
    refine lv_tableIn (off := 52) (tgt := 53) hx hb dX11_count_1 (by decide) (by decide) (by decide) (by decide) ?_
    refine lv_aload_n hx hb dX11_count_53 rfl (lv_at hl 0 rfl) ?_
    refine gX0_6 C hK hP w478 dX11_count_54 ?_
    refine gX21_5N (v := im) C hK hP rfl hN w458 dX11_count_57 ?_
    obtain rfl := h
    exact W.iret hx hb hr (fun t ht _ => ⟨rfl, ht⟩) (fun _ h9 => by cases h9) dX11_count_60 hlk
  rw [if_neg c2] at h
  by_cases c3 : v1 = (2 : Int32)
  · rw [if_pos c3] at h
    rw [c3]
    refine lv_tableIn (off := 60) (tgt := 61) hx hb dX11_count_1 (by decide) (by decide) (by decide) (by decide) ?_
    refine lv_aload_n hx hb dX11_count_61 rfl (lv_at hl 0 rfl) ?_
    refine gX0_6 C hK hP w478 dX11_count_62 ?_
    refine gX21_0N C hK hP hN w440 dX11_count_65 ?_
    refine cPi (run_V (rest := []) C (kX8_total rfl) caX8_total w1317 ⟨rfl, rfl, Nat.le_of_ble_eq_true rfl, Nat.le_of_ble_eq_true rfl⟩ hK hN hP (rX22 hK hP) rfl hl.1 rfl (Nat.le_of_ble_eq_true rfl) dX11_count_68 ⟨Nat.zero_le _, Nat.zero_le _⟩) ?_
    obtain rfl := h
    exact W.iret hx hb hr (fun t ht _ => ⟨rfl, ht⟩) (fun _ h9 => by cases h9) dX11_count_71 hlk
  rw [if_neg c3] at h
  by_cases c4 : v1 = (3 : Int32)
  · rw [if_pos c4] at h
    rw [c4]
    refine lv_tableIn (off := 71) (tgt := 72) hx hb dX11_count_1 (by decide) (by decide) (by decide) (by decide) ?_
    refine lv_aload_n hx hb dX11_count_72 rfl (lv_at hl 0 rfl) ?_
    refine gX0_6 C hK hP w478 dX11_count_73 ?_
    refine gX21_1N C hK hP hN w446 dX11_count_76 ?_
    refine cPi (run_V (rest := []) C (kX10_total rfl) caX10_total w1321 ⟨rfl, rfl, Nat.le_of_ble_eq_true rfl, Nat.le_of_ble_eq_true rfl⟩ hK hN hP (rX27 hK hP) rfl hl.1 rfl (Nat.le_of_ble_eq_true rfl) dX11_count_79 ⟨Nat.zero_le _, Nat.zero_le _⟩) ?_
    obtain rfl := h
    exact W.iret hx hb hr (fun t ht _ => ⟨rfl, ht⟩) (fun _ h9 => by cases h9) dX11_count_82 hlk
  rw [if_neg c4] at h
  by_cases c5 : v1 = (4 : Int32)
  · rw [if_pos c5] at h
    rw [c5]
    refine lv_tableIn (off := 82) (tgt := 83) hx hb dX11_count_1 (by decide) (by decide) (by decide) (by decide) ?_
    refine lv_aload_n hx hb dX11_count_83 rfl (lv_at hl 0 rfl) ?_
    refine gX0_6 C hK hP w478 dX11_count_84 ?_
    refine gX21_2N C hK hP hN w452 dX11_count_87 ?_
    refine cPi (run_V (rest := []) C (kX2_total rfl) caX2_total w1093 ⟨rfl, rfl, Nat.le_of_ble_eq_true rfl, Nat.le_of_ble_eq_true rfl⟩ hK hN hP (rX34 hK hP) rfl hl.1 rfl (Nat.le_of_ble_eq_true rfl) dX11_count_90 ⟨Nat.zero_le _, Nat.zero_le _⟩) ?_
    obtain rfl := h
    exact W.iret hx hb hr (fun t ht _ => ⟨rfl, ht⟩) (fun _ h9 => by cases h9) dX11_count_93 hlk
  rw [if_neg c5] at h
  by_cases c6 : v1 = (5 : Int32)
  · rw [if_pos c6] at h
    rw [c6]
    refine lv_tableIn (off := 93) (tgt := 94) hx hb dX11_count_1 (by decide) (by decide) (by decide) (by decide) ?_
    refine lv_aload_n hx hb dX11_count_94 rfl (lv_at hl 0 rfl) ?_
    refine gX0_6 C hK hP w478 dX11_count_95 ?_
    refine gX21_3N C hK hP hN w454 dX11_count_98 ?_
    refine cPi (run_V (rest := []) C (kX6_total rfl) caX6_total w1322 ⟨rfl, rfl, Nat.le_of_ble_eq_true rfl, Nat.le_of_ble_eq_true rfl⟩ hK hN hP (rX45 hK hP) rfl hl.1 rfl (Nat.le_of_ble_eq_true rfl) dX11_count_101 ⟨Nat.zero_le _, Nat.zero_le _⟩) ?_
    obtain rfl := h
    exact W.iret hx hb hr (fun t ht _ => ⟨rfl, ht⟩) (fun _ h9 => by cases h9) dX11_count_104 hlk
  rw [if_neg c6] at h
  by_cases c7 : v1 = (6 : Int32)
  · rw [if_pos c7] at h
    rw [c7]
    refine lv_tableIn (off := 104) (tgt := 105) hx hb dX11_count_1 (by decide) (by decide) (by decide) (by decide) ?_
    refine lv_aload_n hx hb dX11_count_105 rfl (lv_at hl 0 rfl) ?_
    refine gX0_6 C hK hP w478 dX11_count_106 ?_
    refine gX21_4N C hK hP hN w457 dX11_count_109 ?_
    refine cPi (run_V (rest := []) C (kX4_total rfl) caX4_total w1326 ⟨rfl, rfl, Nat.le_of_ble_eq_true rfl, Nat.le_of_ble_eq_true rfl⟩ hK hN hP (rX48 hK hP) rfl hl.1 rfl (Nat.le_of_ble_eq_true rfl) dX11_count_112 ⟨Nat.zero_le _, Nat.zero_le _⟩) ?_
    obtain rfl := h
    exact W.iret hx hb hr (fun t ht _ => ⟨rfl, ht⟩) (fun _ h9 => by cases h9) dX11_count_115 hlk
  rw [if_neg c7] at h
  by_cases c8 : v1 = (7 : Int32)
  · rw [if_pos c8] at h
    rw [c8]
    refine lv_tableIn (off := 115) (tgt := 116) hx hb dX11_count_1 (by decide) (by decide) (by decide) (by decide) ?_
    refine lv_aload_n hx hb dX11_count_116 rfl (lv_at hl 0 rfl) ?_
    refine gX0_6 C hK hP w478 dX11_count_117 ?_
    refine gX21_1N C hK hP hN w446 dX11_count_120 ?_
    refine cPi (run_V (rest := []) C (kX10_fileTotal rfl) caX10_fileTotal w1330 ⟨rfl, rfl, Nat.le_of_ble_eq_true rfl, Nat.le_of_ble_eq_true rfl⟩ hK hN hP (rX27 hK hP) rfl hl.1 rfl (Nat.le_of_ble_eq_true rfl) dX11_count_123 ⟨Nat.zero_le _, Nat.zero_le _⟩) ?_
    obtain rfl := h
    exact W.iret hx hb hr (fun t ht _ => ⟨rfl, ht⟩) (fun _ h9 => by cases h9) dX11_count_126 hlk
  rw [if_neg c8] at h
  refine tsw_d (tgt := 127) hx hb dX11_count_1 [(0 : Int32), (1 : Int32), (2 : Int32), (3 : Int32), (4 : Int32), (5 : Int32), (6 : Int32), (7 : Int32)] (by simp only [List.mem_cons, List.not_mem_nil, or_false]; rintro _ (rfl | rfl | rfl | rfl | rfl | rfl | rfl | rfl) <;> assumption) (by decide +kernel) (by decide) ?_
  refine lv_iconst (v := (-1 : Int32)) hx hb dX11_count_127 (by decide) ?_
  obtain rfl := h
  exact W.iret hx hb hr (fun t ht _ => ⟨rfl, ht⟩) (fun _ h9 => by cases h9) dX11_count_128 hlk
theorem kX11_count  {v1 : Int32} {q : Int32} (h : X11_count nm im sy un en ra li v1 = q) : Met l yX11_count (.code yX11_count cX11_count 2 (some .int) :: WA) ({ frames := 1, cells := 0, slots := 0, locals := 20 } : Room) (va_Pc [.ref (ad 0), .int v1] (PR D cy (GX cy ad (ad 21) (ad 55) nm tp kp cu se ur ab lo im sy un en ra li i2))) (QP (some (.int q))) 0 0 (fun _ => False) :=
  met_of (by decide) (Nat.le_of_ble_eq_true rfl) (fun p e s m below meth c ls C hP hK hN hl => bX11_count_0 C hK hN h hl hP)
end
