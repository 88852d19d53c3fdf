section
variable {t adK adV : Nat → Nat} {k : Nat}
variable {p : Program} {l : Launch} {e : Env} {s : State} {m : MethodId} {args : Array Value} {below : List Frame} {meth : Method} {c : Code} {D : va_G} {cy : Nat → ClassId} {ad : Nat → Nat}
variable {tk : Nat} {sp : Nat} {nm : Tnm} {tp : Ttp} {kp : Tkp} {cu : Tcu} {se : Tse} {ur : Tur} {ab : Tab} {lo : Tlo} {im : Tim} {sy : Tsy} {un : Tun} {en : Ten} {ra : Tra} {li : Tli} {i2 : Ti2}
def X10_total (un : Tun)  : Int32 := un.2.2.2.2.2.2.1
set_option maxRecDepth 20000 in
theorem bX10_total_0 (C : Cx p s m args meth c cX10_total 1 (some .int) RX10 (.code yX10_total cX10_total 1 (some .int))) (hK : va_K D vwCl (tysX cy) s) (hN : NW s)  {q : Int32}   (h : X10_total un = q) {ls : Array Slot} (hl : lv_has ls 1 [(0, .ref (ad 27))]) (hP : va_P D vwCl (GX cy ad tk sp nm tp kp cu se ur ab lo im sy un en ra li i2) s.heap) : W p l e ({ frames := 0, cells := 0, slots := 0, locals := 0 } : Room) s m args below meth c s.heap [] 0 0 (MQ below (QP (some (.int q))) args s 0 0 (fun _ => False)) (F0 m 0 ls []) := by
  obtain ⟨hx, hb, hml, hown, hts, hr, hlk⟩ := id C
  unfold X10_total at h
  refine lv_aload_n hx hb dX10_total_0 rfl (lv_at hl 0 rfl) ?_
  refine gX27_6 (v := un.2.2.2.2.2.2.1) C hK hP rfl w306 dX10_total_1 ?_
  obtain rfl := h
  exact W.iret hx hb hr (fun t ht _ => ⟨rfl, ht⟩) (fun _ h9 => by cases h9) dX10_total_4 hlk
theorem kX10_total   {q : Int32} (h : X10_total un = q) : Met l yX10_total (.code yX10_total cX10_total 1 (some .int) :: WA) ({ frames := 0, cells := 0, slots := 0, locals := 0 } : Room) (va_Pc [.ref (ad 27)] (PR D cy (GX cy ad tk sp nm tp kp cu se ur ab lo im sy un en ra li i2))) (QP (some (.int q))) 0 0 (fun _ => False) :=
  met_of (by decide) (Nat.le_of_ble_eq_true rfl) (fun p e s m below meth c ls C hP hK hN hl => bX10_total_0 C hK hN h hl hP)
def X10_beginOf (un : Tun) (v1 : Int32) : Int32 := (at_i 20 un.1 v1)
set_option maxRecDepth 20000 in
theorem bX10_beginOf_0 (C : Cx p s m args meth c cX10_beginOf 2 (some .int) RX10 (.code yX10_beginOf cX10_beginOf 2 (some .int))) (hK : va_K D vwCl (tysX cy) s) (hN : NW s)  {q : Int32}  {v1 : Int32} (h : X10_beginOf un v1 = q) {ls : Array Slot} (hl : lv_has ls 2 [(0, .ref (ad 27)), (1, .int v1)]) (hP : va_P D vwCl (GX cy ad tk sp nm tp kp cu se ur ab lo im sy un en ra li i2) s.heap) : W p l e ({ frames := 1, cells := 0, slots := 0, locals := 21 } : Room) s m args below meth c s.heap [] 0 0 (MQ below (QP (some (.int q))) args s 0 0 (fun _ => False)) (F0 m 0 ls []) := by
  obtain ⟨hx, hb, hml, hown, hts, hr, hlk⟩ := id C
  unfold X10_beginOf at h
  refine lv_aload_n hx hb dX10_beginOf_0 rfl (lv_at hl 0 rfl) ?_
  refine gX27_0 C hK hP w300 dX10_beginOf_1 ?_
  refine lv_iload_n hx hb dX10_beginOf_4 rfl (lv_at hl 1 rfl) ?_
  refine xat_i (rest := []) C hK hN hP eX28 (Nat.le_of_ble_eq_true rfl) w963 hl.1 (Nat.le_of_ble_eq_true rfl) dX10_beginOf_5 ⟨Nat.le_of_ble_eq_true rfl, Nat.le_of_ble_eq_true rfl⟩ ⟨Nat.zero_le _, Nat.zero_le _⟩ ?_
  obtain rfl := h
  exact W.iret hx hb hr (fun t ht _ => ⟨rfl, ht⟩) (fun _ h9 => by cases h9) dX10_beginOf_8 hlk
theorem kX10_beginOf  {v1 : Int32} {q : Int32} (h : X10_beginOf un v1 = q) : Met l yX10_beginOf (.code yX10_beginOf cX10_beginOf 2 (some .int) :: WA) ({ frames := 1, cells := 0, slots := 0, locals := 21 } : Room) (va_Pc [.ref (ad 27), .int v1] (PR D cy (GX cy ad tk sp nm tp kp cu se ur ab lo im sy un en ra li i2))) (QP (some (.int q))) 0 0 (fun _ => False) :=
  met_of (by decide) (Nat.le_of_ble_eq_true rfl) (fun p e s m below meth c ls C hP hK hN hl => bX10_beginOf_0 C hK hN h hl hP)
def X4_readDirectories_50 (tp : Ttp) (k28 : Tcu → Int64 → Int32 → Option (Int64 × Tcu)) (cu : Tcu) (v2 : Int64) (v4 : Int32) : Option (Int64 × Tcu) := (if (X1_sound cu) = 0 then some (v2, cu) else ((X1_text tp cu).bind fun q2 => k28 q2.2 v2 (v4 + (1 : Int32))))
set_option maxRecDepth 20000 in
theorem bX4_readDirectories_50 (C : Cx p s m args meth c cX4_readDirectories 5 (some .long) RX4 (.code yX4_readDirectories cX4_readDirectories 5 (some .long))) (hI : Apart ad 89) (hK : va_K D vwCl (tysX cy) s) (hN : NW s) {k28 : Tcu → Int64 → Int32 → Option (Int64 × Tcu)} {q : Int64 × Tcu} (hk28 : ∀ {cu : Tcu} {v2 : Int64} {v4 : Int32}, k28 cu v2 v4 = some q → ∀ {ls : Array Slot}, lv_has ls 5 [(1, .ref (ad 3)), (2, .long v2), (4, .int v4)] → ∀ {H : Heap} {locs : List Loc}, va_P D vwCl (GX cy ad tk sp nm tp kp cu se ur ab lo im sy un en ra li i2) H → va_S (Ac ad 89) s.heap H locs → W p l e ({ frames := 3, cells := 0, slots := 0, locals := 77 } : Room) s m args below meth c H locs 0 0 (MQ below (QR (some (.long q.1)) D (GX cy ad tk sp nm tp kp q.2 se ur ab lo im sy un en ra li i2) (Ac ad 89)) args s 0 0 (Ac ad 89)) (F0 m 28 ls [])) {v2 : Int64} {v4 : Int32} (h : X4_readDirectories_50 tp k28 cu v2 v4 = some q) {ls : Array Slot} (hl : lv_has ls 5 [(1, .ref (ad 3)), (2, .long v2), (4, .int v4)]) {H : Heap} {locs : List Loc} (hP : va_P D vwCl (GX cy ad tk sp nm tp kp cu se ur ab lo im sy un en ra li i2) H) (hS : va_S (Ac ad 89) s.heap H locs) : W p l e ({ frames := 3, cells := 0, slots := 0, locals := 77 } : Room) s m args below meth c H locs 0 0 (MQ below (QR (some (.long q.1)) D (GX cy ad tk sp nm tp kp q.2 se ur ab lo im sy un en ra li i2) (Ac ad 89)) args s 0 0 (Ac ad 89)) (F0 m 50 ls []) := by
  obtain ⟨hx, hb, hml, hown, hts, hr, hlk⟩ := id C
  unfold X4_readDirectories_50 at h
  refine lv_aload_n hx hb dX4_readDirectories_50 rfl (lv_at hl 0 rfl) ?_
  refine cPi (run_V (rest := []) C (kX1_sound rfl) caX1_sound w988 ⟨rfl, rfl, Nat.le_of_ble_eq_true rfl, Nat.le_of_ble_eq_true rfl⟩ hK hN hP (rX3 hK hP) rfl hl.1 rfl (Nat.le_of_ble_eq_true rfl) dX4_readDirectories_51 ⟨Nat.zero_le _, Nat.zero_le _⟩) ?_
  refine lv_if_eq (tgt := 68) hx hb dX4_readDirectories_54 (by decide) (fun c1 => ?_) (fun c1 => ?_)
  · rw [if_pos c1] at h
    refine lv_lload_n hx hb dX4_readDirectories_68 rfl (lv_at hl 1 rfl) ?_
    obtain rfl := Option.some.inj h
    exact W.lret hx hb hr (fun t ht _ => ⟨rfl, by rw [ht]; exact hP, hS.F ht⟩) hS.2.2 dX4_readDirectories_69 hlk
  · rw [if_neg c1] at h
    refine lv_aload_n hx hb dX4_readDirectories_57 rfl (lv_at hl 0 rfl) ?_
    obtain ⟨q2, h3, h⟩ := bnd h
    refine cRi (run_V (rest := []) C (kX1_text hI h3) caX1_text w1032 ⟨rfl, rfl, Nat.le_of_ble_eq_true rfl, Nat.le_of_ble_eq_true rfl⟩ hK hN hP (rX3 hK hP) rfl hl.1 rfl (Nat.le_of_ble_eq_true rfl) dX4_readDirectories_58 ⟨Nat.zero_le _, Nat.zero_le _⟩) hS (fun H locs hP hS => ?_)
    have hP : va_P D vwCl (GX cy ad tk sp nm tp kp q2.2 se ur ab lo im sy un en ra li i2) H := hP
    refine lv_pop hx hb dX4_readDirectories_61 rfl ?_
    refine lv_iinc (v := (v4 + (1 : Int32))) (lv' := [(4, .int (v4 + (1 : Int32))), (1, .ref (ad 3)), (2, .long v2)]) hx hb dX4_readDirectories_62 hl (k := 2) rfl rfl (by decide) rfl (fun ls hl => ?_)
    refine lv_goto (tgt := 28) hx hb dX4_readDirectories_65 (by decide) ?_
    exact hk28 h (lv_sub hl [1, 2, 0] rfl) hP hS
def X4_readDirectories_28b (tp : Ttp)  (k28 : Tcu → Int64 → Int32 → Option (Int64 × Tcu)) (cu : Tcu) (v2 : Int64) (v4 : Int32) : Option (Int64 × Tcu) := (if v4 < (8000 : Int32) then (if v2 < (0 : Int64) then X4_readDirectories_50 tp k28 cu v2 v4 else (if ((v4).toInt64) < v2 then X4_readDirectories_50 tp k28 cu v2 v4 else some (v2, cu))) else some (v2, cu))
def X4_readDirectories_28 (tp : Ttp)  (n : Nat) (st : Tcu × Int64 × Int32) : Option (Int64 × Tcu) := lp (fun rec st => X4_readDirectories_28b tp  (fun a0 a1 a2 => rec (a0, a1, a2)) st.1 st.2.1 st.2.2) n st
set_option maxRecDepth 20000 in
theorem bX4_readDirectories_28 (C : Cx p s m args meth c cX4_readDirectories 5 (some .long) RX4 (.code yX4_readDirectories cX4_readDirectories 5 (some .long))) (hI : Apart ad 89) (hK : va_K D vwCl (tysX cy) s) (hN : NW s)  {q : Int64 × Tcu}  : ∀ (n : Nat) {cu : Tcu} {v2 : Int64} {v4 : Int32}, X4_readDirectories_28 tp  n (cu, v2, v4) = some q → ∀ {ls : Array Slot}, lv_has ls 5 [(1, .ref (ad 3)), (2, .long v2), (4, .int v4)] → ∀ {H : Heap} {locs : List Loc}, va_P D vwCl (GX cy ad tk sp nm tp kp cu se ur ab lo im sy un en ra li i2) H → va_S (Ac ad 89) s.heap H locs → W p l e ({ frames := 3, cells := 0, slots := 0, locals := 77 } : Room) s m args below meth c H locs 0 0 (MQ below (QR (some (.long q.1)) D (GX cy ad tk sp nm tp kp q.2 se ur ab lo im sy un en ra li i2) (Ac ad 89)) args s 0 0 (Ac ad 89)) (F0 m 28 ls []) := by
  obtain ⟨hx, hb, hml, hown, hts, hr, hlk⟩ := id C
  intro n
  induction n with
  | zero =>
    intro cu v2 v4 h ls hl H locs hP hS
    have h : (none : Option (Int64 × Tcu)) = some q := h
    cases h
  | succ n ih =>
    intro cu v2 v4 h ls hl H locs hP hS
    have h : X4_readDirectories_28b tp  (fun a0 a1 a2 => X4_readDirectories_28 tp  n (a0, a1, a2)) cu v2 v4 = some q := h
    unfold X4_readDirectories_28b at h
    refine lv_iload hx hb dX4_readDirectories_28 (lv_at hl 2 rfl) ?_
    refine lv_sipush (v := (8000 : Int32)) hx hb dX4_readDirectories_30 (by decide) ?_
    refine b_icmp_ge (tgt := 68) hx hb dX4_readDirectories_33 (by decide) (fun c1 => ?_) (fun c1 => ?_)
    · rw [if_neg c1] at h
      refine lv_lload_n hx hb dX4_readDirectories_68 rfl (lv_at hl 1 rfl) ?_
      obtain rfl := Option.some.inj h
      exact W.lret hx hb hr (fun t ht _ => ⟨rfl, by rw [ht]; exact hP, hS.F ht⟩) hS.2.2 dX4_readDirectories_69 hlk
    · rw [if_pos c1] at h
      refine lv_lload_n hx hb dX4_readDirectories_36 rfl (lv_at hl 1 rfl) ?_
      refine lv_lconst (v := (0 : Int64)) hx hb dX4_readDirectories_37 (by decide) ?_
      refine lc_lt (tgt := 50) hx hb dX4_readDirectories_38 dX4_readDirectories_39 (by decide) (fun c2 => ?_) (fun c2 => ?_)
      · rw [if_pos c2] at h
        exact bX4_readDirectories_50 C hI hK hN @ih h (lv_sub hl [0, 1, 2] rfl) hP hS
      · rw [if_neg c2] at h
        refine lv_iload hx hb dX4_readDirectories_42 (lv_at hl 2 rfl) ?_
        refine lv_i2l (v := ((v4).toInt64)) hx hb dX4_readDirectories_44 rfl ?_
        refine lv_lload_n hx hb dX4_readDirectories_45 rfl (lv_at hl 1 rfl) ?_
        refine lc_ge (tgt := 68) hx hb dX4_readDirectories_46 dX4_readDirectories_47 (by decide) (fun c3 => ?_) (fun c3 => ?_)
        · rw [if_neg c3] at h
          refine lv_lload_n hx hb dX4_readDirectories_68 rfl (lv_at hl 1 rfl) ?_
          obtain rfl := Option.some.inj h
          exact W.lret hx hb hr (fun t ht _ => ⟨rfl, by rw [ht]; exact hP, hS.F ht⟩) hS.2.2 dX4_readDirectories_69 hlk
        · rw [if_pos c3] at h
          exact bX4_readDirectories_50 C hI hK hN @ih h (lv_sub hl [0, 1, 2] rfl) hP hS
def X4_readDirectories (tp : Ttp) (cu : Tcu)  : Option (Int64 × Tcu) := ((X1_numberBetween tp cu (1 : Int32) (1 : Int32) (1 : Int32)).bind fun q1 => ((X1_expectUleb tp q1.2 (1 : Int64)).bind fun q3 => ((X1_expectUleb tp q3 (8 : Int64)).bind fun q5 => ((X1_uleb tp q5).bind fun q7 => X4_readDirectories_28 tp FU (q7.2, q7.1, (0 : Int32))))))
set_option maxRecDepth 20000 in
theorem bX4_readDirectories_0 (C : Cx p s m args meth c cX4_readDirectories 5 (some .long) RX4 (.code yX4_readDirectories cX4_readDirectories 5 (some .long))) (hI : Apart ad 89) (hK : va_K D vwCl (tysX cy) s) (hN : NW s)  {q : Int64 × Tcu}   (h : X4_readDirectories tp cu = some q) {ls : Array Slot} (hl : lv_has ls 5 [(0, .ref (ad 48)), (1, .ref (ad 3))]) {H : Heap} {locs : List Loc} (hP : va_P D vwCl (GX cy ad tk sp nm tp kp cu se ur ab lo im sy un en ra li i2) H) (hS : va_S (Ac ad 89) s.heap H locs) : W p l e ({ frames := 3, cells := 0, slots := 0, locals := 77 } : Room) s m args below meth c H locs 0 0 (MQ below (QR (some (.long q.1)) D (GX cy ad tk sp nm tp kp q.2 se ur ab lo im sy un en ra li i2) (Ac ad 89)) args s 0 0 (Ac ad 89)) (F0 m 0 ls []) := by
  obtain ⟨hx, hb, hml, hown, hts, hr, hlk⟩ := id C
  unfold X4_readDirectories at h
  refine lv_aload_n hx hb dX4_readDirectories_0 rfl (lv_at hl 1 rfl) ?_
  refine lv_iconst (v := (1 : Int32)) hx hb dX4_readDirectories_1 (by decide) ?_
  refine lv_iconst (v := (1 : Int32)) hx hb dX4_readDirectories_2 (by decide) ?_
  refine lv_iconst (v := (1 : Int32)) hx hb dX4_readDirectories_3 (by decide) ?_
  obtain ⟨q1, h2, h⟩ := bnd h
  refine cRi (run_V (rest := []) C (kX1_numberBetween hI h2) caX1_numberBetween w1010 ⟨rfl, rfl, Nat.le_of_ble_eq_true rfl, Nat.le_of_ble_eq_true rfl⟩ hK hN hP (rX3 hK hP) rfl hl.1 rfl (Nat.le_of_ble_eq_true rfl) dX4_readDirectories_4 ⟨Nat.zero_le _, Nat.zero_le _⟩) hS (fun H locs hP hS => ?_)
  have hP : va_P D vwCl (GX cy ad tk sp nm tp kp q1.2 se ur ab lo im sy un en ra li i2) H := hP
  refine lv_pop hx hb dX4_readDirectories_7 rfl ?_
  refine lv_aload_n hx hb dX4_readDirectories_8 rfl (lv_at hl 1 rfl) ?_
  refine lv_lconst (v := (1 : Int64)) hx hb dX4_readDirectories_9 (by decide) ?_
  obtain ⟨q3, h4, h⟩ := bnd h
  refine cRv (run_V (rest := []) C (kX1_expectUleb hI h4) caX1_expectUleb w1026 ⟨rfl, rfl, Nat.le_of_ble_eq_true rfl, Nat.le_of_ble_eq_true rfl⟩ hK hN hP (rX3 hK hP) rfl hl.1 rfl (Nat.le_of_ble_eq_true rfl) dX4_readDirectories_10 ⟨Nat.zero_le _, Nat.zero_le _⟩) hS (fun H locs hP hS => ?_)
  have hP : va_P D vwCl (GX cy ad tk sp nm tp kp q3 se ur ab lo im sy un en ra li i2) H := hP
  refine lv_aload_n hx hb dX4_readDirectories_13 rfl (lv_at hl 1 rfl) ?_
  refine lv_ldc2 (v := (8 : Int64)) hx hb hown (hts _ (List.mem_cons_of_mem _ w1030)) dX4_readDirectories_14 ?_
  obtain ⟨q5, h6, h⟩ := bnd h
  refine cRv (run_V (rest := []) C (kX1_expectUleb hI h6) caX1_expectUleb w1026 ⟨rfl, rfl, Nat.le_of_ble_eq_true rfl, Nat.le_of_ble_eq_true rfl⟩ hK hN hP (rX3 hK hP) rfl hl.1 rfl (Nat.le_of_ble_eq_true rfl) dX4_readDirectories_17 ⟨Nat.zero_le _, Nat.zero_le _⟩) hS (fun H locs hP hS => ?_)
  have hP : va_P D vwCl (GX cy ad tk sp nm tp kp q5 se ur ab lo im sy un en ra li i2) H := hP
  refine lv_aload_n hx hb dX4_readDirectories_20 rfl (lv_at hl 1 rfl) ?_
  obtain ⟨q7, h8, h⟩ := bnd h
  refine cRl (run_V (rest := []) C (kX1_uleb hI h8) caX1_uleb w1031 ⟨rfl, rfl, Nat.le_of_ble_eq_true rfl, Nat.le_of_ble_eq_true rfl⟩ hK hN hP (rX3 hK hP) rfl hl.1 rfl (Nat.le_of_ble_eq_true rfl) dX4_readDirectories_21 ⟨Nat.zero_le _, Nat.zero_le _⟩) hS (fun H locs hP hS => ?_)
  have hP : va_P D vwCl (GX cy ad tk sp nm tp kp q7.2 se ur ab lo im sy un en ra li i2) H := hP
  refine lv_lstore_n (lv' := [(2, .long q7.1), (0, .ref (ad 48)), (1, .ref (ad 3))]) hx hb dX4_readDirectories_24 rfl hl (by decide) rfl (fun ls hl => ?_)
  refine lv_iconst (v := (0 : Int32)) hx hb dX4_readDirectories_25 (by decide) ?_
  refine lv_istore (lv' := [(4, .int (0 : Int32)), (2, .long q7.1), (0, .ref (ad 48)), (1, .ref (ad 3))]) hx hb dX4_readDirectories_26 hl (by decide) rfl (fun ls hl => ?_)
  exact bX4_readDirectories_28 C hI hK hN FU h (lv_sub hl [3, 1, 0] rfl) hP hS
theorem kX4_readDirectories (hI : Apart ad 89)  {q : Int64 × Tcu} (h : X4_readDirectories tp cu = some q) : Met l yX4_readDirectories (.code yX4_readDirectories cX4_readDirectories 5 (some .long) :: WA) ({ frames := 3, cells := 0, slots := 0, locals := 77 } : Room) (va_Pc [.ref (ad 48), .ref (ad 3)] (PR D cy (GX cy ad tk sp nm tp kp cu se ur ab lo im sy un en ra li i2))) (QR (some (.long q.1)) D (GX cy ad tk sp nm tp kp q.2 se ur ab lo im sy un en ra li i2) (Ac ad 89)) 0 0 (Ac ad 89) :=
  met_of (by decide) (Nat.le_of_ble_eq_true rfl) (fun p e s m below meth c ls C hP hK hN hl => bX4_readDirectories_0 C hI hK hN h hl hP va_S.rf)
def X10_addFile (un : Tun) (v1 : Int32) (v2 : Int32) (v3 : Int32) : Tun := (if un.2.2.2.2.2.2.2 < (40 : Int32) then (un.1, un.2.1, un.2.2.1, (put_i 20 un.2.2.2.1 v1 ((at_i 20 un.2.2.2.1 v1) + (1 : Int32))), (put_i 40 un.2.2.2.2.1 un.2.2.2.2.2.2.2 v2), (put_i 40 un.2.2.2.2.2.1 un.2.2.2.2.2.2.2 v3), un.2.2.2.2.2.2.1, (un.2.2.2.2.2.2.2 + (1 : Int32))) else un)
set_option maxRecDepth 20000 in
theorem bX10_addFile_0 (C : Cx p s m args meth c cX10_addFile 4 none RX10 (.code yX10_addFile cX10_addFile 4 none)) (hI : Apart ad 89) (hK : va_K D vwCl (tysX cy) s) (hN : NW s)  {q : Tun}  {v1 : Int32} {v2 : Int32} {v3 : Int32} (h : X10_addFile un v1 v2 v3 = q) {ls : Array Slot} (hl : lv_has ls 4 [(0, .ref (ad 27)), (1, .int v1), (2, .int v2), (3, .int v3)]) {H : Heap} {locs : List Loc} (hP : va_P D vwCl (GX cy ad tk sp nm tp kp cu se ur ab lo im sy un en ra li i2) H) (hS : va_S (Ac ad 89) s.heap H locs) : W p l e ({ frames := 1, cells := 0, slots := 0, locals := 22 } : Room) s m args below meth c H locs 0 0 (MQ below (QR none D (GX cy ad tk sp nm tp kp cu se ur ab lo im sy q en ra li i2) (Ac ad 89)) args s 0 0 (Ac ad 89)) (F0 m 0 ls []) := by
  obtain ⟨hx, hb, hml, hown, hts, hr, hlk⟩ := id C
  unfold X10_addFile at h
  refine lv_aload_n hx hb dX10_addFile_0 rfl (lv_at hl 0 rfl) ?_
  refine gX27_7 (v := un.2.2.2.2.2.2.2) C hK hP rfl w307 dX10_addFile_1 ?_
  refine lv_bipush (v := (40 : Int32)) hx hb dX10_addFile_4 (by decide) ?_
  refine lv_icmp_lt (tgt := 10) hx hb dX10_addFile_6 (by decide) (fun c1 => ?_) (fun c1 => ?_)
  · rw [if_pos c1] at h
    refine lv_aload_n hx hb dX10_addFile_10 rfl (lv_at hl 0 rfl) ?_
    refine gX27_4 C hK hP w304 dX10_addFile_11 ?_
    refine lv_aload_n hx hb dX10_addFile_14 rfl (lv_at hl 0 rfl) ?_
    refine gX27_7 (v := un.2.2.2.2.2.2.2) C hK hP rfl w307 dX10_addFile_15 ?_
    refine lv_iload_n hx hb dX10_addFile_18 rfl (lv_at hl 2 rfl) ?_
    refine xput_i (rest := []) C hK hN hP (GX_D hI) hS eX32 (Nat.le_of_ble_eq_true rfl) w760 hl.1 (Nat.le_of_ble_eq_true rfl) dX10_addFile_19 ⟨Nat.le_of_ble_eq_true rfl, Nat.le_of_ble_eq_true rfl⟩ ⟨Nat.zero_le _, Nat.zero_le _⟩ (fun H locs hP hS => ?_)
    have hP : va_P D vwCl (GX cy ad tk sp nm tp kp cu se ur ab lo im sy (un.1, un.2.1, un.2.2.1, un.2.2.2.1, (put_i 40 un.2.2.2.2.1 un.2.2.2.2.2.2.2 v2), un.2.2.2.2.2.1, un.2.2.2.2.2.2.1, un.2.2.2.2.2.2.2) en ra li i2) H := hP
    refine lv_aload_n hx hb dX10_addFile_22 rfl (lv_at hl 0 rfl) ?_
    refine gX27_5 C hK hP w305 dX10_addFile_23 ?_
    refine lv_aload_n hx hb dX10_addFile_26 rfl (lv_at hl 0 rfl) ?_
    refine gX27_7 (v := un.2.2.2.2.2.2.2) C hK hP rfl w307 dX10_addFile_27 ?_
    refine lv_iload_n hx hb dX10_addFile_30 rfl (lv_at hl 3 rfl) ?_
    refine xput_i (rest := []) C hK hN hP (GX_D hI) hS eX33 (Nat.le_of_ble_eq_true rfl) w760 hl.1 (Nat.le_of_ble_eq_true rfl) dX10_addFile_31 ⟨Nat.le_of_ble_eq_true rfl, Nat.le_of_ble_eq_true rfl⟩ ⟨Nat.zero_le _, Nat.zero_le _⟩ (fun H locs hP hS => ?_)
    have hP : va_P D vwCl (GX cy ad tk sp nm tp kp cu se ur ab lo im sy (un.1, un.2.1, un.2.2.1, un.2.2.2.1, (put_i 40 un.2.2.2.2.1 un.2.2.2.2.2.2.2 v2), (put_i 40 un.2.2.2.2.2.1 un.2.2.2.2.2.2.2 v3), un.2.2.2.2.2.2.1, un.2.2.2.2.2.2.2) en ra li i2) H := hP
    refine lv_aload_n hx hb dX10_addFile_34 rfl (lv_at hl 0 rfl) ?_
    refine lv_dup hx hb dX10_addFile_35 rfl ?_
    refine gX27_7 (v := un.2.2.2.2.2.2.2) C hK hP rfl w307 dX10_addFile_36 ?_
    refine lv_iconst (v := (1 : Int32)) hx hb dX10_addFile_39 (by decide) ?_
    refine lv_iadd hx hb dX10_addFile_40 ?_
    refine pX27_7 (v := (un.2.2.2.2.2.2.2 + (1 : Int32))) C hI hK hP hS w307 dX10_addFile_41 (fun H locs hP hS => ?_)
    have hP : va_P D vwCl (GX cy ad tk sp nm tp kp cu se ur ab lo im sy (un.1, un.2.1, un.2.2.1, un.2.2.2.1, (put_i 40 un.2.2.2.2.1 un.2.2.2.2.2.2.2 v2), (put_i 40 un.2.2.2.2.2.1 un.2.2.2.2.2.2.2 v3), un.2.2.2.2.2.2.1, (un.2.2.2.2.2.2.2 + (1 : Int32))) en ra li i2) H := hP
    refine lv_aload_n hx hb dX10_addFile_44 rfl (lv_at hl 0 rfl) ?_
    refine gX27_3 C hK hP w303 dX10_addFile_45 ?_
    refine lv_iload_n hx hb dX10_addFile_48 rfl (lv_at hl 1 rfl) ?_
    refine lv_aload_n hx hb dX10_addFile_49 rfl (lv_at hl 0 rfl) ?_
    refine gX27_3 C hK hP w303 dX10_addFile_50 ?_
    refine lv_iload_n hx hb dX10_addFile_53 rfl (lv_at hl 1 rfl) ?_
    refine xat_i (rest := [.int v1, .ref (ad 31)]) C hK hN hP eX31 (Nat.le_of_ble_eq_true rfl) w963 hl.1 (Nat.le_of_ble_eq_true rfl) dX10_addFile_54 ⟨Nat.le_of_ble_eq_true rfl, Nat.le_of_ble_eq_true rfl⟩ ⟨Nat.zero_le _, Nat.zero_le _⟩ ?_
    refine lv_iconst (v := (1 : Int32)) hx hb dX10_addFile_57 (by decide) ?_
    refine lv_iadd hx hb dX10_addFile_58 ?_
    refine xput_i (rest := []) C hK hN hP (GX_D hI) hS eX31 (Nat.le_of_ble_eq_true rfl) w760 hl.1 (Nat.le_of_ble_eq_true rfl) dX10_addFile_59 ⟨Nat.le_of_ble_eq_true rfl, Nat.le_of_ble_eq_true rfl⟩ ⟨Nat.zero_le _, Nat.zero_le _⟩ (fun H locs hP hS => ?_)
    have hP : va_P D vwCl (GX cy ad tk sp nm tp kp cu se ur ab lo im sy (un.1, un.2.1, un.2.2.1, (put_i 20 un.2.2.2.1 v1 ((at_i 20 un.2.2.2.1 v1) + (1 : Int32))), (put_i 40 un.2.2.2.2.1 un.2.2.2.2.2.2.2 v2), (put_i 40 un.2.2.2.2.2.1 un.2.2.2.2.2.2.2 v3), un.2.2.2.2.2.2.1, (un.2.2.2.2.2.2.2 + (1 : Int32))) en ra li i2) H := hP
    obtain rfl := h
    exact W.vret hx hb hr (fun t ht _ => ⟨rfl, by rw [ht]; exact hP, hS.F ht⟩) hS.2.2 dX10_addFile_62 hlk
  · rw [if_neg c1] at h
    obtain rfl := h
    exact W.vret hx hb hr (fun t ht _ => ⟨rfl, by rw [ht]; exact hP, hS.F ht⟩) hS.2.2 dX10_addFile_9 hlk
theorem kX10_addFile (hI : Apart ad 89) {v1 : Int32} {v2 : Int32} {v3 : Int32} {q : Tun} (h : X10_addFile un v1 v2 v3 = q) : Met l yX10_addFile (.code yX10_addFile cX10_addFile 4 none :: WA) ({ frames := 1, cells := 0, slots := 0, locals := 22 } : Room) (va_Pc [.ref (ad 27), .int v1, .int v2, .int v3] (PR D cy (GX cy ad tk sp nm tp kp cu se ur ab lo im sy un en ra li i2))) (QR none D (GX cy ad tk sp nm tp kp cu se ur ab lo im sy q en ra li i2) (Ac ad 89)) 0 0 (Ac ad 89) :=
  met_of (by decide) (Nat.le_of_ble_eq_true rfl) (fun p e s m below meth c ls C hP hK hN hl => bX10_addFile_0 C hI hK hN h hl hP va_S.rf)
def X10_beginFiles (un : Tun) (v1 : Int32) : Tun := (un.1, un.2.1, (put_i 20 un.2.2.1 v1 un.2.2.2.2.2.2.2), un.2.2.2.1, un.2.2.2.2.1, un.2.2.2.2.2.1, un.2.2.2.2.2.2.1, un.2.2.2.2.2.2.2)
set_option maxRecDepth 20000 in
theorem bX10_beginFiles_0 (C : Cx p s m args meth c cX10_beginFiles 2 none RX10 (.code yX10_beginFiles cX10_beginFiles 2 none)) (hI : Apart ad 89) (hK : va_K D vwCl (tysX cy) s) (hN : NW s)  {q : Tun}  {v1 : Int32} (h : X10_beginFiles un v1 = q) {ls : Array Slot} (hl : lv_has ls 2 [(0, .ref (ad 27)), (1, .int v1)]) {H : Heap} {locs : List Loc} (hP : va_P D vwCl (GX cy ad tk sp nm tp kp cu se ur ab lo im sy un en ra li i2) H) (hS : va_S (Ac ad 89) s.heap H locs) : W p l e ({ frames := 1, cells := 0, slots := 0, locals := 22 } : Room) s m args below meth c H locs 0 0 (MQ below (QR none D (GX cy ad tk sp nm tp kp cu se ur ab lo im sy q en ra li i2) (Ac ad 89)) args s 0 0 (Ac ad 89)) (F0 m 0 ls []) := by
  obtain ⟨hx, hb, hml, hown, hts, hr, hlk⟩ := id C
  unfold X10_beginFiles at h
  refine lv_aload_n hx hb dX10_beginFiles_0 rfl (lv_at hl 0 rfl) ?_
  refine gX27_2 C hK hP w302 dX10_beginFiles_1 ?_
  refine lv_iload_n hx hb dX10_beginFiles_4 rfl (lv_at hl 1 rfl) ?_
  refine lv_aload_n hx hb dX10_beginFiles_5 rfl (lv_at hl 0 rfl) ?_
  refine gX27_7 (v := un.2.2.2.2.2.2.2) C hK hP rfl w307 dX10_beginFiles_6 ?_
  refine xput_i (rest := []) C hK hN hP (GX_D hI) hS eX30 (Nat.le_of_ble_eq_true rfl) w760 hl.1 (Nat.le_of_ble_eq_true rfl) dX10_beginFiles_9 ⟨Nat.le_of_ble_eq_true rfl, Nat.le_of_ble_eq_true rfl⟩ ⟨Nat.zero_le _, Nat.zero_le _⟩ (fun H locs hP hS => ?_)
  have hP : va_P D vwCl (GX cy ad tk sp nm tp kp cu se ur ab lo im sy (un.1, un.2.1, (put_i 20 un.2.2.1 v1 un.2.2.2.2.2.2.2), un.2.2.2.1, un.2.2.2.2.1, un.2.2.2.2.2.1, un.2.2.2.2.2.2.1, un.2.2.2.2.2.2.2) en ra li i2) H := hP
  obtain rfl := h
  exact W.vret hx hb hr (fun t ht _ => ⟨rfl, by rw [ht]; exact hP, hS.F ht⟩) hS.2.2 dX10_beginFiles_12 hlk
theorem kX10_beginFiles (hI : Apart ad 89) {v1 : Int32} {q : Tun} (h : X10_beginFiles un v1 = q) : Met l yX10_beginFiles (.code yX10_beginFiles cX10_beginFiles 2 none :: WA) ({ frames := 1, cells := 0, slots := 0, locals := 22 } : Room) (va_Pc [.ref (ad 27), .int v1] (PR D cy (GX cy ad tk sp nm tp kp cu se ur ab lo im sy un en ra li i2))) (QR none D (GX cy ad tk sp nm tp kp cu se ur ab lo im sy q en ra li i2) (Ac ad 89)) 0 0 (Ac ad 89) :=
  met_of (by decide) (Nat.le_of_ble_eq_true rfl) (fun p e s m below meth c ls C hP hK hN hl => bX10_beginFiles_0 C hI hK hN h hl hP va_S.rf)
def X10_fileTotal (un : Tun)  : Int32 := un.2.2.2.2.2.2.2
set_option maxRecDepth 20000 in
theorem bX10_fileTotal_0 (C : Cx p s m args meth c cX10_fileTotal 1 (some .int) RX10 (.code yX10_fileTotal cX10_fileTotal 1 (some .int))) (hK : va_K D vwCl (tysX cy) s) (hN : NW s)  {q : Int32}   (h : X10_fileTotal un = q) {ls : Array Slot} (hl : lv_has ls 1 [(0, .ref (ad 27))]) (hP : va_P D vwCl (GX cy ad tk sp nm tp kp cu se ur ab lo im sy un en ra li i2) s.heap) : W p l e ({ frames := 0, cells := 0, slots := 0, locals := 0 } : Room) s m args below meth c s.heap [] 0 0 (MQ below (QP (some (.int q))) args s 0 0 (fun _ => False)) (F0 m 0 ls []) := by
  obtain ⟨hx, hb, hml, hown, hts, hr, hlk⟩ := id C
  unfold X10_fileTotal at h
  refine lv_aload_n hx hb dX10_fileTotal_0 rfl (lv_at hl 0 rfl) ?_
  refine gX27_7 (v := un.2.2.2.2.2.2.2) C hK hP rfl w307 dX10_fileTotal_1 ?_
  obtain rfl := h
  exact W.iret hx hb hr (fun t ht _ => ⟨rfl, ht⟩) (fun _ h9 => by cases h9) dX10_fileTotal_4 hlk
theorem kX10_fileTotal   {q : Int32} (h : X10_fileTotal un = q) : Met l yX10_fileTotal (.code yX10_fileTotal cX10_fileTotal 1 (some .int) :: WA) ({ frames := 0, cells := 0, slots := 0, locals := 0 } : Room) (va_Pc [.ref (ad 27)] (PR D cy (GX cy ad tk sp nm tp kp cu se ur ab lo im sy un en ra li i2))) (QP (some (.int q))) 0 0 (fun _ => False) :=
  met_of (by decide) (Nat.le_of_ble_eq_true rfl) (fun p e s m below meth c ls C hP hK hN hl => bX10_fileTotal_0 C hK hN h hl hP)
def X4_readFiles_147 (tp : Ttp) (li : Tli) (k85 : Tcu → Tun → Int64 → Int64 → Int32 → Option (Tcu × Tun)) (cu : Tcu) (un : Tun) (v3 : Int64) (v6 : Int64) (v8 : Int32) (v9 : Int32) (v10 : Int32) : Option (Tcu × Tun) := (letq (X10_addFile un li.2.2.2.2.2.2.2.2.2.2.2.2.1 v9 v10) fun q1 => k85 cu q1 v3 v6 (v8 + (1 : Int32)))
set_option maxRecDepth 20000 in
theorem bX4_readFiles_147 (C : Cx p s m args meth c cX4_readFiles 13 none RX4 (.code yX4_readFiles cX4_readFiles 13 none)) (hI : Apart ad 89) (hK : va_K D vwCl (tysX cy) s) (hN : NW s) {k85 : Tcu → Tun → Int64 → Int64 → Int32 → Option (Tcu × Tun)} {q : Tcu × Tun} (hk85 : ∀ {cu : Tcu} {un : Tun} {v3 : Int64} {v6 : Int64} {v8 : Int32}, k85 cu un v3 v6 v8 = some q → ∀ {ls : Array Slot}, lv_has ls 13 [(0, .ref (ad 48)), (1, .ref (ad 3)), (2, .ref (ad 27)), (3, .long v3), (6, .long v6), (8, .int v8)] → ∀ {H : Heap} {locs : List Loc}, va_P D vwCl (GX cy ad tk sp nm tp kp cu se ur ab lo im sy un en ra li i2) H → va_S (Ac ad 89) s.heap H locs → W p l e ({ frames := 3, cells := 0, slots := 0, locals := 77 } : Room) s m args below meth c H locs 0 0 (MQ below (QR none D (GX cy ad tk sp nm tp kp q.1 se ur ab lo im sy q.2 en ra li i2) (Ac ad 89)) args s 0 0 (Ac ad 89)) (F0 m 85 ls [])) {v3 : Int64} {v6 : Int64} {v8 : Int32} {v9 : Int32} {v10 : Int32} (h : X4_readFiles_147 tp li k85 cu un v3 v6 v8 v9 v10 = some q) {ls : Array Slot} (hl : lv_has ls 13 [(0, .ref (ad 48)), (1, .ref (ad 3)), (2, .ref (ad 27)), (3, .long v3), (6, .long v6), (8, .int v8), (9, .int v9), (10, .int v10)]) {H : Heap} {locs : List Loc} (hP : va_P D vwCl (GX cy ad tk sp nm tp kp cu se ur ab lo im sy un en ra li i2) H) (hS : va_S (Ac ad 89) s.heap H locs) : W p l e ({ frames := 3, cells := 0, slots := 0, locals := 77 } : Room) s m args below meth c H locs 0 0 (MQ below (QR none D (GX cy ad tk sp nm tp kp q.1 se ur ab lo im sy q.2 en ra li i2) (Ac ad 89)) args s 0 0 (Ac ad 89)) (F0 m 147 ls []) := by
  obtain ⟨hx, hb, hml, hown, hts, hr, hlk⟩ := id C
  unfold X4_readFiles_147 at h
  refine lv_aload_n hx hb dX4_readFiles_147 rfl (lv_at hl 2 rfl) ?_
  refine lv_aload_n hx hb dX4_readFiles_148 rfl (lv_at hl 0 rfl) ?_
  refine gX48_12 (v := li.2.2.2.2.2.2.2.2.2.2.2.2.1) C hK hP rfl w402 dX4_readFiles_149 ?_
  refine lv_iload hx hb dX4_readFiles_152 (lv_at hl 6 rfl) ?_
  refine lv_iload hx hb dX4_readFiles_154 (lv_at hl 7 rfl) ?_
  obtain ⟨q1, h2, h⟩ := lets h
  refine cRv (run_V (rest := []) C (kX10_addFile hI h2) caX10_addFile w1047 ⟨rfl, rfl, Nat.le_of_ble_eq_true rfl, Nat.le_of_ble_eq_true rfl⟩ hK hN hP (rX27 hK hP) rfl hl.1 rfl (Nat.le_of_ble_eq_true rfl) dX4_readFiles_156 ⟨Nat.zero_le _, Nat.zero_le _⟩) hS (fun H locs hP hS => ?_)
  have hP : va_P D vwCl (GX cy ad tk sp nm tp kp cu se ur ab lo im sy q1 en ra li i2) H := hP
  refine lv_iinc (v := (v8 + (1 : Int32))) (lv' := [(8, .int (v8 + (1 : Int32))), (0, .ref (ad 48)), (1, .ref (ad 3)), (2, .ref (ad 27)), (3, .long v3), (6, .long v6), (9, .int v9), (10, .int v10)]) hx hb dX4_readFiles_159 hl (k := 5) rfl rfl (by decide) rfl (fun ls hl => ?_)
  refine lv_goto (tgt := 85) hx hb dX4_readFiles_162 (by decide) ?_
  exact hk85 h (lv_sub hl [1, 2, 3, 4, 5, 0] rfl) hP hS
def X4_readFiles_140 (tp : Ttp) (li : Tli) (k85 : Tcu → Tun → Int64 → Int64 → Int32 → Option (Tcu × Tun)) (cu : Tcu) (un : Tun) (v3 : Int64) (v6 : Int64) (v8 : Int32) (v9 : Int32) (v10 : Int32) : Option (Tcu × Tun) := (letq (X1_refuse cu (3 : Int32) v9) fun q1 => X4_readFiles_147 tp li k85 q1 un v3 v6 v8 v9 v10)
set_option maxRecDepth 20000 in
theorem bX4_readFiles_140 (C : Cx p s m args meth c cX4_readFiles 13 none RX4 (.code yX4_readFiles cX4_readFiles 13 none)) (hI : Apart ad 89) (hK : va_K D vwCl (tysX cy) s) (hN : NW s) {k85 : Tcu → Tun → Int64 → Int64 → Int32 → Option (Tcu × Tun)} {q : Tcu × Tun} (hk85 : ∀ {cu : Tcu} {un : Tun} {v3 : Int64} {v6 : Int64} {v8 : Int32}, k85 cu un v3 v6 v8 = some q → ∀ {ls : Array Slot}, lv_has ls 13 [(0, .ref (ad 48)), (1, .ref (ad 3)), (2, .ref (ad 27)), (3, .long v3), (6, .long v6), (8, .int v8)] → ∀ {H : Heap} {locs : List Loc}, va_P D vwCl (GX cy ad tk sp nm tp kp cu se ur ab lo im sy un en ra li i2) H → va_S (Ac ad 89) s.heap H locs → W p l e ({ frames := 3, cells := 0, slots := 0, locals := 77 } : Room) s m args below meth c H locs 0 0 (MQ below (QR none D (GX cy ad tk sp nm tp kp q.1 se ur ab lo im sy q.2 en ra li i2) (Ac ad 89)) args s 0 0 (Ac ad 89)) (F0 m 85 ls [])) {v3 : Int64} {v6 : Int64} {v8 : Int32} {v9 : Int32} {v10 : Int32} (h : X4_readFiles_140 tp li k85 cu un v3 v6 v8 v9 v10 = some q) {ls : Array Slot} (hl : lv_has ls 13 [(0, .ref (ad 48)), (1, .ref (ad 3)), (2, .ref (ad 27)), (3, .long v3), (6, .long v6), (8, .int v8), (9, .int v9), (10, .int v10)]) {H : Heap} {locs : List Loc} (hP : va_P D vwCl (GX cy ad tk sp nm tp kp cu se ur ab lo im sy un en ra li i2) H) (hS : va_S (Ac ad 89) s.heap H locs) : W p l e ({ frames := 3, cells := 0, slots := 0, locals := 77 } : Room) s m args below meth c H locs 0 0 (MQ below (QR none D (GX cy ad tk sp nm tp kp q.1 se ur ab lo im sy q.2 en ra li i2) (Ac ad 89)) args s 0 0 (Ac ad 89)) (F0 m 140 ls []) := by
  obtain ⟨hx, hb, hml, hown, hts, hr, hlk⟩ := id C
  unfold X4_readFiles_140 at h
  refine lv_aload_n hx hb dX4_readFiles_140 rfl (lv_at hl 1 rfl) ?_
  refine lv_iconst (v := (3 : Int32)) hx hb dX4_readFiles_141 (by decide) ?_
  refine lv_iload hx hb dX4_readFiles_142 (lv_at hl 6 rfl) ?_
  obtain ⟨q1, h2, h⟩ := lets h
  refine cRv (run_V (rest := []) C (kX1_refuse hI h2) caX1_refuse w1001 ⟨rfl, rfl, Nat.le_of_ble_eq_true rfl, Nat.le_of_ble_eq_true rfl⟩ hK hN hP (rX3 hK hP) rfl hl.1 rfl (Nat.le_of_ble_eq_true rfl) dX4_readFiles_144 ⟨Nat.zero_le _, Nat.zero_le _⟩) hS (fun H locs hP hS => ?_)
  have hP : va_P D vwCl (GX cy ad tk sp nm tp kp q1 se ur ab lo im sy un en ra li i2) H := hP
  exact bX4_readFiles_147 C hI hK hN @hk85 h (lv_sub hl [0, 1, 2, 3, 4, 5, 6, 7] rfl) hP hS
def X4_readFiles_85b (tp : Ttp) (li : Tli)  (k85 : Tcu → Tun → Int64 → Int64 → Int32 → Option (Tcu × Tun)) (cu : Tcu) (un : Tun) (v3 : Int64) (v6 : Int64) (v8 : Int32) : Option (Tcu × Tun) := (if v8 < (40 : Int32) then (if ((v8).toInt64) < v6 then (if (X1_sound cu) = 0 then some (cu, un) else ((X1_text tp cu).bind fun q4 => ((X1_uleb tp q4.2).bind fun q6 => (if q6.1 < (0 : Int64) then X4_readFiles_140 tp li k85 q6.2 un v3 v6 v8 (X1_place cu) q4.1 else (if q6.1 < v3 then X4_readFiles_147 tp li k85 q6.2 un v3 v6 v8 (X1_place cu) q4.1 else X4_readFiles_140 tp li k85 q6.2 un v3 v6 v8 (X1_place cu) q4.1))))) else some (cu, un)) else some (cu, un))
def X4_readFiles_85 (tp : Ttp) (li : Tli)  (n : Nat) (st : Tcu × Tun × Int64 × Int64 × Int32) : Option (Tcu × Tun) := lp (fun rec st => X4_readFiles_85b tp li  (fun a0 a1 a2 a3 a4 => rec (a0, a1, a2, a3, a4)) st.1 st.2.1 st.2.2.1 st.2.2.2.1 st.2.2.2.2) n st
set_option maxRecDepth 20000 in
theorem bX4_readFiles_85 (C : Cx p s m args meth c cX4_readFiles 13 none RX4 (.code yX4_readFiles cX4_readFiles 13 none)) (hI : Apart ad 89) (hK : va_K D vwCl (tysX cy) s) (hN : NW s)  {q : Tcu × Tun}  : ∀ (n : Nat) {cu : Tcu} {un : Tun} {v3 : Int64} {v6 : Int64} {v8 : Int32}, X4_readFiles_85 tp li  n (cu, un, v3, v6, v8) = some q → ∀ {ls : Array Slot}, lv_has ls 13 [(0, .ref (ad 48)), (1, .ref (ad 3)), (2, .ref (ad 27)), (3, .long v3), (6, .long v6), (8, .int v8)] → ∀ {H : Heap} {locs : List Loc}, va_P D vwCl (GX cy ad tk sp nm tp kp cu se ur ab lo im sy un en ra li i2) H → va_S (Ac ad 89) s.heap H locs → W p l e ({ frames := 3, cells := 0, slots := 0, locals := 77 } : Room) s m args below meth c H locs 0 0 (MQ below (QR none D (GX cy ad tk sp nm tp kp q.1 se ur ab lo im sy q.2 en ra li i2) (Ac ad 89)) args s 0 0 (Ac ad 89)) (F0 m 85 ls []) := by
  obtain ⟨hx, hb, hml, hown, hts, hr, hlk⟩ := id C
  intro n
  induction n with
  | zero =>
    intro cu un v3 v6 v8 h ls hl H locs hP hS
    have h : (none : Option (Tcu × Tun)) = some q := h
    cases h
  | succ n ih =>
    intro cu un v3 v6 v8 h ls hl H locs hP hS
    have h : X4_readFiles_85b tp li  (fun a0 a1 a2 a3 a4 => X4_readFiles_85 tp li  n (a0, a1, a2, a3, a4)) cu un v3 v6 v8 = some q := h
    unfold X4_readFiles_85b at h
    refine lv_iload hx hb dX4_readFiles_85 (lv_at hl 5 rfl) ?_
    refine lv_bipush (v := (40 : Int32)) hx hb dX4_readFiles_87 (by decide) ?_
    refine b_icmp_ge (tgt := 165) hx hb dX4_readFiles_89 (by decide) (fun c1 => ?_) (fun c1 => ?_)
    · rw [if_neg c1] at h
      obtain rfl := Option.some.inj h
      exact W.vret hx hb hr (fun t ht _ => ⟨rfl, by rw [ht]; exact hP, hS.F ht⟩) hS.2.2 dX4_readFiles_165 hlk
    · rw [if_pos c1] at h
      refine lv_iload hx hb dX4_readFiles_92 (lv_at hl 5 rfl) ?_
      refine lv_i2l (v := ((v8).toInt64)) hx hb dX4_readFiles_94 rfl ?_
      refine lv_lload hx hb dX4_readFiles_95 (lv_at hl 4 rfl) ?_
      refine lc_ge (tgt := 165) hx hb dX4_readFiles_97 dX4_readFiles_98 (by decide) (fun c2 => ?_) (fun c2 => ?_)
      · rw [if_neg c2] at h
        obtain rfl := Option.some.inj h
        exact W.vret hx hb hr (fun t ht _ => ⟨rfl, by rw [ht]; exact hP, hS.F ht⟩) hS.2.2 dX4_readFiles_165 hlk
      · rw [if_pos c2] at h
        refine lv_aload_n hx hb dX4_readFiles_101 rfl (lv_at hl 1 rfl) ?_
        refine cPi (run_V (rest := []) C (kX1_sound rfl) caX1_sound w988 ⟨rfl, rfl, Nat.le_of_ble_eq_true rfl, Nat.le_of_ble_eq_true rfl⟩ hK hN hP (rX3 hK hP) rfl hl.1 rfl (Nat.le_of_ble_eq_true rfl) dX4_readFiles_102 ⟨Nat.zero_le _, Nat.zero_le _⟩) ?_
        refine lv_if_eq (tgt := 165) hx hb dX4_readFiles_105 (by decide) (fun c3 => ?_) (fun c3 => ?_)
        · rw [if_pos c3] at h
          obtain rfl := Option.some.inj h
          exact W.vret hx hb hr (fun t ht _ => ⟨rfl, by rw [ht]; exact hP, hS.F ht⟩) hS.2.2 dX4_readFiles_165 hlk
        · rw [if_neg c3] at h
          refine lv_aload_n hx hb dX4_readFiles_108 rfl (lv_at hl 1 rfl) ?_
          refine cPi (run_V (rest := []) C (kX1_place rfl) caX1_place w1011 ⟨rfl, rfl, Nat.le_of_ble_eq_true rfl, Nat.le_of_ble_eq_true rfl⟩ hK hN hP (rX3 hK hP) rfl hl.1 rfl (Nat.le_of_ble_eq_true rfl) dX4_readFiles_109 ⟨Nat.zero_le _, Nat.zero_le _⟩) ?_
          refine lv_istore (lv' := [(9, .int (X1_place cu)), (0, .ref (ad 48)), (1, .ref (ad 3)), (2, .ref (ad 27)), (3, .long v3), (6, .long v6), (8, .int v8)]) hx hb dX4_readFiles_112 hl (by decide) rfl (fun ls hl => ?_)
          refine lv_aload_n hx hb dX4_readFiles_114 rfl (lv_at hl 2 rfl) ?_
          obtain ⟨q4, h5, h⟩ := bnd h
          refine cRi (run_V (rest := []) C (kX1_text hI h5) caX1_text w1032 ⟨rfl, rfl, Nat.le_of_ble_eq_true rfl, Nat.le_of_ble_eq_true rfl⟩ hK hN hP (rX3 hK hP) rfl hl.1 rfl (Nat.le_of_ble_eq_true rfl) dX4_readFiles_115 ⟨Nat.zero_le _, Nat.zero_le _⟩) hS (fun H locs hP hS => ?_)
          have hP : va_P D vwCl (GX cy ad tk sp nm tp kp q4.2 se ur ab lo im sy un en ra li i2) H := hP
          refine lv_istore (lv' := [(10, .int q4.1), (9, .int (X1_place cu)), (0, .ref (ad 48)), (1, .ref (ad 3)), (2, .ref (ad 27)), (3, .long v3), (6, .long v6), (8, .int v8)]) hx hb dX4_readFiles_118 hl (by decide) rfl (fun ls hl => ?_)
          refine lv_aload_n hx hb dX4_readFiles_120 rfl (lv_at hl 3 rfl) ?_
          obtain ⟨q6, h7, h⟩ := bnd h
          refine cRl (run_V (rest := []) C (kX1_uleb hI h7) caX1_uleb w1031 ⟨rfl, rfl, Nat.le_of_ble_eq_true rfl, Nat.le_of_ble_eq_true rfl⟩ hK hN hP (rX3 hK hP) rfl hl.1 rfl (Nat.le_of_ble_eq_true rfl) dX4_readFiles_121 ⟨Nat.zero_le _, Nat.zero_le _⟩) hS (fun H locs hP hS => ?_)
          have hP : va_P D vwCl (GX cy ad tk sp nm tp kp q6.2 se ur ab lo im sy un en ra li i2) H := hP
          refine lv_lstore (lv' := [(11, .long q6.1), (10, .int q4.1), (9, .int (X1_place cu)), (0, .ref (ad 48)), (1, .ref (ad 3)), (2, .ref (ad 27)), (3, .long v3), (6, .long v6), (8, .int v8)]) hx hb dX4_readFiles_124 hl (by decide) rfl (fun ls hl => ?_)
          refine lv_lload hx hb dX4_readFiles_126 (lv_at hl 0 rfl) ?_
          refine lv_lconst (v := (0 : Int64)) hx hb dX4_readFiles_128 (by decide) ?_
          refine lc_lt (tgt := 140) hx hb dX4_readFiles_129 dX4_readFiles_130 (by decide) (fun c8 => ?_) (fun c8 => ?_)
          · rw [if_pos c8] at h
            exact bX4_readFiles_140 C hI hK hN @ih h (lv_sub hl [3, 4, 5, 6, 7, 8, 2, 1] rfl) hP hS
          · rw [if_neg c8] at h
            refine lv_lload hx hb dX4_readFiles_133 (lv_at hl 0 rfl) ?_
            refine lv_lload_n hx hb dX4_readFiles_135 rfl (lv_at hl 6 rfl) ?_
            refine lc_lt (tgt := 147) hx hb dX4_readFiles_136 dX4_readFiles_137 (by decide) (fun c9 => ?_) (fun c9 => ?_)
            · rw [if_pos c9] at h
              exact bX4_readFiles_147 C hI hK hN @ih h (lv_sub hl [3, 4, 5, 6, 7, 8, 2, 1] rfl) hP hS
            · rw [if_neg c9] at h
              exact bX4_readFiles_140 C hI hK hN @ih h (lv_sub hl [3, 4, 5, 6, 7, 8, 2, 1] rfl) hP hS
def X4_readFiles_74 (tp : Ttp) (li : Tli)  (cu : Tcu) (un : Tun) (v3 : Int64) (v6 : Int64) : Option (Tcu × Tun) := (letq (X10_beginFiles un li.2.2.2.2.2.2.2.2.2.2.2.2.1) fun q1 => X4_readFiles_85 tp li FU (cu, q1, v3, v6, (0 : Int32)))
set_option maxRecDepth 20000 in
theorem bX4_readFiles_74 (C : Cx p s m args meth c cX4_readFiles 13 none RX4 (.code yX4_readFiles cX4_readFiles 13 none)) (hI : Apart ad 89) (hK : va_K D vwCl (tysX cy) s) (hN : NW s)  {q : Tcu × Tun}  {v3 : Int64} {v6 : Int64} (h : X4_readFiles_74 tp li cu un v3 v6 = some q) {ls : Array Slot} (hl : lv_has ls 13 [(0, .ref (ad 48)), (1, .ref (ad 3)), (2, .ref (ad 27)), (3, .long v3), (6, .long v6)]) {H : Heap} {locs : List Loc} (hP : va_P D vwCl (GX cy ad tk sp nm tp kp cu se ur ab lo im sy un en ra li i2) H) (hS : va_S (Ac ad 89) s.heap H locs) : W p l e ({ frames := 3, cells := 0, slots := 0, locals := 77 } : Room) s m args below meth c H locs 0 0 (MQ below (QR none D (GX cy ad tk sp nm tp kp q.1 se ur ab lo im sy q.2 en ra li i2) (Ac ad 89)) args s 0 0 (Ac ad 89)) (F0 m 74 ls []) := by
  obtain ⟨hx, hb, hml, hown, hts, hr, hlk⟩ := id C
  unfold X4_readFiles_74 at h
  refine lv_aload_n hx hb dX4_readFiles_74 rfl (lv_at hl 2 rfl) ?_
  refine lv_aload_n hx hb dX4_readFiles_75 rfl (lv_at hl 0 rfl) ?_
  refine gX48_12 (v := li.2.2.2.2.2.2.2.2.2.2.2.2.1) C hK hP rfl w402 dX4_readFiles_76 ?_
  obtain ⟨q1, h2, h⟩ := lets h
  refine cRv (run_V (rest := []) C (kX10_beginFiles hI h2) caX10_beginFiles w1043 ⟨rfl, rfl, Nat.le_of_ble_eq_true rfl, Nat.le_of_ble_eq_true rfl⟩ hK hN hP (rX27 hK hP) rfl hl.1 rfl (Nat.le_of_ble_eq_true rfl) dX4_readFiles_79 ⟨Nat.zero_le _, Nat.zero_le _⟩) hS (fun H locs hP hS => ?_)
  have hP : va_P D vwCl (GX cy ad tk sp nm tp kp cu se ur ab lo im sy q1 en ra li i2) H := hP
  refine lv_iconst (v := (0 : Int32)) hx hb dX4_readFiles_82 (by decide) ?_
  refine lv_istore (lv' := [(8, .int (0 : Int32)), (0, .ref (ad 48)), (1, .ref (ad 3)), (2, .ref (ad 27)), (3, .long v3), (6, .long v6)]) hx hb dX4_readFiles_83 hl (by decide) rfl (fun ls hl => ?_)
  exact bX4_readFiles_85 C hI hK hN FU h (lv_sub hl [1, 2, 3, 4, 5, 0] rfl) hP hS
def X4_readFiles_67 (tp : Ttp) (li : Tli)  (cu : Tcu) (un : Tun) (v3 : Int64) (v5 : Int32) (v6 : Int64) : Option (Tcu × Tun) := (letq (X1_refuse cu (4 : Int32) v5) fun q1 => X4_readFiles_74 tp li q1 un v3 v6)
set_option maxRecDepth 20000 in
theorem bX4_readFiles_67 (C : Cx p s m args meth c cX4_readFiles 13 none RX4 (.code yX4_readFiles cX4_readFiles 13 none)) (hI : Apart ad 89) (hK : va_K D vwCl (tysX cy) s) (hN : NW s)  {q : Tcu × Tun}  {v3 : Int64} {v5 : Int32} {v6 : Int64} (h : X4_readFiles_67 tp li cu un v3 v5 v6 = some q) {ls : Array Slot} (hl : lv_has ls 13 [(0, .ref (ad 48)), (1, .ref (ad 3)), (2, .ref (ad 27)), (3, .long v3), (5, .int v5), (6, .long v6)]) {H : Heap} {locs : List Loc} (hP : va_P D vwCl (GX cy ad tk sp nm tp kp cu se ur ab lo im sy un en ra li i2) H) (hS : va_S (Ac ad 89) s.heap H locs) : W p l e ({ frames := 3, cells := 0, slots := 0, locals := 77 } : Room) s m args below meth c H locs 0 0 (MQ below (QR none D (GX cy ad tk sp nm tp kp q.1 se ur ab lo im sy q.2 en ra li i2) (Ac ad 89)) args s 0 0 (Ac ad 89)) (F0 m 67 ls []) := by
  obtain ⟨hx, hb, hml, hown, hts, hr, hlk⟩ := id C
  unfold X4_readFiles_67 at h
  refine lv_aload_n hx hb dX4_readFiles_67 rfl (lv_at hl 1 rfl) ?_
  refine lv_iconst (v := (4 : Int32)) hx hb dX4_readFiles_68 (by decide) ?_
  refine lv_iload hx hb dX4_readFiles_69 (lv_at hl 4 rfl) ?_
  obtain ⟨q1, h2, h⟩ := lets h
  refine cRv (run_V (rest := []) C (kX1_refuse hI h2) caX1_refuse w1001 ⟨rfl, rfl, Nat.le_of_ble_eq_true rfl, Nat.le_of_ble_eq_true rfl⟩ hK hN hP (rX3 hK hP) rfl hl.1 rfl (Nat.le_of_ble_eq_true rfl) dX4_readFiles_71 ⟨Nat.zero_le _, Nat.zero_le _⟩) hS (fun H locs hP hS => ?_)
  have hP : va_P D vwCl (GX cy ad tk sp nm tp kp q1 se ur ab lo im sy un en ra li i2) H := hP
  exact bX4_readFiles_74 C hI hK hN h (lv_sub hl [0, 1, 2, 3, 5] rfl) hP hS
def X4_readFiles (tp : Ttp) (cu : Tcu) (un : Tun) (li : Tli) (v3 : Int64) : Option (Tcu × Tun) := ((X1_numberBetween tp cu (1 : Int32) (2 : Int32) (2 : Int32)).bind fun q1 => ((X1_expectUleb tp q1.2 (1 : Int64)).bind fun q3 => ((X1_expectUleb tp q3 (8 : Int64)).bind fun q5 => ((X1_expectUleb tp q5 (2 : Int64)).bind fun q7 => ((X1_expectUleb tp q7 (15 : Int64)).bind fun q9 => ((X1_uleb tp q9).bind fun q11 => (if q11.1 < (0 : Int64) then X4_readFiles_67 tp li q11.2 un v3 (X1_place q9) q11.1 else (if ((((40 : Int32) - (X10_fileTotal un))).toInt64) < q11.1 then X4_readFiles_67 tp li q11.2 un v3 (X1_place q9) q11.1 else X4_readFiles_74 tp li q11.2 un v3 q11.1))))))))
set_option maxRecDepth 20000 in
theorem bX4_readFiles_0 (C : Cx p s m args meth c cX4_readFiles 13 none RX4 (.code yX4_readFiles cX4_readFiles 13 none)) (hI : Apart ad 89) (hK : va_K D vwCl (tysX cy) s) (hN : NW s)  {q : Tcu × Tun}  {v3 : Int64} (h : X4_readFiles tp cu un li v3 = some q) {ls : Array Slot} (hl : lv_has ls 13 [(0, .ref (ad 48)), (1, .ref (ad 3)), (2, .ref (ad 27)), (3, .long v3)]) {H : Heap} {locs : List Loc} (hP : va_P D vwCl (GX cy ad tk sp nm tp kp cu se ur ab lo im sy un en ra li i2) H) (hS : va_S (Ac ad 89) s.heap H locs) : W p l e ({ frames := 3, cells := 0, slots := 0, locals := 77 } : Room) s m args below meth c H locs 0 0 (MQ below (QR none D (GX cy ad tk sp nm tp kp q.1 se ur ab lo im sy q.2 en ra li i2) (Ac ad 89)) args s 0 0 (Ac ad 89)) (F0 m 0 ls []) := by
  obtain ⟨hx, hb, hml, hown, hts, hr, hlk⟩ := id C
  unfold X4_readFiles at h
  refine lv_aload_n hx hb dX4_readFiles_0 rfl (lv_at hl 1 rfl) ?_
  refine lv_iconst (v := (1 : Int32)) hx hb dX4_readFiles_1 (by decide) ?_
  refine lv_iconst (v := (2 : Int32)) hx hb dX4_readFiles_2 (by decide) ?_
  refine lv_iconst (v := (2 : Int32)) hx hb dX4_readFiles_3 (by decide) ?_
  obtain ⟨q1, h2, h⟩ := bnd h
  refine cRi (run_V (rest := []) C (kX1_numberBetween hI h2) caX1_numberBetween w1010 ⟨rfl, rfl, Nat.le_of_ble_eq_true rfl, Nat.le_of_ble_eq_true rfl⟩ hK hN hP (rX3 hK hP) rfl hl.1 rfl (Nat.le_of_ble_eq_true rfl) dX4_readFiles_4 ⟨Nat.zero_le _, Nat.zero_le _⟩) hS (fun H locs hP hS => ?_)
  have hP : va_P D vwCl (GX cy ad tk sp nm tp kp q1.2 se ur ab lo im sy un en ra li i2) H := hP
  refine lv_pop hx hb dX4_readFiles_7 rfl ?_
  refine lv_aload_n hx hb dX4_readFiles_8 rfl (lv_at hl 1 rfl) ?_
  refine lv_lconst (v := (1 : Int64)) hx hb dX4_readFiles_9 (by decide) ?_
  obtain ⟨q3, h4, h⟩ := bnd h
  refine cRv (run_V (rest := []) C (kX1_expectUleb hI h4) caX1_expectUleb w1026 ⟨rfl, rfl, Nat.le_of_ble_eq_true rfl, Nat.le_of_ble_eq_true rfl⟩ hK hN hP (rX3 hK hP) rfl hl.1 rfl (Nat.le_of_ble_eq_true rfl) dX4_readFiles_10 ⟨Nat.zero_le _, Nat.zero_le _⟩) hS (fun H locs hP hS => ?_)
  have hP : va_P D vwCl (GX cy ad tk sp nm tp kp q3 se ur ab lo im sy un en ra li i2) H := hP
  refine lv_aload_n hx hb dX4_readFiles_13 rfl (lv_at hl 1 rfl) ?_
  refine lv_ldc2 (v := (8 : Int64)) hx hb hown (hts _ (List.mem_cons_of_mem _ w1030)) dX4_readFiles_14 ?_
  obtain ⟨q5, h6, h⟩ := bnd h
  refine cRv (run_V (rest := []) C (kX1_expectUleb hI h6) caX1_expectUleb w1026 ⟨rfl, rfl, Nat.le_of_ble_eq_true rfl, Nat.le_of_ble_eq_true rfl⟩ hK hN hP (rX3 hK hP) rfl hl.1 rfl (Nat.le_of_ble_eq_true rfl) dX4_readFiles_17 ⟨Nat.zero_le _, Nat.zero_le _⟩) hS (fun H locs hP hS => ?_)
  have hP : va_P D vwCl (GX cy ad tk sp nm tp kp q5 se ur ab lo im sy un en ra li i2) H := hP
  refine lv_aload_n hx hb dX4_readFiles_20 rfl (lv_at hl 1 rfl) ?_
  refine lv_ldc2 (v := (2 : Int64)) hx hb hown (hts _ (List.mem_cons_of_mem _ w1037)) dX4_readFiles_21 ?_
  obtain ⟨q7, h8, h⟩ := bnd h
  refine cRv (run_V (rest := []) C (kX1_expectUleb hI h8) caX1_expectUleb w1026 ⟨rfl, rfl, Nat.le_of_ble_eq_true rfl, Nat.le_of_ble_eq_true rfl⟩ hK hN hP (rX3 hK hP) rfl hl.1 rfl (Nat.le_of_ble_eq_true rfl) dX4_readFiles_24 ⟨Nat.zero_le _, Nat.zero_le _⟩) hS (fun H locs hP hS => ?_)
  have hP : va_P D vwCl (GX cy ad tk sp nm tp kp q7 se ur ab lo im sy un en ra li i2) H := hP
  refine lv_aload_n hx hb dX4_readFiles_27 rfl (lv_at hl 1 rfl) ?_
  refine lv_ldc2 (v := (15 : Int64)) hx hb hown (hts _ (List.mem_cons_of_mem _ w1038)) dX4_readFiles_28 ?_
  obtain ⟨q9, h10, h⟩ := bnd h
  refine cRv (run_V (rest := []) C (kX1_expectUleb hI h10) caX1_expectUleb w1026 ⟨rfl, rfl, Nat.le_of_ble_eq_true rfl, Nat.le_of_ble_eq_true rfl⟩ hK hN hP (rX3 hK hP) rfl hl.1 rfl (Nat.le_of_ble_eq_true rfl) dX4_readFiles_31 ⟨Nat.zero_le _, Nat.zero_le _⟩) hS (fun H locs hP hS => ?_)
  have hP : va_P D vwCl (GX cy ad tk sp nm tp kp q9 se ur ab lo im sy un en ra li i2) H := hP
  refine lv_aload_n hx hb dX4_readFiles_34 rfl (lv_at hl 1 rfl) ?_
  refine cPi (run_V (rest := []) C (kX1_place rfl) caX1_place w1011 ⟨rfl, rfl, Nat.le_of_ble_eq_true rfl, Nat.le_of_ble_eq_true rfl⟩ hK hN hP (rX3 hK hP) rfl hl.1 rfl (Nat.le_of_ble_eq_true rfl) dX4_readFiles_35 ⟨Nat.zero_le _, Nat.zero_le _⟩) ?_
  refine lv_istore (lv' := [(5, .int (X1_place q9)), (0, .ref (ad 48)), (1, .ref (ad 3)), (2, .ref (ad 27)), (3, .long v3)]) hx hb dX4_readFiles_38 hl (by decide) rfl (fun ls hl => ?_)
  refine lv_aload_n hx hb dX4_readFiles_40 rfl (lv_at hl 2 rfl) ?_
  obtain ⟨q11, h12, h⟩ := bnd h
  refine cRl (run_V (rest := []) C (kX1_uleb hI h12) caX1_uleb w1031 ⟨rfl, rfl, Nat.le_of_ble_eq_true rfl, Nat.le_of_ble_eq_true rfl⟩ hK hN hP (rX3 hK hP) rfl hl.1 rfl (Nat.le_of_ble_eq_true rfl) dX4_readFiles_41 ⟨Nat.zero_le _, Nat.zero_le _⟩) hS (fun H locs hP hS => ?_)
  have hP : va_P D vwCl (GX cy ad tk sp nm tp kp q11.2 se ur ab lo im sy un en ra li i2) H := hP
  refine lv_lstore (lv' := [(6, .long q11.1), (5, .int (X1_place q9)), (0, .ref (ad 48)), (1, .ref (ad 3)), (2, .ref (ad 27)), (3, .long v3)]) hx hb dX4_readFiles_44 hl (by decide) rfl (fun ls hl => ?_)
  refine lv_lload hx hb dX4_readFiles_46 (lv_at hl 0 rfl) ?_
  refine lv_lconst (v := (0 : Int64)) hx hb dX4_readFiles_48 (by decide) ?_
  refine lc_lt (tgt := 67) hx hb dX4_readFiles_49 dX4_readFiles_50 (by decide) (fun c13 => ?_) (fun c13 => ?_)
  · rw [if_pos c13] at h
    exact bX4_readFiles_67 C hI hK hN h (lv_sub hl [2, 3, 4, 5, 1, 0] rfl) hP hS
  · rw [if_neg c13] at h
    refine lv_lload hx hb dX4_readFiles_53 (lv_at hl 0 rfl) ?_
    refine lv_bipush (v := (40 : Int32)) hx hb dX4_readFiles_55 (by decide) ?_
    refine lv_aload_n hx hb dX4_readFiles_57 rfl (lv_at hl 4 rfl) ?_
    refine cPi (run_V (rest := [.int (40 : Int32), .long q11.1]) C (kX10_fileTotal rfl) caX10_fileTotal w1039 ⟨rfl, rfl, Nat.le_of_ble_eq_true rfl, Nat.le_of_ble_eq_true rfl⟩ hK hN hP (rX27 hK hP) rfl hl.1 rfl (Nat.le_of_ble_eq_true rfl) dX4_readFiles_58 ⟨Nat.zero_le _, Nat.zero_le _⟩) ?_
    refine lv_isub hx hb dX4_readFiles_61 ?_
    refine lv_i2l (v := ((((40 : Int32) - (X10_fileTotal un))).toInt64)) hx hb dX4_readFiles_62 rfl ?_
    refine lc_le (tgt := 74) hx hb dX4_readFiles_63 dX4_readFiles_64 (by decide) (fun c14 => ?_) (fun c14 => ?_)
    · rw [if_neg c14] at h
      exact bX4_readFiles_74 C hI hK hN h (lv_sub hl [2, 3, 4, 5, 0] rfl) hP hS
    · rw [if_pos c14] at h
      exact bX4_readFiles_67 C hI hK hN h (lv_sub hl [2, 3, 4, 5, 1, 0] rfl) hP hS
theorem kX4_readFiles (hI : Apart ad 89) {v3 : Int64} {q : Tcu × Tun} (h : X4_readFiles tp cu un li v3 = some q) : Met l yX4_readFiles (.code yX4_readFiles cX4_readFiles 13 none :: WA) ({ frames := 3, cells := 0, slots := 0, locals := 77 } : Room) (va_Pc [.ref (ad 48), .ref (ad 3), .ref (ad 27), .long v3] (PR D cy (GX cy ad tk sp nm tp kp cu se ur ab lo im sy un en ra li i2))) (QR none D (GX cy ad tk sp nm tp kp q.1 se ur ab lo im sy q.2 en ra li i2) (Ac ad 89)) 0 0 (Ac ad 89) :=
  met_of (by decide) (Nat.le_of_ble_eq_true rfl) (fun p e s m below meth c ls C hP hK hN hl => bX4_readFiles_0 C hI hK hN h hl hP va_S.rf)
def X4_readHead_73 (tp : Ttp)  (cu : Tcu) (li : Tli)  : Option (Tcu × Tli) := ((X1_number tp cu (1 : Int32)).bind fun q1 => ((X1_numberBetween tp q1.2 (1 : Int32) (1 : Int32) (1 : Int32)).bind fun q3 => ((X1_numberBetween tp q3.2 (1 : Int32) (0 : Int32) (1 : Int32)).bind fun q5 => ((X1_number tp q5.2 (1 : Int32)).bind fun q7 => ((X1_numberBetween tp q7.2 (1 : Int32) (1 : Int32) (255 : Int32)).bind fun q9 => ((X1_numberBetween tp q9.2 (1 : Int32) (10 : Int32) (20 : Int32)).bind fun q11 => some (q11.2, (li.1, li.2.1, li.2.2.1, li.2.2.2.1, li.2.2.2.2.1, li.2.2.2.2.2.1, ((q1.1).toInt32), ((((q7.1).toInt32)).toInt8.toInt32), q9.1, q11.1, li.2.2.2.2.2.2.2.2.2.2.1, li.2.2.2.2.2.2.2.2.2.2.2.1, li.2.2.2.2.2.2.2.2.2.2.2.2.1, li.2.2.2.2.2.2.2.2.2.2.2.2.2.1, li.2.2.2.2.2.2.2.2.2.2.2.2.2.2.1, li.2.2.2.2.2.2.2.2.2.2.2.2.2.2.2.1, li.2.2.2.2.2.2.2.2.2.2.2.2.2.2.2.2.1, li.2.2.2.2.2.2.2.2.2.2.2.2.2.2.2.2.2.1, li.2.2.2.2.2.2.2.2.2.2.2.2.2.2.2.2.2.2))))))))
set_option maxRecDepth 20000 in
theorem bX4_readHead_73 (C : Cx p s m args meth c cX4_readHead 5 none RX4 (.code yX4_readHead cX4_readHead 5 none)) (hI : Apart ad 89) (hK : va_K D vwCl (tysX cy) s) (hN : NW s)  {q : Tcu × Tli}   (h : X4_readHead_73 tp cu li = some q) {ls : Array Slot} (hl : lv_has ls 5 [(0, .ref (ad 48)), (1, .ref (ad 3))]) {H : Heap} {locs : List Loc} (hP : va_P D vwCl (GX cy ad tk sp nm tp kp cu se ur ab lo im sy un en ra li i2) H) (hS : va_S (Ac ad 89) s.heap H locs) : W p l e ({ frames := 3, cells := 0, slots := 0, locals := 77 } : Room) s m args below meth c H locs 0 0 (MQ below (QR none D (GX cy ad tk sp nm tp kp q.1 se ur ab lo im sy un en ra q.2 i2) (Ac ad 89)) args s 0 0 (Ac ad 89)) (F0 m 73 ls []) := by
  obtain ⟨hx, hb, hml, hown, hts, hr, hlk⟩ := id C
  unfold X4_readHead_73 at h
  refine lv_aload_n hx hb dX4_readHead_73 rfl (lv_at hl 0 rfl) ?_
  refine lv_aload_n hx hb dX4_readHead_74 rfl (lv_at hl 1 rfl) ?_
  refine lv_iconst (v := (1 : Int32)) hx hb dX4_readHead_75 (by decide) ?_
  obtain ⟨q1, h2, h⟩ := bnd h
  refine cRl (run_V (rest := [.ref (ad 48)]) C (kX1_number hI h2) caX1_number w1012 ⟨rfl, rfl, Nat.le_of_ble_eq_true rfl, Nat.le_of_ble_eq_true rfl⟩ hK hN hP (rX3 hK hP) rfl hl.1 rfl (Nat.le_of_ble_eq_true rfl) dX4_readHead_76 ⟨Nat.zero_le _, Nat.zero_le _⟩) hS (fun H locs hP hS => ?_)
  have hP : va_P D vwCl (GX cy ad tk sp nm tp kp q1.2 se ur ab lo im sy un en ra li i2) H := hP
  refine lv_l2i (v := ((q1.1).toInt32)) hx hb dX4_readHead_79 rfl ?_
  refine pX48_6 (v := ((q1.1).toInt32)) C hI hK hP hS w396 dX4_readHead_80 (fun H locs hP hS => ?_)
  have hP : va_P D vwCl (GX cy ad tk sp nm tp kp q1.2 se ur ab lo im sy un en ra (li.1, li.2.1, li.2.2.1, li.2.2.2.1, li.2.2.2.2.1, li.2.2.2.2.2.1, ((q1.1).toInt32), li.2.2.2.2.2.2.2.1, li.2.2.2.2.2.2.2.2.1, li.2.2.2.2.2.2.2.2.2.1, li.2.2.2.2.2.2.2.2.2.2.1, li.2.2.2.2.2.2.2.2.2.2.2.1, li.2.2.2.2.2.2.2.2.2.2.2.2.1, li.2.2.2.2.2.2.2.2.2.2.2.2.2.1, li.2.2.2.2.2.2.2.2.2.2.2.2.2.2.1, li.2.2.2.2.2.2.2.2.2.2.2.2.2.2.2.1, li.2.2.2.2.2.2.2.2.2.2.2.2.2.2.2.2.1, li.2.2.2.2.2.2.2.2.2.2.2.2.2.2.2.2.2.1, li.2.2.2.2.2.2.2.2.2.2.2.2.2.2.2.2.2.2) i2) H := hP
  refine lv_aload_n hx hb dX4_readHead_83 rfl (lv_at hl 1 rfl) ?_
  refine lv_iconst (v := (1 : Int32)) hx hb dX4_readHead_84 (by decide) ?_
  refine lv_iconst (v := (1 : Int32)) hx hb dX4_readHead_85 (by decide) ?_
  refine lv_iconst (v := (1 : Int32)) hx hb dX4_readHead_86 (by decide) ?_
  obtain ⟨q3, h4, h⟩ := bnd h
  refine cRi (run_V (rest := []) C (kX1_numberBetween hI h4) caX1_numberBetween w1010 ⟨rfl, rfl, Nat.le_of_ble_eq_true rfl, Nat.le_of_ble_eq_true rfl⟩ hK hN hP (rX3 hK hP) rfl hl.1 rfl (Nat.le_of_ble_eq_true rfl) dX4_readHead_87 ⟨Nat.zero_le _, Nat.zero_le _⟩) hS (fun H locs hP hS => ?_)
  have hP : va_P D vwCl (GX cy ad tk sp nm tp kp q3.2 se ur ab lo im sy un en ra (li.1, li.2.1, li.2.2.1, li.2.2.2.1, li.2.2.2.2.1, li.2.2.2.2.2.1, ((q1.1).toInt32), li.2.2.2.2.2.2.2.1, li.2.2.2.2.2.2.2.2.1, li.2.2.2.2.2.2.2.2.2.1, li.2.2.2.2.2.2.2.2.2.2.1, li.2.2.2.2.2.2.2.2.2.2.2.1, li.2.2.2.2.2.2.2.2.2.2.2.2.1, li.2.2.2.2.2.2.2.2.2.2.2.2.2.1, li.2.2.2.2.2.2.2.2.2.2.2.2.2.2.1, li.2.2.2.2.2.2.2.2.2.2.2.2.2.2.2.1, li.2.2.2.2.2.2.2.2.2.2.2.2.2.2.2.2.1, li.2.2.2.2.2.2.2.2.2.2.2.2.2.2.2.2.2.1, li.2.2.2.2.2.2.2.2.2.2.2.2.2.2.2.2.2.2) i2) H := hP
  refine lv_pop hx hb dX4_readHead_90 rfl ?_
  refine lv_aload_n hx hb dX4_readHead_91 rfl (lv_at hl 1 rfl) ?_
  refine lv_iconst (v := (1 : Int32)) hx hb dX4_readHead_92 (by decide) ?_
  refine lv_iconst (v := (0 : Int32)) hx hb dX4_readHead_93 (by decide) ?_
  refine lv_iconst (v := (1 : Int32)) hx hb dX4_readHead_94 (by decide) ?_
  obtain ⟨q5, h6, h⟩ := bnd h
  refine cRi (run_V (rest := []) C (kX1_numberBetween hI h6) caX1_numberBetween w1010 ⟨rfl, rfl, Nat.le_of_ble_eq_true rfl, Nat.le_of_ble_eq_true rfl⟩ hK hN hP (rX3 hK hP) rfl hl.1 rfl (Nat.le_of_ble_eq_true rfl) dX4_readHead_95 ⟨Nat.zero_le _, Nat.zero_le _⟩) hS (fun H locs hP hS => ?_)
  have hP : va_P D vwCl (GX cy ad tk sp nm tp kp q5.2 se ur ab lo im sy un en ra (li.1, li.2.1, li.2.2.1, li.2.2.2.1, li.2.2.2.2.1, li.2.2.2.2.2.1, ((q1.1).toInt32), li.2.2.2.2.2.2.2.1, li.2.2.2.2.2.2.2.2.1, li.2.2.2.2.2.2.2.2.2.1, li.2.2.2.2.2.2.2.2.2.2.1, li.2.2.2.2.2.2.2.2.2.2.2.1, li.2.2.2.2.2.2.2.2.2.2.2.2.1, li.2.2.2.2.2.2.2.2.2.2.2.2.2.1, li.2.2.2.2.2.2.2.2.2.2.2.2.2.2.1, li.2.2.2.2.2.2.2.2.2.2.2.2.2.2.2.1, li.2.2.2.2.2.2.2.2.2.2.2.2.2.2.2.2.1, li.2.2.2.2.2.2.2.2.2.2.2.2.2.2.2.2.2.1, li.2.2.2.2.2.2.2.2.2.2.2.2.2.2.2.2.2.2) i2) H := hP
  refine lv_pop hx hb dX4_readHead_98 rfl ?_
  refine lv_aload_n hx hb dX4_readHead_99 rfl (lv_at hl 0 rfl) ?_
  refine lv_aload_n hx hb dX4_readHead_100 rfl (lv_at hl 1 rfl) ?_
  refine lv_iconst (v := (1 : Int32)) hx hb dX4_readHead_101 (by decide) ?_
  obtain ⟨q7, h8, h⟩ := bnd h
  refine cRl (run_V (rest := [.ref (ad 48)]) C (kX1_number hI h8) caX1_number w1012 ⟨rfl, rfl, Nat.le_of_ble_eq_true rfl, Nat.le_of_ble_eq_true rfl⟩ hK hN hP (rX3 hK hP) rfl hl.1 rfl (Nat.le_of_ble_eq_true rfl) dX4_readHead_102 ⟨Nat.zero_le _, Nat.zero_le _⟩) hS (fun H locs hP hS => ?_)
  have hP : va_P D vwCl (GX cy ad tk sp nm tp kp q7.2 se ur ab lo im sy un en ra (li.1, li.2.1, li.2.2.1, li.2.2.2.1, li.2.2.2.2.1, li.2.2.2.2.2.1, ((q1.1).toInt32), li.2.2.2.2.2.2.2.1, li.2.2.2.2.2.2.2.2.1, li.2.2.2.2.2.2.2.2.2.1, li.2.2.2.2.2.2.2.2.2.2.1, li.2.2.2.2.2.2.2.2.2.2.2.1, li.2.2.2.2.2.2.2.2.2.2.2.2.1, li.2.2.2.2.2.2.2.2.2.2.2.2.2.1, li.2.2.2.2.2.2.2.2.2.2.2.2.2.2.1, li.2.2.2.2.2.2.2.2.2.2.2.2.2.2.2.1, li.2.2.2.2.2.2.2.2.2.2.2.2.2.2.2.2.1, li.2.2.2.2.2.2.2.2.2.2.2.2.2.2.2.2.2.1, li.2.2.2.2.2.2.2.2.2.2.2.2.2.2.2.2.2.2) i2) H := hP
  refine lv_l2i (v := ((q7.1).toInt32)) hx hb dX4_readHead_105 rfl ?_
  refine lv_i2b (v := ((((q7.1).toInt32)).toInt8.toInt32)) hx hb dX4_readHead_106 rfl ?_
  refine pX48_7 (v := ((((q7.1).toInt32)).toInt8.toInt32)) C hI hK hP hS w397 dX4_readHead_107 (fun H locs hP hS => ?_)
  have hP : va_P D vwCl (GX cy ad tk sp nm tp kp q7.2 se ur ab lo im sy un en ra (li.1, li.2.1, li.2.2.1, li.2.2.2.1, li.2.2.2.2.1, li.2.2.2.2.2.1, ((q1.1).toInt32), ((((q7.1).toInt32)).toInt8.toInt32), li.2.2.2.2.2.2.2.2.1, li.2.2.2.2.2.2.2.2.2.1, li.2.2.2.2.2.2.2.2.2.2.1, li.2.2.2.2.2.2.2.2.2.2.2.1, li.2.2.2.2.2.2.2.2.2.2.2.2.1, li.2.2.2.2.2.2.2.2.2.2.2.2.2.1, li.2.2.2.2.2.2.2.2.2.2.2.2.2.2.1, li.2.2.2.2.2.2.2.2.2.2.2.2.2.2.2.1, li.2.2.2.2.2.2.2.2.2.2.2.2.2.2.2.2.1, li.2.2.2.2.2.2.2.2.2.2.2.2.2.2.2.2.2.1, li.2.2.2.2.2.2.2.2.2.2.2.2.2.2.2.2.2.2) i2) H := hP
  refine lv_aload_n hx hb dX4_readHead_110 rfl (lv_at hl 0 rfl) ?_
  refine lv_aload_n hx hb dX4_readHead_111 rfl (lv_at hl 1 rfl) ?_
  refine lv_iconst (v := (1 : Int32)) hx hb dX4_readHead_112 (by decide) ?_
  refine lv_iconst (v := (1 : Int32)) hx hb dX4_readHead_113 (by decide) ?_
  refine lv_sipush (v := (255 : Int32)) hx hb dX4_readHead_114 (by decide) ?_
  obtain ⟨q9, h10, h⟩ := bnd h
  refine cRi (run_V (rest := [.ref (ad 48)]) C (kX1_numberBetween hI h10) caX1_numberBetween w1010 ⟨rfl, rfl, Nat.le_of_ble_eq_true rfl, Nat.le_of_ble_eq_true rfl⟩ hK hN hP (rX3 hK hP) rfl hl.1 rfl (Nat.le_of_ble_eq_true rfl) dX4_readHead_117 ⟨Nat.zero_le _, Nat.zero_le _⟩) hS (fun H locs hP hS => ?_)
  have hP : va_P D vwCl (GX cy ad tk sp nm tp kp q9.2 se ur ab lo im sy un en ra (li.1, li.2.1, li.2.2.1, li.2.2.2.1, li.2.2.2.2.1, li.2.2.2.2.2.1, ((q1.1).toInt32), ((((q7.1).toInt32)).toInt8.toInt32), li.2.2.2.2.2.2.2.2.1, li.2.2.2.2.2.2.2.2.2.1, li.2.2.2.2.2.2.2.2.2.2.1, li.2.2.2.2.2.2.2.2.2.2.2.1, li.2.2.2.2.2.2.2.2.2.2.2.2.1, li.2.2.2.2.2.2.2.2.2.2.2.2.2.1, li.2.2.2.2.2.2.2.2.2.2.2.2.2.2.1, li.2.2.2.2.2.2.2.2.2.2.2.2.2.2.2.1, li.2.2.2.2.2.2.2.2.2.2.2.2.2.2.2.2.1, li.2.2.2.2.2.2.2.2.2.2.2.2.2.2.2.2.2.1, li.2.2.2.2.2.2.2.2.2.2.2.2.2.2.2.2.2.2) i2) H := hP
  refine pX48_8 (v := q9.1) C hI hK hP hS w398 dX4_readHead_120 (fun H locs hP hS => ?_)
  have hP : va_P D vwCl (GX cy ad tk sp nm tp kp q9.2 se ur ab lo im sy un en ra (li.1, li.2.1, li.2.2.1, li.2.2.2.1, li.2.2.2.2.1, li.2.2.2.2.2.1, ((q1.1).toInt32), ((((q7.1).toInt32)).toInt8.toInt32), q9.1, li.2.2.2.2.2.2.2.2.2.1, li.2.2.2.2.2.2.2.2.2.2.1, li.2.2.2.2.2.2.2.2.2.2.2.1, li.2.2.2.2.2.2.2.2.2.2.2.2.1, li.2.2.2.2.2.2.2.2.2.2.2.2.2.1, li.2.2.2.2.2.2.2.2.2.2.2.2.2.2.1, li.2.2.2.2.2.2.2.2.2.2.2.2.2.2.2.1, li.2.2.2.2.2.2.2.2.2.2.2.2.2.2.2.2.1, li.2.2.2.2.2.2.2.2.2.2.2.2.2.2.2.2.2.1, li.2.2.2.2.2.2.2.2.2.2.2.2.2.2.2.2.2.2) i2) H := hP
  refine lv_aload_n hx hb dX4_readHead_123 rfl (lv_at hl 0 rfl) ?_
  refine lv_aload_n hx hb dX4_readHead_124 rfl (lv_at hl 1 rfl) ?_
  refine lv_iconst (v := (1 : Int32)) hx hb dX4_readHead_125 (by decide) ?_
  refine lv_bipush (v := (10 : Int32)) hx hb dX4_readHead_126 (by decide) ?_
  refine lv_bipush (v := (20 : Int32)) hx hb dX4_readHead_128 (by decide) ?_
  obtain ⟨q11, h12, h⟩ := bnd h
  refine cRi (run_V (rest := [.ref (ad 48)]) C (kX1_numberBetween hI h12) caX1_numberBetween w1010 ⟨rfl, rfl, Nat.le_of_ble_eq_true rfl, Nat.le_of_ble_eq_true rfl⟩ hK hN hP (rX3 hK hP) rfl hl.1 rfl (Nat.le_of_ble_eq_true rfl) dX4_readHead_130 ⟨Nat.zero_le _, Nat.zero_le _⟩) hS (fun H locs hP hS => ?_)
  have hP : va_P D vwCl (GX cy ad tk sp nm tp kp q11.2 se ur ab lo im sy un en ra (li.1, li.2.1, li.2.2.1, li.2.2.2.1, li.2.2.2.2.1, li.2.2.2.2.2.1, ((q1.1).toInt32), ((((q7.1).toInt32)).toInt8.toInt32), q9.1, li.2.2.2.2.2.2.2.2.2.1, li.2.2.2.2.2.2.2.2.2.2.1, li.2.2.2.2.2.2.2.2.2.2.2.1, li.2.2.2.2.2.2.2.2.2.2.2.2.1, li.2.2.2.2.2.2.2.2.2.2.2.2.2.1, li.2.2.2.2.2.2.2.2.2.2.2.2.2.2.1, li.2.2.2.2.2.2.2.2.2.2.2.2.2.2.2.1, li.2.2.2.2.2.2.2.2.2.2.2.2.2.2.2.2.1, li.2.2.2.2.2.2.2.2.2.2.2.2.2.2.2.2.2.1, li.2.2.2.2.2.2.2.2.2.2.2.2.2.2.2.2.2.2) i2) H := hP
  refine pX48_9 (v := q11.1) C hI hK hP hS w399 dX4_readHead_133 (fun H locs hP hS => ?_)
  have hP : va_P D vwCl (GX cy ad tk sp nm tp kp q11.2 se ur ab lo im sy un en ra (li.1, li.2.1, li.2.2.1, li.2.2.2.1, li.2.2.2.2.1, li.2.2.2.2.2.1, ((q1.1).toInt32), ((((q7.1).toInt32)).toInt8.toInt32), q9.1, q11.1, li.2.2.2.2.2.2.2.2.2.2.1, li.2.2.2.2.2.2.2.2.2.2.2.1, li.2.2.2.2.2.2.2.2.2.2.2.2.1, li.2.2.2.2.2.2.2.2.2.2.2.2.2.1, li.2.2.2.2.2.2.2.2.2.2.2.2.2.2.1, li.2.2.2.2.2.2.2.2.2.2.2.2.2.2.2.1, li.2.2.2.2.2.2.2.2.2.2.2.2.2.2.2.2.1, li.2.2.2.2.2.2.2.2.2.2.2.2.2.2.2.2.2.1, li.2.2.2.2.2.2.2.2.2.2.2.2.2.2.2.2.2.2) i2) H := hP
  obtain rfl := Option.some.inj h
  exact W.vret hx hb hr (fun t ht _ => ⟨rfl, by rw [ht]; exact hP, hS.F ht⟩) hS.2.2 dX4_readHead_136 hlk
def X4_readHead (tp : Ttp) (cu : Tcu) (li : Tli)  : Option (Tcu × Tli) := ((X1_numberBetween tp cu (2 : Int32) (5 : Int32) (5 : Int32)).bind fun q1 => ((X1_numberBetween tp q1.2 (1 : Int32) (8 : Int32) (8 : Int32)).bind fun q3 => ((X1_numberBetween tp q3.2 (1 : Int32) (0 : Int32) (0 : Int32)).bind fun q5 => ((X1_number tp q5.2 (4 : Int32)).bind fun q7 => (if (X1_hasLeft q7.2 q7.1) = 0 then (letq (X1_refuse q7.2 (1 : Int32) (X1_place q5.2)) fun q10 => X4_readHead_73 tp q10 (li.1, li.2.1, li.2.2.1, li.2.2.2.1, li.2.2.2.2.1, li.2.2.2.2.2.1, li.2.2.2.2.2.2.1, li.2.2.2.2.2.2.2.1, li.2.2.2.2.2.2.2.2.1, li.2.2.2.2.2.2.2.2.2.1, li.2.2.2.2.2.2.2.2.2.2.1, (X1_place q7.2), li.2.2.2.2.2.2.2.2.2.2.2.2.1, li.2.2.2.2.2.2.2.2.2.2.2.2.2.1, li.2.2.2.2.2.2.2.2.2.2.2.2.2.2.1, li.2.2.2.2.2.2.2.2.2.2.2.2.2.2.2.1, li.2.2.2.2.2.2.2.2.2.2.2.2.2.2.2.2.1, li.2.2.2.2.2.2.2.2.2.2.2.2.2.2.2.2.2.1, li.2.2.2.2.2.2.2.2.2.2.2.2.2.2.2.2.2.2)) else X4_readHead_73 tp q7.2 (li.1, li.2.1, li.2.2.1, li.2.2.2.1, li.2.2.2.2.1, li.2.2.2.2.2.1, li.2.2.2.2.2.2.1, li.2.2.2.2.2.2.2.1, li.2.2.2.2.2.2.2.2.1, li.2.2.2.2.2.2.2.2.2.1, li.2.2.2.2.2.2.2.2.2.2.1, ((X1_place q7.2) + ((q7.1).toInt32)), li.2.2.2.2.2.2.2.2.2.2.2.2.1, li.2.2.2.2.2.2.2.2.2.2.2.2.2.1, li.2.2.2.2.2.2.2.2.2.2.2.2.2.2.1, li.2.2.2.2.2.2.2.2.2.2.2.2.2.2.2.1, li.2.2.2.2.2.2.2.2.2.2.2.2.2.2.2.2.1, li.2.2.2.2.2.2.2.2.2.2.2.2.2.2.2.2.2.1, li.2.2.2.2.2.2.2.2.2.2.2.2.2.2.2.2.2.2))))))
set_option maxRecDepth 20000 in
theorem bX4_readHead_0 (C : Cx p s m args meth c cX4_readHead 5 none RX4 (.code yX4_readHead cX4_readHead 5 none)) (hI : Apart ad 89) (hK : va_K D vwCl (tysX cy) s) (hN : NW s)  {q : Tcu × Tli}   (h : X4_readHead tp cu li = some q) {ls : Array Slot} (hl : lv_has ls 5 [(0, .ref (ad 48)), (1, .ref (ad 3))]) {H : Heap} {locs : List Loc} (hP : va_P D vwCl (GX cy ad tk sp nm tp kp cu se ur ab lo im sy un en ra li i2) H) (hS : va_S (Ac ad 89) s.heap H locs) : W p l e ({ frames := 3, cells := 0, slots := 0, locals := 77 } : Room) s m args below meth c H locs 0 0 (MQ below (QR none D (GX cy ad tk sp nm tp kp q.1 se ur ab lo im sy un en ra q.2 i2) (Ac ad 89)) args s 0 0 (Ac ad 89)) (F0 m 0 ls []) := by
  obtain ⟨hx, hb, hml, hown, hts, hr, hlk⟩ := id C
  unfold X4_readHead at h
  refine lv_aload_n hx hb dX4_readHead_0 rfl (lv_at hl 1 rfl) ?_
  refine lv_iconst (v := (2 : Int32)) hx hb dX4_readHead_1 (by decide) ?_
  refine lv_iconst (v := (5 : Int32)) hx hb dX4_readHead_2 (by decide) ?_
  refine lv_iconst (v := (5 : Int32)) hx hb dX4_readHead_3 (by decide) ?_
  obtain ⟨q1, h2, h⟩ := bnd h
  refine cRi (run_V (rest := []) C (kX1_numberBetween hI h2) caX1_numberBetween w1010 ⟨rfl, rfl, Nat.le_of_ble_eq_true rfl, Nat.le_of_ble_eq_true rfl⟩ hK hN hP (rX3 hK hP) rfl hl.1 rfl (Nat.le_of_ble_eq_true rfl) dX4_readHead_4 ⟨Nat.zero_le _, Nat.zero_le _⟩) hS (fun H locs hP hS => ?_)
  have hP : va_P D vwCl (GX cy ad tk sp nm tp kp q1.2 se ur ab lo im sy un en ra li i2) H := hP
  refine lv_pop hx hb dX4_readHead_7 rfl ?_
  refine lv_aload_n hx hb dX4_readHead_8 rfl (lv_at hl 1 rfl) ?_
  refine lv_iconst (v := (1 : Int32)) hx hb dX4_readHead_9 (by decide) ?_
  refine lv_bipush (v := (8 : Int32)) hx hb dX4_readHead_10 (by decide) ?_
  refine lv_bipush (v := (8 : Int32)) hx hb dX4_readHead_12 (by decide) ?_
  obtain ⟨q3, h4, h⟩ := bnd h
  refine cRi (run_V (rest := []) C (kX1_numberBetween hI h4) caX1_numberBetween w1010 ⟨rfl, rfl, Nat.le_of_ble_eq_true rfl, Nat.le_of_ble_eq_true rfl⟩ hK hN hP (rX3 hK hP) rfl hl.1 rfl (Nat.le_of_ble_eq_true rfl) dX4_readHead_14 ⟨Nat.zero_le _, Nat.zero_le _⟩) hS (fun H locs hP hS => ?_)
  have hP : va_P D vwCl (GX cy ad tk sp nm tp kp q3.2 se ur ab lo im sy un en ra li i2) H := hP
  refine lv_pop hx hb dX4_readHead_17 rfl ?_
  refine lv_aload_n hx hb dX4_readHead_18 rfl (lv_at hl 1 rfl) ?_
  refine lv_iconst (v := (1 : Int32)) hx hb dX4_readHead_19 (by decide) ?_
  refine lv_iconst (v := (0 : Int32)) hx hb dX4_readHead_20 (by decide) ?_
  refine lv_iconst (v := (0 : Int32)) hx hb dX4_readHead_21 (by decide) ?_
  obtain ⟨q5, h6, h⟩ := bnd h
  refine cRi (run_V (rest := []) C (kX1_numberBetween hI h6) caX1_numberBetween w1010 ⟨rfl, rfl, Nat.le_of_ble_eq_true rfl, Nat.le_of_ble_eq_true rfl⟩ hK hN hP (rX3 hK hP) rfl hl.1 rfl (Nat.le_of_ble_eq_true rfl) dX4_readHead_22 ⟨Nat.zero_le _, Nat.zero_le _⟩) hS (fun H locs hP hS => ?_)
  have hP : va_P D vwCl (GX cy ad tk sp nm tp kp q5.2 se ur ab lo im sy un en ra li i2) H := hP
  refine lv_pop hx hb dX4_readHead_25 rfl ?_
  refine lv_aload_n hx hb dX4_readHead_26 rfl (lv_at hl 1 rfl) ?_
  refine cPi (run_V (rest := []) C (kX1_place rfl) caX1_place w1011 ⟨rfl, rfl, Nat.le_of_ble_eq_true rfl, Nat.le_of_ble_eq_true rfl⟩ hK hN hP (rX3 hK hP) rfl hl.1 rfl (Nat.le_of_ble_eq_true rfl) dX4_readHead_27 ⟨Nat.zero_le _, Nat.zero_le _⟩) ?_
  refine lv_istore_n (lv' := [(2, .int (X1_place q5.2)), (0, .ref (ad 48)), (1, .ref (ad 3))]) hx hb dX4_readHead_30 rfl hl (by decide) rfl (fun ls hl => ?_)
  refine lv_aload_n hx hb dX4_readHead_31 rfl (lv_at hl 2 rfl) ?_
  refine lv_iconst (v := (4 : Int32)) hx hb dX4_readHead_32 (by decide) ?_
  obtain ⟨q7, h8, h⟩ := bnd h
  refine cRl (run_V (rest := []) C (kX1_number hI h8) caX1_number w1012 ⟨rfl, rfl, Nat.le_of_ble_eq_true rfl, Nat.le_of_ble_eq_true rfl⟩ hK hN hP (rX3 hK hP) rfl hl.1 rfl (Nat.le_of_ble_eq_true rfl) dX4_readHead_33 ⟨Nat.zero_le _, Nat.zero_le _⟩) hS (fun H locs hP hS => ?_)
  have hP : va_P D vwCl (GX cy ad tk sp nm tp kp q7.2 se ur ab lo im sy un en ra li i2) H := hP
  refine lv_lstore_n (lv' := [(3, .long q7.1), (2, .int (X1_place q5.2)), (0, .ref (ad 48)), (1, .ref (ad 3))]) hx hb dX4_readHead_36 rfl hl (by decide) rfl (fun ls hl => ?_)
  refine lv_aload_n hx hb dX4_readHead_37 rfl (lv_at hl 2 rfl) ?_
  refine lv_aload_n hx hb dX4_readHead_38 rfl (lv_at hl 3 rfl) ?_
  refine cPi (run_V (rest := [.ref (ad 48)]) C (kX1_place rfl) caX1_place w1011 ⟨rfl, rfl, Nat.le_of_ble_eq_true rfl, Nat.le_of_ble_eq_true rfl⟩ hK hN hP (rX3 hK hP) rfl hl.1 rfl (Nat.le_of_ble_eq_true rfl) dX4_readHead_39 ⟨Nat.zero_le _, Nat.zero_le _⟩) ?_
  refine pX48_11 (v := (X1_place q7.2)) C hI hK hP hS w401 dX4_readHead_42 (fun H locs hP hS => ?_)
  have hP : va_P D vwCl (GX cy ad tk sp nm tp kp q7.2 se ur ab lo im sy un en ra (li.1, li.2.1, li.2.2.1, li.2.2.2.1, li.2.2.2.2.1, li.2.2.2.2.2.1, li.2.2.2.2.2.2.1, li.2.2.2.2.2.2.2.1, li.2.2.2.2.2.2.2.2.1, li.2.2.2.2.2.2.2.2.2.1, li.2.2.2.2.2.2.2.2.2.2.1, (X1_place q7.2), li.2.2.2.2.2.2.2.2.2.2.2.2.1, li.2.2.2.2.2.2.2.2.2.2.2.2.2.1, li.2.2.2.2.2.2.2.2.2.2.2.2.2.2.1, li.2.2.2.2.2.2.2.2.2.2.2.2.2.2.2.1, li.2.2.2.2.2.2.2.2.2.2.2.2.2.2.2.2.1, li.2.2.2.2.2.2.2.2.2.2.2.2.2.2.2.2.2.1, li.2.2.2.2.2.2.2.2.2.2.2.2.2.2.2.2.2.2) i2) H := hP
  refine lv_aload_n hx hb dX4_readHead_45 rfl (lv_at hl 3 rfl) ?_
  refine lv_lload_n hx hb dX4_readHead_46 rfl (lv_at hl 0 rfl) ?_
  refine cPi (run_V (rest := []) C (kX1_hasLeft rfl) caX1_hasLeft w1013 ⟨rfl, rfl, Nat.le_of_ble_eq_true rfl, Nat.le_of_ble_eq_true rfl⟩ hK hN hP (rX3 hK hP) rfl hl.1 rfl (Nat.le_of_ble_eq_true rfl) dX4_readHead_47 ⟨Nat.zero_le _, Nat.zero_le _⟩) ?_
  refine lv_if_eq (tgt := 67) hx hb dX4_readHead_50 (by decide) (fun c9 => ?_) (fun c9 => ?_)
  · rw [if_pos c9] at h
    refine lv_aload_n hx hb dX4_readHead_67 rfl (lv_at hl 3 rfl) ?_
    refine lv_iconst (v := (1 : Int32)) hx hb dX4_readHead_68 (by decide) ?_
    refine lv_iload_n hx hb dX4_readHead_69 rfl (lv_at hl 1 rfl) ?_
    obtain ⟨q10, h11, h⟩ := lets h
    refine cRv (run_V (rest := []) C (kX1_refuse hI h11) caX1_refuse w1001 ⟨rfl, rfl, Nat.le_of_ble_eq_true rfl, Nat.le_of_ble_eq_true rfl⟩ hK hN hP (rX3 hK hP) rfl hl.1 rfl (Nat.le_of_ble_eq_true rfl) dX4_readHead_70 ⟨Nat.zero_le _, Nat.zero_le _⟩) hS (fun H locs hP hS => ?_)
    have hP : va_P D vwCl (GX cy ad tk sp nm tp kp q10 se ur ab lo im sy un en ra (li.1, li.2.1, li.2.2.1, li.2.2.2.1, li.2.2.2.2.1, li.2.2.2.2.2.1, li.2.2.2.2.2.2.1, li.2.2.2.2.2.2.2.1, li.2.2.2.2.2.2.2.2.1, li.2.2.2.2.2.2.2.2.2.1, li.2.2.2.2.2.2.2.2.2.2.1, (X1_place q7.2), li.2.2.2.2.2.2.2.2.2.2.2.2.1, li.2.2.2.2.2.2.2.2.2.2.2.2.2.1, li.2.2.2.2.2.2.2.2.2.2.2.2.2.2.1, li.2.2.2.2.2.2.2.2.2.2.2.2.2.2.2.1, li.2.2.2.2.2.2.2.2.2.2.2.2.2.2.2.2.1, li.2.2.2.2.2.2.2.2.2.2.2.2.2.2.2.2.2.1, li.2.2.2.2.2.2.2.2.2.2.2.2.2.2.2.2.2.2) i2) H := hP
    exact bX4_readHead_73 C hI hK hN h (lv_sub hl [2, 3] rfl) hP hS
  · rw [if_neg c9] at h
    refine lv_aload_n hx hb dX4_readHead_53 rfl (lv_at hl 2 rfl) ?_
    refine lv_dup hx hb dX4_readHead_54 rfl ?_
    refine gX48_11 (v := (X1_place q7.2)) C hK hP rfl w401 dX4_readHead_55 ?_
    refine lv_lload_n hx hb dX4_readHead_58 rfl (lv_at hl 0 rfl) ?_
    refine lv_l2i (v := ((q7.1).toInt32)) hx hb dX4_readHead_59 rfl ?_
    refine lv_iadd hx hb dX4_readHead_60 ?_
    refine pX48_11 (v := ((X1_place q7.2) + ((q7.1).toInt32))) C hI hK hP hS w401 dX4_readHead_61 (fun H locs hP hS => ?_)
    have hP : va_P D vwCl (GX cy ad tk sp nm tp kp q7.2 se ur ab lo im sy un en ra (li.1, li.2.1, li.2.2.1, li.2.2.2.1, li.2.2.2.2.1, li.2.2.2.2.2.1, li.2.2.2.2.2.2.1, li.2.2.2.2.2.2.2.1, li.2.2.2.2.2.2.2.2.1, li.2.2.2.2.2.2.2.2.2.1, li.2.2.2.2.2.2.2.2.2.2.1, ((X1_place q7.2) + ((q7.1).toInt32)), li.2.2.2.2.2.2.2.2.2.2.2.2.1, li.2.2.2.2.2.2.2.2.2.2.2.2.2.1, li.2.2.2.2.2.2.2.2.2.2.2.2.2.2.1, li.2.2.2.2.2.2.2.2.2.2.2.2.2.2.2.1, li.2.2.2.2.2.2.2.2.2.2.2.2.2.2.2.2.1, li.2.2.2.2.2.2.2.2.2.2.2.2.2.2.2.2.2.1, li.2.2.2.2.2.2.2.2.2.2.2.2.2.2.2.2.2.2) i2) H := hP
    refine lv_goto (tgt := 73) hx hb dX4_readHead_64 (by decide) ?_
    exact bX4_readHead_73 C hI hK hN h (lv_sub hl [2, 3] rfl) hP hS
theorem kX4_readHead (hI : Apart ad 89)  {q : Tcu × Tli} (h : X4_readHead tp cu li = some q) : Met l yX4_readHead (.code yX4_readHead cX4_readHead 5 none :: WA) ({ frames := 3, cells := 0, slots := 0, locals := 77 } : Room) (va_Pc [.ref (ad 48), .ref (ad 3)] (PR D cy (GX cy ad tk sp nm tp kp cu se ur ab lo im sy un en ra li i2))) (QR none D (GX cy ad tk sp nm tp kp q.1 se ur ab lo im sy un en ra q.2 i2) (Ac ad 89)) 0 0 (Ac ad 89) :=
  met_of (by decide) (Nat.le_of_ble_eq_true rfl) (fun p e s m below meth c ls C hP hK hN hl => bX4_readHead_0 C hI hK hN h hl hP va_S.rf)
def X4_readOperands_67 (tp : Ttp) (k2 : Tcu → Tli → Int32 → Option (Tcu × Tli)) (cu : Tcu) (li : Tli) (v2 : Int32) : Option (Tcu × Tli) := k2 cu li (v2 + (1 : Int32))
set_option maxRecDepth 20000 in
theorem bX4_readOperands_67 (C : Cx p s m args meth c cX4_readOperands 4 none RX4 (.code yX4_readOperands cX4_readOperands 4 none)) (hI : Apart ad 89) (hK : va_K D vwCl (tysX cy) s) (hN : NW s) (hF : SF t adK adV (Ac ad 89) s s.heap) {k2 : Tcu → Tli → Int32 → Option (Tcu × Tli)} {q : Tcu × Tli} (hk2 : ∀ {cu : Tcu} {li : Tli} {v2 : Int32}, k2 cu li v2 = some q → ∀ {ls : Array Slot}, lv_has ls 4 [(0, .ref (ad 48)), (1, .ref (ad 3)), (2, .int v2)] → ∀ {H : Heap} {locs : List Loc}, va_P D vwCl (GX cy ad tk sp nm tp kp cu se ur ab lo im sy un en ra li i2) H → va_S (Ac ad 89) s.heap H locs → W p l e ({ frames := 3, cells := 0, slots := 0, locals := 77 } : Room) s m args below meth c H locs 0 0 (MQ below (QR none D (GX cy ad tk sp nm tp kp q.1 se ur ab lo im sy un en ra q.2 i2) (Ac ad 89)) args s 0 0 (Ac ad 89)) (F0 m 2 ls [])) {v2 : Int32} (h : X4_readOperands_67 tp k2 cu li v2 = some q) {ls : Array Slot} (hl : lv_has ls 4 [(0, .ref (ad 48)), (1, .ref (ad 3)), (2, .int v2)]) {H : Heap} {locs : List Loc} (hP : va_P D vwCl (GX cy ad tk sp nm tp kp cu se ur ab lo im sy un en ra li i2) H) (hS : va_S (Ac ad 89) s.heap H locs) : W p l e ({ frames := 3, cells := 0, slots := 0, locals := 77 } : Room) s m args below meth c H locs 0 0 (MQ below (QR none D (GX cy ad tk sp nm tp kp q.1 se ur ab lo im sy un en ra q.2 i2) (Ac ad 89)) args s 0 0 (Ac ad 89)) (F0 m 67 ls []) := by
  obtain ⟨hx, hb, hml, hown, hts, hr, hlk⟩ := id C
  unfold X4_readOperands_67 at h
  refine lv_iinc (v := (v2 + (1 : Int32))) (lv' := [(2, .int (v2 + (1 : Int32))), (0, .ref (ad 48)), (1, .ref (ad 3))]) hx hb dX4_readOperands_67 hl (k := 2) rfl rfl (by decide) rfl (fun ls hl => ?_)
  refine lv_goto (tgt := 2) hx hb dX4_readOperands_70 (by decide) ?_
  exact hk2 h (lv_sub hl [1, 2, 0] rfl) hP hS
def X4_readOperands_2b (tp : Ttp)  (k2 : Tcu → Tli → Int32 → Option (Tcu × Tli)) (cu : Tcu) (li : Tli) (v2 : Int32) : Option (Tcu × Tli) := (if v2 < li.2.2.2.2.2.2.2.2.2.1 then (if (X1_sound cu) = 0 then some (cu, li) else (if (9 : Int32) < v2 then ((X1_number tp cu (1 : Int32)).bind fun q4 => X4_readOperands_67 tp k2 q4.2 (li.1, li.2.1, li.2.2.1, li.2.2.2.1, li.2.2.2.2.1, li.2.2.2.2.2.1, li.2.2.2.2.2.2.1, li.2.2.2.2.2.2.2.1, li.2.2.2.2.2.2.2.2.1, li.2.2.2.2.2.2.2.2.2.1, (put_i 20 li.2.2.2.2.2.2.2.2.2.2.1 v2 ((q4.1).toInt32)), li.2.2.2.2.2.2.2.2.2.2.2.1, li.2.2.2.2.2.2.2.2.2.2.2.2.1, li.2.2.2.2.2.2.2.2.2.2.2.2.2.1, li.2.2.2.2.2.2.2.2.2.2.2.2.2.2.1, li.2.2.2.2.2.2.2.2.2.2.2.2.2.2.2.1, li.2.2.2.2.2.2.2.2.2.2.2.2.2.2.2.2.1, li.2.2.2.2.2.2.2.2.2.2.2.2.2.2.2.2.2.1, li.2.2.2.2.2.2.2.2.2.2.2.2.2.2.2.2.2.2) v2) else ((X1_numberBetween tp cu (1 : Int32) (at_i 9 opsF (v2 - (1 : Int32))) (at_i 9 opsF (v2 - (1 : Int32)))).bind fun q6 => X4_readOperands_67 tp k2 q6.2 (li.1, li.2.1, li.2.2.1, li.2.2.2.1, li.2.2.2.2.1, li.2.2.2.2.2.1, li.2.2.2.2.2.2.1, li.2.2.2.2.2.2.2.1, li.2.2.2.2.2.2.2.2.1, li.2.2.2.2.2.2.2.2.2.1, (put_i 20 li.2.2.2.2.2.2.2.2.2.2.1 v2 q6.1), li.2.2.2.2.2.2.2.2.2.2.2.1, li.2.2.2.2.2.2.2.2.2.2.2.2.1, li.2.2.2.2.2.2.2.2.2.2.2.2.2.1, li.2.2.2.2.2.2.2.2.2.2.2.2.2.2.1, li.2.2.2.2.2.2.2.2.2.2.2.2.2.2.2.1, li.2.2.2.2.2.2.2.2.2.2.2.2.2.2.2.2.1, li.2.2.2.2.2.2.2.2.2.2.2.2.2.2.2.2.2.1, li.2.2.2.2.2.2.2.2.2.2.2.2.2.2.2.2.2.2) v2))) else some (cu, li))
def X4_readOperands_2 (tp : Ttp)  (n : Nat) (st : Tcu × Tli × Int32) : Option (Tcu × Tli) := lp (fun rec st => X4_readOperands_2b tp  (fun a0 a1 a2 => rec (a0, a1, a2)) st.1 st.2.1 st.2.2) n st
set_option maxRecDepth 20000 in
theorem bX4_readOperands_2 (C : Cx p s m args meth c cX4_readOperands 4 none RX4 (.code yX4_readOperands cX4_readOperands 4 none)) (hI : Apart ad 89) (hK : va_K D vwCl (tysX cy) s) (hN : NW s) (hF : SF t adK adV (Ac ad 89) s s.heap)  {q : Tcu × Tli}  : ∀ (n : Nat) {cu : Tcu} {li : Tli} {v2 : Int32}, X4_readOperands_2 tp  n (cu, li, v2) = some q → ∀ {ls : Array Slot}, lv_has ls 4 [(0, .ref (ad 48)), (1, .ref (ad 3)), (2, .int v2)] → ∀ {H : Heap} {locs : List Loc}, va_P D vwCl (GX cy ad tk sp nm tp kp cu se ur ab lo im sy un en ra li i2) H → va_S (Ac ad 89) s.heap H locs → W p l e ({ frames := 3, cells := 0, slots := 0, locals := 77 } : Room) s m args below meth c H locs 0 0 (MQ below (QR none D (GX cy ad tk sp nm tp kp q.1 se ur ab lo im sy un en ra q.2 i2) (Ac ad 89)) args s 0 0 (Ac ad 89)) (F0 m 2 ls []) := by
  obtain ⟨hx, hb, hml, hown, hts, hr, hlk⟩ := id C
  intro n
  induction n with
  | zero =>
    intro cu li v2 h ls hl H locs hP hS
    have h : (none : Option (Tcu × Tli)) = some q := h
    cases h
  | succ n ih =>
    intro cu li v2 h ls hl H locs hP hS
    have h : X4_readOperands_2b tp  (fun a0 a1 a2 => X4_readOperands_2 tp  n (a0, a1, a2)) cu li v2 = some q := h
    unfold X4_readOperands_2b at h
    refine lv_iload_n hx hb dX4_readOperands_2 rfl (lv_at hl 2 rfl) ?_
    refine lv_aload_n hx hb dX4_readOperands_3 rfl (lv_at hl 0 rfl) ?_
    refine gX48_9 (v := li.2.2.2.2.2.2.2.2.2.1) C hK hP rfl w399 dX4_readOperands_4 ?_
    refine b_icmp_ge (tgt := 73) hx hb dX4_readOperands_7 (by decide) (fun c1 => ?_) (fun c1 => ?_)
    · rw [if_neg c1] at h
      obtain rfl := Option.some.inj h
      exact W.vret hx hb hr (fun t ht _ => ⟨rfl, by rw [ht]; exact hP, hS.F ht⟩) hS.2.2 dX4_readOperands_73 hlk
    · rw [if_pos c1] at h
      refine lv_aload_n hx hb dX4_readOperands_10 rfl (lv_at hl 1 rfl) ?_
      refine cPi (run_V (rest := []) C (kX1_sound rfl) caX1_sound w988 ⟨rfl, rfl, Nat.le_of_ble_eq_true rfl, Nat.le_of_ble_eq_true rfl⟩ hK hN hP (rX3 hK hP) rfl hl.1 rfl (Nat.le_of_ble_eq_true rfl) dX4_readOperands_11 ⟨Nat.zero_le _, Nat.zero_le _⟩) ?_
      refine lv_if_eq (tgt := 73) hx hb dX4_readOperands_14 (by decide) (fun c2 => ?_) (fun c2 => ?_)
      · rw [if_pos c2] at h
        obtain rfl := Option.some.inj h
        exact W.vret hx hb hr (fun t ht _ => ⟨rfl, by rw [ht]; exact hP, hS.F ht⟩) hS.2.2 dX4_readOperands_73 hlk
      · rw [if_neg c2] at h
        refine lv_iload_n hx hb dX4_readOperands_17 rfl (lv_at hl 2 rfl) ?_
        refine va_getsN hx hb hF.2.1.1 hS hown (va_Nw.use rfl (hN.use w1018 rfl)) (fun _ h9 => h9) dX4_readOperands_18 ?_
        refine va_tlen (v := (9 : Int32)) hx hb hF.2.1.2 hS (by decide) dX4_readOperands_21 ?_
        refine lv_icmp_gt (tgt := 53) hx hb dX4_readOperands_22 (by decide) (fun c3 => ?_) (fun c3 => ?_)
        · rw [if_pos c3] at h
          refine lv_aload_n hx hb dX4_readOperands_53 rfl (lv_at hl 0 rfl) ?_
          refine gX48_10 C hK hP w400 dX4_readOperands_54 ?_
          refine lv_iload_n hx hb dX4_readOperands_57 rfl (lv_at hl 2 rfl) ?_
          refine lv_aload_n hx hb dX4_readOperands_58 rfl (lv_at hl 1 rfl) ?_
          refine lv_iconst (v := (1 : Int32)) hx hb dX4_readOperands_59 (by decide) ?_
          obtain ⟨q4, h5, h⟩ := bnd h
          refine cRl (run_V (rest := [.int v2, .ref (ad 54)]) C (kX1_number hI h5) caX1_number w1012 ⟨rfl, rfl, Nat.le_of_ble_eq_true rfl, Nat.le_of_ble_eq_true rfl⟩ hK hN hP (rX3 hK hP) rfl hl.1 rfl (Nat.le_of_ble_eq_true rfl) dX4_readOperands_60 ⟨Nat.zero_le _, Nat.zero_le _⟩) hS (fun H locs hP hS => ?_)
          have hP : va_P D vwCl (GX cy ad tk sp nm tp kp q4.2 se ur ab lo im sy un en ra li i2) H := hP
          refine lv_l2i (v := ((q4.1).toInt32)) hx hb dX4_readOperands_63 rfl ?_
          refine xput_i (rest := []) C hK hN hP (GX_D hI) hS eX54 (Nat.le_of_ble_eq_true rfl) w1021 hl.1 (Nat.le_of_ble_eq_true rfl) dX4_readOperands_64 ⟨Nat.le_of_ble_eq_true rfl, Nat.le_of_ble_eq_true rfl⟩ ⟨Nat.zero_le _, Nat.zero_le _⟩ (fun H locs hP hS => ?_)
          have hP : va_P D vwCl (GX cy ad tk sp nm tp kp q4.2 se ur ab lo im sy un en ra (li.1, li.2.1, li.2.2.1, li.2.2.2.1, li.2.2.2.2.1, li.2.2.2.2.2.1, li.2.2.2.2.2.2.1, li.2.2.2.2.2.2.2.1, li.2.2.2.2.2.2.2.2.1, li.2.2.2.2.2.2.2.2.2.1, (put_i 20 li.2.2.2.2.2.2.2.2.2.2.1 v2 ((q4.1).toInt32)), li.2.2.2.2.2.2.2.2.2.2.2.1, li.2.2.2.2.2.2.2.2.2.2.2.2.1, li.2.2.2.2.2.2.2.2.2.2.2.2.2.1, li.2.2.2.2.2.2.2.2.2.2.2.2.2.2.1, li.2.2.2.2.2.2.2.2.2.2.2.2.2.2.2.1, li.2.2.2.2.2.2.2.2.2.2.2.2.2.2.2.2.1, li.2.2.2.2.2.2.2.2.2.2.2.2.2.2.2.2.2.1, li.2.2.2.2.2.2.2.2.2.2.2.2.2.2.2.2.2.2) i2) H := hP
          exact bX4_readOperands_67 C hI hK hN hF @ih h (lv_sub hl [0, 1, 2] rfl) hP hS
        · rw [if_neg c3] at h
          refine va_getsN hx hb hF.2.1.1 hS hown (va_Nw.use rfl (hN.use w1018 rfl)) (fun _ h9 => h9) dX4_readOperands_25 ?_
          refine lv_iload_n hx hb dX4_readOperands_28 rfl (lv_at hl 2 rfl) ?_
          refine lv_iconst (v := (1 : Int32)) hx hb dX4_readOperands_29 (by decide) ?_
          refine lv_isub hx hb dX4_readOperands_30 ?_
          refine cPi (run_SNg (rest := []) (As := [.ref (t 1), .int (v2 - (1 : Int32))]) C (kX11_atS (adK := adK) (adV := adV) (A := Ac ad 89)) caX11_at (hN.use w1020 rfl) ⟨rfl, rfl, Nat.le_of_ble_eq_true rfl, Nat.le_of_ble_eq_true rfl⟩ PF.blind (PF.at hF hS) rfl hl.1 rfl (Nat.le_of_ble_eq_true rfl) dX4_readOperands_31 ⟨Nat.zero_le _, Nat.zero_le _⟩) ?_
          refine lv_istore_n (lv' := [(3, .int (at_i 9 opsF (v2 - (1 : Int32)))), (0, .ref (ad 48)), (1, .ref (ad 3)), (2, .int v2)]) hx hb dX4_readOperands_34 rfl hl (by decide) rfl (fun ls hl => ?_)
          refine lv_aload_n hx hb dX4_readOperands_35 rfl (lv_at hl 1 rfl) ?_
          refine gX48_10 C hK hP w400 dX4_readOperands_36 ?_
          refine lv_iload_n hx hb dX4_readOperands_39 rfl (lv_at hl 3 rfl) ?_
          refine lv_aload_n hx hb dX4_readOperands_40 rfl (lv_at hl 2 rfl) ?_
          refine lv_iconst (v := (1 : Int32)) hx hb dX4_readOperands_41 (by decide) ?_
          refine lv_iload_n hx hb dX4_readOperands_42 rfl (lv_at hl 0 rfl) ?_
          refine lv_iload_n hx hb dX4_readOperands_43 rfl (lv_at hl 0 rfl) ?_
          obtain ⟨q6, h7, h⟩ := bnd h
          refine cRi (run_V (rest := [.int v2, .ref (ad 54)]) C (kX1_numberBetween hI h7) caX1_numberBetween w1010 ⟨rfl, rfl, Nat.le_of_ble_eq_true rfl, Nat.le_of_ble_eq_true rfl⟩ hK hN hP (rX3 hK hP) rfl hl.1 rfl (Nat.le_of_ble_eq_true rfl) dX4_readOperands_44 ⟨Nat.zero_le _, Nat.zero_le _⟩) hS (fun H locs hP hS => ?_)
          have hP : va_P D vwCl (GX cy ad tk sp nm tp kp q6.2 se ur ab lo im sy un en ra li i2) H := hP
          refine xput_i (rest := []) C hK hN hP (GX_D hI) hS eX54 (Nat.le_of_ble_eq_true rfl) w1021 hl.1 (Nat.le_of_ble_eq_true rfl) dX4_readOperands_47 ⟨Nat.le_of_ble_eq_true rfl, Nat.le_of_ble_eq_true rfl⟩ ⟨Nat.zero_le _, Nat.zero_le _⟩ (fun H locs hP hS => ?_)
          have hP : va_P D vwCl (GX cy ad tk sp nm tp kp q6.2 se ur ab lo im sy un en ra (li.1, li.2.1, li.2.2.1, li.2.2.2.1, li.2.2.2.2.1, li.2.2.2.2.2.1, li.2.2.2.2.2.2.1, li.2.2.2.2.2.2.2.1, li.2.2.2.2.2.2.2.2.1, li.2.2.2.2.2.2.2.2.2.1, (put_i 20 li.2.2.2.2.2.2.2.2.2.2.1 v2 q6.1), li.2.2.2.2.2.2.2.2.2.2.2.1, li.2.2.2.2.2.2.2.2.2.2.2.2.1, li.2.2.2.2.2.2.2.2.2.2.2.2.2.1, li.2.2.2.2.2.2.2.2.2.2.2.2.2.2.1, li.2.2.2.2.2.2.2.2.2.2.2.2.2.2.2.1, li.2.2.2.2.2.2.2.2.2.2.2.2.2.2.2.2.1, li.2.2.2.2.2.2.2.2.2.2.2.2.2.2.2.2.2.1, li.2.2.2.2.2.2.2.2.2.2.2.2.2.2.2.2.2.2) i2) H := hP
          refine lv_goto (tgt := 67) hx hb dX4_readOperands_50 (by decide) ?_
          exact bX4_readOperands_67 C hI hK hN hF @ih h (lv_sub hl [1, 2, 3] rfl) hP hS
def X4_readOperands (tp : Ttp) (cu : Tcu) (li : Tli)  : Option (Tcu × Tli) := X4_readOperands_2 tp FU (cu, li, (1 : Int32))
set_option maxRecDepth 20000 in
theorem bX4_readOperands_0 (C : Cx p s m args meth c cX4_readOperands 4 none RX4 (.code yX4_readOperands cX4_readOperands 4 none)) (hI : Apart ad 89) (hK : va_K D vwCl (tysX cy) s) (hN : NW s) (hF : SF t adK adV (Ac ad 89) s s.heap)  {q : Tcu × Tli}   (h : X4_readOperands tp cu li = some q) {ls : Array Slot} (hl : lv_has ls 4 [(0, .ref (ad 48)), (1, .ref (ad 3))]) {H : Heap} {locs : List Loc} (hP : va_P D vwCl (GX cy ad tk sp nm tp kp cu se ur ab lo im sy un en ra li i2) H) (hS : va_S (Ac ad 89) s.heap H locs) : W p l e ({ frames := 3, cells := 0, slots := 0, locals := 77 } : Room) s m args below meth c H locs 0 0 (MQ below (QR none D (GX cy ad tk sp nm tp kp q.1 se ur ab lo im sy un en ra q.2 i2) (Ac ad 89)) args s 0 0 (Ac ad 89)) (F0 m 0 ls []) := by
  obtain ⟨hx, hb, hml, hown, hts, hr, hlk⟩ := id C
  unfold X4_readOperands at h
  refine lv_iconst (v := (1 : Int32)) hx hb dX4_readOperands_0 (by decide) ?_
  refine lv_istore_n (lv' := [(2, .int (1 : Int32)), (0, .ref (ad 48)), (1, .ref (ad 3))]) hx hb dX4_readOperands_1 rfl hl (by decide) rfl (fun ls hl => ?_)
  exact bX4_readOperands_2 C hI hK hN hF FU h (lv_sub hl [1, 2, 0] rfl) hP hS
theorem kX4_readOperands (hI : Apart ad 89)  {q : Tcu × Tli} (h : X4_readOperands tp cu li = some q) : Met l yX4_readOperands (.code yX4_readOperands cX4_readOperands 4 none :: WA) ({ frames := 3, cells := 0, slots := 0, locals := 77 } : Room) (va_Pc [.ref (ad 48), .ref (ad 3)] (PS D cy t adK adV (Ac ad 89) (GX cy ad tk sp nm tp kp cu se ur ab lo im sy un en ra li i2))) (QR none D (GX cy ad tk sp nm tp kp q.1 se ur ab lo im sy un en ra q.2 i2) (Ac ad 89)) 0 0 (Ac ad 89) :=
  met_g (by decide) (Nat.le_of_ble_eq_true rfl) (fun p e s m below meth c ls C hB hl => bX4_readOperands_0 C hI hB.1.2.1 hB.1.2.2 hB.2 h hl hB.1.1 va_S.rf)
def X4_setAddress (li : Tli) (v1 : Int64) : Tli := (li.1, li.2.1, li.2.2.1, li.2.2.2.1, li.2.2.2.2.1, li.2.2.2.2.2.1, li.2.2.2.2.2.2.1, li.2.2.2.2.2.2.2.1, li.2.2.2.2.2.2.2.2.1, li.2.2.2.2.2.2.2.2.2.1, li.2.2.2.2.2.2.2.2.2.2.1, li.2.2.2.2.2.2.2.2.2.2.2.1, li.2.2.2.2.2.2.2.2.2.2.2.2.1, v1, li.2.2.2.2.2.2.2.2.2.2.2.2.2.2.1, li.2.2.2.2.2.2.2.2.2.2.2.2.2.2.2.1, (0 : Int32), li.2.2.2.2.2.2.2.2.2.2.2.2.2.2.2.2.2.1, li.2.2.2.2.2.2.2.2.2.2.2.2.2.2.2.2.2.2)
set_option maxRecDepth 20000 in
theorem bX4_setAddress_0 (C : Cx p s m args meth c cX4_setAddress 3 none RX4 (.code yX4_setAddress cX4_setAddress 3 none)) (hI : Apart ad 89) (hK : va_K D vwCl (tysX cy) s) (hN : NW s)  {q : Tli}  {v1 : Int64} (h : X4_setAddress li v1 = q) {ls : Array Slot} (hl : lv_has ls 3 [(0, .ref (ad 48)), (1, .long v1)]) {H : Heap} {locs : List Loc} (hP : va_P D vwCl (GX cy ad tk sp nm tp kp cu se ur ab lo im sy un en ra li i2) H) (hS : va_S (Ac ad 89) s.heap H locs) : W p l e ({ frames := 0, cells := 0, slots := 0, locals := 0 } : Room) s m args below meth c H locs 0 0 (MQ below (QR none D (GX cy ad tk sp nm tp kp cu se ur ab lo im sy un en ra q i2) (Ac ad 89)) args s 0 0 (Ac ad 89)) (F0 m 0 ls []) := by
  obtain ⟨hx, hb, hml, hown, hts, hr, hlk⟩ := id C
  unfold X4_setAddress at h
  refine lv_aload_n hx hb dX4_setAddress_0 rfl (lv_at hl 0 rfl) ?_
  refine lv_lload_n hx hb dX4_setAddress_1 rfl (lv_at hl 1 rfl) ?_
  refine pX48_13 (v := v1) C hI hK hP hS w403 dX4_setAddress_2 (fun H locs hP hS => ?_)
  have hP : va_P D vwCl (GX cy ad tk sp nm tp kp cu se ur ab lo im sy un en ra (li.1, li.2.1, li.2.2.1, li.2.2.2.1, li.2.2.2.2.1, li.2.2.2.2.2.1, li.2.2.2.2.2.2.1, li.2.2.2.2.2.2.2.1, li.2.2.2.2.2.2.2.2.1, li.2.2.2.2.2.2.2.2.2.1, li.2.2.2.2.2.2.2.2.2.2.1, li.2.2.2.2.2.2.2.2.2.2.2.1, li.2.2.2.2.2.2.2.2.2.2.2.2.1, v1, li.2.2.2.2.2.2.2.2.2.2.2.2.2.2.1, li.2.2.2.2.2.2.2.2.2.2.2.2.2.2.2.1, li.2.2.2.2.2.2.2.2.2.2.2.2.2.2.2.2.1, li.2.2.2.2.2.2.2.2.2.2.2.2.2.2.2.2.2.1, li.2.2.2.2.2.2.2.2.2.2.2.2.2.2.2.2.2.2) i2) H := hP
  refine lv_aload_n hx hb dX4_setAddress_5 rfl (lv_at hl 0 rfl) ?_
  refine lv_iconst (v := (0 : Int32)) hx hb dX4_setAddress_6 (by decide) ?_
  refine pX48_16 (v := (0 : Int32)) C hI hK hP hS w406 dX4_setAddress_7 (fun H locs hP hS => ?_)
  have hP : va_P D vwCl (GX cy ad tk sp nm tp kp cu se ur ab lo im sy un en ra (li.1, li.2.1, li.2.2.1, li.2.2.2.1, li.2.2.2.2.1, li.2.2.2.2.2.1, li.2.2.2.2.2.2.1, li.2.2.2.2.2.2.2.1, li.2.2.2.2.2.2.2.2.1, li.2.2.2.2.2.2.2.2.2.1, li.2.2.2.2.2.2.2.2.2.2.1, li.2.2.2.2.2.2.2.2.2.2.2.1, li.2.2.2.2.2.2.2.2.2.2.2.2.1, v1, li.2.2.2.2.2.2.2.2.2.2.2.2.2.2.1, li.2.2.2.2.2.2.2.2.2.2.2.2.2.2.2.1, (0 : Int32), li.2.2.2.2.2.2.2.2.2.2.2.2.2.2.2.2.2.1, li.2.2.2.2.2.2.2.2.2.2.2.2.2.2.2.2.2.2) i2) H := hP
  obtain rfl := h
  exact W.vret hx hb hr (fun t ht _ => ⟨rfl, by rw [ht]; exact hP, hS.F ht⟩) hS.2.2 dX4_setAddress_10 hlk
theorem kX4_setAddress (hI : Apart ad 89) {v1 : Int64} {q : Tli} (h : X4_setAddress li v1 = q) : Met l yX4_setAddress (.code yX4_setAddress cX4_setAddress 3 none :: WA) ({ frames := 0, cells := 0, slots := 0, locals := 0 } : Room) (va_Pc [.ref (ad 48), .long v1] (PR D cy (GX cy ad tk sp nm tp kp cu se ur ab lo im sy un en ra li i2))) (QR none D (GX cy ad tk sp nm tp kp cu se ur ab lo im sy un en ra q i2) (Ac ad 89)) 0 0 (Ac ad 89) :=
  met_of (by decide) (Nat.le_of_ble_eq_true rfl) (fun p e s m below meth c ls C hP hK hN hl => bX4_setAddress_0 C hI hK hN h hl hP va_S.rf)
def X4_beginSequence (li : Tli)  : Tli := (letq (X4_setAddress li (0 : Int64)) fun q1 => (q1.1, q1.2.1, q1.2.2.1, q1.2.2.2.1, q1.2.2.2.2.1, q1.2.2.2.2.2.1, q1.2.2.2.2.2.2.1, q1.2.2.2.2.2.2.2.1, q1.2.2.2.2.2.2.2.2.1, q1.2.2.2.2.2.2.2.2.2.1, q1.2.2.2.2.2.2.2.2.2.2.1, q1.2.2.2.2.2.2.2.2.2.2.2.1, q1.2.2.2.2.2.2.2.2.2.2.2.2.1, q1.2.2.2.2.2.2.2.2.2.2.2.2.2.1, (1 : Int64), (1 : Int64), q1.2.2.2.2.2.2.2.2.2.2.2.2.2.2.2.2.1, (0 : Int32), (0 : Int32)))
set_option maxRecDepth 20000 in
theorem bX4_beginSequence_0 (C : Cx p s m args meth c cX4_beginSequence 1 none RX4 (.code yX4_beginSequence cX4_beginSequence 1 none)) (hI : Apart ad 89) (hK : va_K D vwCl (tysX cy) s) (hN : NW s)  {q : Tli}   (h : X4_beginSequence li = q) {ls : Array Slot} (hl : lv_has ls 1 [(0, .ref (ad 48))]) {H : Heap} {locs : List Loc} (hP : va_P D vwCl (GX cy ad tk sp nm tp kp cu se ur ab lo im sy un en ra li i2) H) (hS : va_S (Ac ad 89) s.heap H locs) : W p l e ({ frames := 1, cells := 0, slots := 0, locals := 22 } : Room) s m args below meth c H locs 0 0 (MQ below (QR none D (GX cy ad tk sp nm tp kp cu se ur ab lo im sy un en ra q i2) (Ac ad 89)) args s 0 0 (Ac ad 89)) (F0 m 0 ls []) := by
  obtain ⟨hx, hb, hml, hown, hts, hr, hlk⟩ := id C
  unfold X4_beginSequence at h
  refine lv_aload_n hx hb dX4_beginSequence_0 rfl (lv_at hl 0 rfl) ?_
  refine lv_lconst (v := (0 : Int64)) hx hb dX4_beginSequence_1 (by decide) ?_
  obtain ⟨q1, h2, h⟩ := lets h
  refine cRv (run_V (rest := []) C (kX4_setAddress hI h2) caX4_setAddress w1059 ⟨rfl, rfl, Nat.le_of_ble_eq_true rfl, Nat.le_of_ble_eq_true rfl⟩ hK hN hP (rX48 hK hP) rfl hl.1 rfl (Nat.le_of_ble_eq_true rfl) dX4_beginSequence_2 ⟨Nat.zero_le _, Nat.zero_le _⟩) hS (fun H locs hP hS => ?_)
  have hP : va_P D vwCl (GX cy ad tk sp nm tp kp cu se ur ab lo im sy un en ra q1 i2) H := hP
  refine lv_aload_n hx hb dX4_beginSequence_5 rfl (lv_at hl 0 rfl) ?_
  refine lv_lconst (v := (1 : Int64)) hx hb dX4_beginSequence_6 (by decide) ?_
  refine pX48_14 (v := (1 : Int64)) C hI hK hP hS w404 dX4_beginSequence_7 (fun H locs hP hS => ?_)
  have hP : va_P D vwCl (GX cy ad tk sp nm tp kp cu se ur ab lo im sy un en ra (q1.1, q1.2.1, q1.2.2.1, q1.2.2.2.1, q1.2.2.2.2.1, q1.2.2.2.2.2.1, q1.2.2.2.2.2.2.1, q1.2.2.2.2.2.2.2.1, q1.2.2.2.2.2.2.2.2.1, q1.2.2.2.2.2.2.2.2.2.1, q1.2.2.2.2.2.2.2.2.2.2.1, q1.2.2.2.2.2.2.2.2.2.2.2.1, q1.2.2.2.2.2.2.2.2.2.2.2.2.1, q1.2.2.2.2.2.2.2.2.2.2.2.2.2.1, (1 : Int64), q1.2.2.2.2.2.2.2.2.2.2.2.2.2.2.2.1, q1.2.2.2.2.2.2.2.2.2.2.2.2.2.2.2.2.1, q1.2.2.2.2.2.2.2.2.2.2.2.2.2.2.2.2.2.1, q1.2.2.2.2.2.2.2.2.2.2.2.2.2.2.2.2.2.2) i2) H := hP
  refine lv_aload_n hx hb dX4_beginSequence_10 rfl (lv_at hl 0 rfl) ?_
  refine lv_lconst (v := (1 : Int64)) hx hb dX4_beginSequence_11 (by decide) ?_
  refine pX48_15 (v := (1 : Int64)) C hI hK hP hS w405 dX4_beginSequence_12 (fun H locs hP hS => ?_)
  have hP : va_P D vwCl (GX cy ad tk sp nm tp kp cu se ur ab lo im sy un en ra (q1.1, q1.2.1, q1.2.2.1, q1.2.2.2.1, q1.2.2.2.2.1, q1.2.2.2.2.2.1, q1.2.2.2.2.2.2.1, q1.2.2.2.2.2.2.2.1, q1.2.2.2.2.2.2.2.2.1, q1.2.2.2.2.2.2.2.2.2.1, q1.2.2.2.2.2.2.2.2.2.2.1, q1.2.2.2.2.2.2.2.2.2.2.2.1, q1.2.2.2.2.2.2.2.2.2.2.2.2.1, q1.2.2.2.2.2.2.2.2.2.2.2.2.2.1, (1 : Int64), (1 : Int64), q1.2.2.2.2.2.2.2.2.2.2.2.2.2.2.2.2.1, q1.2.2.2.2.2.2.2.2.2.2.2.2.2.2.2.2.2.1, q1.2.2.2.2.2.2.2.2.2.2.2.2.2.2.2.2.2.2) i2) H := hP
  refine lv_aload_n hx hb dX4_beginSequence_15 rfl (lv_at hl 0 rfl) ?_
  refine lv_iconst (v := (0 : Int32)) hx hb dX4_beginSequence_16 (by decide) ?_
  refine pX48_17 (v := (0 : Int32)) C hI hK hP hS w407 dX4_beginSequence_17 (fun H locs hP hS => ?_)
  have hP : va_P D vwCl (GX cy ad tk sp nm tp kp cu se ur ab lo im sy un en ra (q1.1, q1.2.1, q1.2.2.1, q1.2.2.2.1, q1.2.2.2.2.1, q1.2.2.2.2.2.1, q1.2.2.2.2.2.2.1, q1.2.2.2.2.2.2.2.1, q1.2.2.2.2.2.2.2.2.1, q1.2.2.2.2.2.2.2.2.2.1, q1.2.2.2.2.2.2.2.2.2.2.1, q1.2.2.2.2.2.2.2.2.2.2.2.1, q1.2.2.2.2.2.2.2.2.2.2.2.2.1, q1.2.2.2.2.2.2.2.2.2.2.2.2.2.1, (1 : Int64), (1 : Int64), q1.2.2.2.2.2.2.2.2.2.2.2.2.2.2.2.2.1, (0 : Int32), q1.2.2.2.2.2.2.2.2.2.2.2.2.2.2.2.2.2.2) i2) H := hP
  refine lv_aload_n hx hb dX4_beginSequence_20 rfl (lv_at hl 0 rfl) ?_
  refine lv_iconst (v := (0 : Int32)) hx hb dX4_beginSequence_21 (by decide) ?_
  refine pX48_18 (v := (0 : Int32)) C hI hK hP hS (by decide) w408 dX4_beginSequence_22 (fun H locs hP hS => ?_)
  have hP : va_P D vwCl (GX cy ad tk sp nm tp kp cu se ur ab lo im sy un en ra (q1.1, q1.2.1, q1.2.2.1, q1.2.2.2.1, q1.2.2.2.2.1, q1.2.2.2.2.2.1, q1.2.2.2.2.2.2.1, q1.2.2.2.2.2.2.2.1, q1.2.2.2.2.2.2.2.2.1, q1.2.2.2.2.2.2.2.2.2.1, q1.2.2.2.2.2.2.2.2.2.2.1, q1.2.2.2.2.2.2.2.2.2.2.2.1, q1.2.2.2.2.2.2.2.2.2.2.2.2.1, q1.2.2.2.2.2.2.2.2.2.2.2.2.2.1, (1 : Int64), (1 : Int64), q1.2.2.2.2.2.2.2.2.2.2.2.2.2.2.2.2.1, (0 : Int32), (0 : Int32)) i2) H := hP
  obtain rfl := h
  exact W.vret hx hb hr (fun t ht _ => ⟨rfl, by rw [ht]; exact hP, hS.F ht⟩) hS.2.2 dX4_beginSequence_25 hlk
theorem kX4_beginSequence (hI : Apart ad 89)  {q : Tli} (h : X4_beginSequence li = q) : Met l yX4_beginSequence (.code yX4_beginSequence cX4_beginSequence 1 none :: WA) ({ frames := 1, cells := 0, slots := 0, locals := 22 } : Room) (va_Pc [.ref (ad 48)] (PR D cy (GX cy ad tk sp nm tp kp cu se ur ab lo im sy un en ra li i2))) (QR none D (GX cy ad tk sp nm tp kp cu se ur ab lo im sy un en ra q i2) (Ac ad 89)) 0 0 (Ac ad 89) :=
  met_of (by decide) (Nat.le_of_ble_eq_true rfl) (fun p e s m below meth c ls C hP hK hN hl => bX4_beginSequence_0 C hI hK hN h hl hP va_S.rf)
def X4_isRegister  (v0 : Int64) : Int32 := (if v0 < (0 : Int64) then (0 : Int32) else (if (1000000 : Int64) < v0 then (0 : Int32) else (1 : Int32)))
set_option maxRecDepth 20000 in
theorem bX4_isRegister_0 (C : Cx p s m args meth c cX4_isRegister 2 (some .boolean) RX4 (.code yX4_isRegister cX4_isRegister 2 (some .boolean))) (hK : va_K D vwCl (tysX cy) s) (hN : NW s)  {q : Int32}  {v0 : Int64} (h : X4_isRegister v0 = q) {ls : Array Slot} (hl : lv_has ls 2 [(0, .long v0)]) (hP : va_P D vwCl (GX cy ad tk sp nm tp kp cu se ur ab lo im sy un en ra li i2) s.heap) : W p l e ({ frames := 0, cells := 0, slots := 0, locals := 0 } : Room) s m args below meth c s.heap [] 0 0 (MQ below (QP (some (.int q))) args s 0 0 (fun _ => False)) (F0 m 0 ls []) := by
  obtain ⟨hx, hb, hml, hown, hts, hr, hlk⟩ := id C
  unfold X4_isRegister at h
  refine lv_lload_n hx hb dX4_isRegister_0 rfl (lv_at hl 0 rfl) ?_
  refine lv_lconst (v := (0 : Int64)) hx hb dX4_isRegister_1 (by decide) ?_
  refine lc_lt (tgt := 18) hx hb dX4_isRegister_2 dX4_isRegister_3 (by decide) (fun c1 => ?_) (fun c1 => ?_)
  · rw [if_pos c1] at h
    refine lv_iconst (v := (0 : Int32)) hx hb dX4_isRegister_18 (by decide) ?_
    obtain rfl := h
    exact W.zret (ty := .boolean) hx hb hr (by decide) (fun t ht _ => ⟨rfl, ht⟩) (fun _ h9 => by cases h9) dX4_isRegister_19 hlk
  · rw [if_neg c1] at h
    refine lv_lload_n hx hb dX4_isRegister_6 rfl (lv_at hl 0 rfl) ?_
    refine lv_ldc2 (v := (1000000 : Int64)) hx hb hown (hts _ (List.mem_cons_of_mem _ w1097)) dX4_isRegister_7 ?_
    refine lc_gt (tgt := 18) hx hb dX4_isRegister_10 dX4_isRegister_11 (by decide) (fun c2 => ?_) (fun c2 => ?_)
    · rw [if_pos c2] at h
      refine lv_iconst (v := (0 : Int32)) hx hb dX4_isRegister_18 (by decide) ?_
      obtain rfl := h
      exact W.zret (ty := .boolean) hx hb hr (by decide) (fun t ht _ => ⟨rfl, ht⟩) (fun _ h9 => by cases h9) dX4_isRegister_19 hlk
    · rw [if_neg c2] at h
      refine lv_iconst (v := (1 : Int32)) hx hb dX4_isRegister_14 (by decide) ?_
      refine lv_goto (tgt := 19) hx hb dX4_isRegister_15 (by decide) ?_
      obtain rfl := h
      exact W.zret (ty := .boolean) hx hb hr (by decide) (fun t ht _ => ⟨rfl, ht⟩) (fun _ h9 => by cases h9) dX4_isRegister_19 hlk
theorem kX4_isRegister  {v0 : Int64} {q : Int32} (h : X4_isRegister v0 = q) : Met l yX4_isRegister (.code yX4_isRegister cX4_isRegister 2 (some .boolean) :: WA) ({ frames := 0, cells := 0, slots := 0, locals := 0 } : Room) (va_Pc [.long v0] (PR D cy (GX cy ad tk sp nm tp kp cu se ur ab lo im sy un en ra li i2))) (QP (some (.int q))) 0 0 (fun _ => False) :=
  met_of (by decide) (Nat.le_of_ble_eq_true rfl) (fun p e s m below meth c ls C hP hK hN hl => bX4_isRegister_0 C hK hN h hl hP)
def X4_addRow_107   (cu : Tcu) (li : Tli) (v3 : Int32) : Tcu × Tli := (if (X1_sound cu) = 0 then (cu, li) else (cu, ((put_i 600 li.1 li.2.2.2.2.2.1 li.2.2.2.2.2.2.2.2.2.2.2.2.1), (put_i 600 li.2.1 li.2.2.2.2.2.1 ((li.2.2.2.2.2.2.2.2.2.2.2.2.2.2.1).toInt32)), (put_i 600 li.2.2.1 li.2.2.2.2.2.1 ((li.2.2.2.2.2.2.2.2.2.2.2.2.2.2.2.1).toInt32)), (put_i 600 li.2.2.2.1 li.2.2.2.2.2.1 v3), (put_l 600 li.2.2.2.2.1 li.2.2.2.2.2.1 li.2.2.2.2.2.2.2.2.2.2.2.2.2.1), (li.2.2.2.2.2.1 + (1 : Int32)), li.2.2.2.2.2.2.1, li.2.2.2.2.2.2.2.1, li.2.2.2.2.2.2.2.2.1, li.2.2.2.2.2.2.2.2.2.1, li.2.2.2.2.2.2.2.2.2.2.1, li.2.2.2.2.2.2.2.2.2.2.2.1, li.2.2.2.2.2.2.2.2.2.2.2.2.1, li.2.2.2.2.2.2.2.2.2.2.2.2.2.1, li.2.2.2.2.2.2.2.2.2.2.2.2.2.2.1, li.2.2.2.2.2.2.2.2.2.2.2.2.2.2.2.1, li.2.2.2.2.2.2.2.2.2.2.2.2.2.2.2.2.1, li.2.2.2.2.2.2.2.2.2.2.2.2.2.2.2.2.2.1, (1 : Int32))))
set_option maxRecDepth 20000 in
theorem bX4_addRow_107 (C : Cx p s m args meth c cX4_addRow 7 none RX4 (.code yX4_addRow cX4_addRow 7 none)) (hI : Apart ad 89) (hK : va_K D vwCl (tysX cy) s) (hN : NW s)  {q : Tcu × Tli}  {v3 : Int32} (h : X4_addRow_107 cu li v3 = q) {ls : Array Slot} (hl : lv_has ls 7 [(0, .ref (ad 48)), (1, .ref (ad 3)), (3, .int v3)]) {H : Heap} {locs : List Loc} (hP : va_P D vwCl (GX cy ad tk sp nm tp kp cu se ur ab lo im sy un en ra li i2) H) (hS : va_S (Ac ad 89) s.heap H locs) : W p l e ({ frames := 1, cells := 0, slots := 0, locals := 23 } : Room) s m args below meth c H locs 0 0 (MQ below (QR none D (GX cy ad tk sp nm tp kp q.1 se ur ab lo im sy un en ra q.2 i2) (Ac ad 89)) args s 0 0 (Ac ad 89)) (F0 m 107 ls []) := by
  obtain ⟨hx, hb, hml, hown, hts, hr, hlk⟩ := id C
  unfold X4_addRow_107 at h
  refine lv_aload_n hx hb dX4_addRow_107 rfl (lv_at hl 1 rfl) ?_
  refine cPi (run_V (rest := []) C (kX1_sound rfl) caX1_sound w988 ⟨rfl, rfl, Nat.le_of_ble_eq_true rfl, Nat.le_of_ble_eq_true rfl⟩ hK hN hP (rX3 hK hP) rfl hl.1 rfl (Nat.le_of_ble_eq_true rfl) dX4_addRow_108 ⟨Nat.zero_le _, Nat.zero_le _⟩) ?_
  refine lv_if_ne (tgt := 115) hx hb dX4_addRow_111 (by decide) (fun c1 => ?_) (fun c1 => ?_)
  · rw [if_neg c1] at h
    refine lv_aload_n hx hb dX4_addRow_115 rfl (lv_at hl 0 rfl) ?_
    refine gX48_0 C hK hP w390 dX4_addRow_116 ?_
    refine lv_aload_n hx hb dX4_addRow_119 rfl (lv_at hl 0 rfl) ?_
    refine gX48_5 (v := li.2.2.2.2.2.1) C hK hP rfl w395 dX4_addRow_120 ?_
    refine lv_aload_n hx hb dX4_addRow_123 rfl (lv_at hl 0 rfl) ?_
    refine gX48_12 (v := li.2.2.2.2.2.2.2.2.2.2.2.2.1) C hK hP rfl w402 dX4_addRow_124 ?_
    refine xput_i (rest := []) C hK hN hP (GX_D hI) hS eX49 (Nat.le_of_ble_eq_true rfl) w1021 hl.1 (Nat.le_of_ble_eq_true rfl) dX4_addRow_127 ⟨Nat.le_of_ble_eq_true rfl, Nat.le_of_ble_eq_true rfl⟩ ⟨Nat.zero_le _, Nat.zero_le _⟩ (fun H locs hP hS => ?_)
    have hP : va_P D vwCl (GX cy ad tk sp nm tp kp cu se ur ab lo im sy un en ra ((put_i 600 li.1 li.2.2.2.2.2.1 li.2.2.2.2.2.2.2.2.2.2.2.2.1), li.2.1, li.2.2.1, li.2.2.2.1, li.2.2.2.2.1, li.2.2.2.2.2.1, li.2.2.2.2.2.2.1, li.2.2.2.2.2.2.2.1, li.2.2.2.2.2.2.2.2.1, li.2.2.2.2.2.2.2.2.2.1, li.2.2.2.2.2.2.2.2.2.2.1, li.2.2.2.2.2.2.2.2.2.2.2.1, li.2.2.2.2.2.2.2.2.2.2.2.2.1, li.2.2.2.2.2.2.2.2.2.2.2.2.2.1, li.2.2.2.2.2.2.2.2.2.2.2.2.2.2.1, li.2.2.2.2.2.2.2.2.2.2.2.2.2.2.2.1, li.2.2.2.2.2.2.2.2.2.2.2.2.2.2.2.2.1, li.2.2.2.2.2.2.2.2.2.2.2.2.2.2.2.2.2.1, li.2.2.2.2.2.2.2.2.2.2.2.2.2.2.2.2.2.2) i2) H := hP
    refine lv_aload_n hx hb dX4_addRow_130 rfl (lv_at hl 0 rfl) ?_
    refine gX48_4 C hK hP w394 dX4_addRow_131 ?_
    refine lv_aload_n hx hb dX4_addRow_134 rfl (lv_at hl 0 rfl) ?_
    refine gX48_5 (v := li.2.2.2.2.2.1) C hK hP rfl w395 dX4_addRow_135 ?_
    refine lv_aload_n hx hb dX4_addRow_138 rfl (lv_at hl 0 rfl) ?_
    refine gX48_13 (v := li.2.2.2.2.2.2.2.2.2.2.2.2.2.1) C hK hP rfl w403 dX4_addRow_139 ?_
    refine xput_l (rest := []) C hK hN hP (GX_D hI) hS eX53 (Nat.le_of_ble_eq_true rfl) w1098 hl.1 (Nat.le_of_ble_eq_true rfl) dX4_addRow_142 ⟨Nat.le_of_ble_eq_true rfl, Nat.le_of_ble_eq_true rfl⟩ ⟨Nat.zero_le _, Nat.zero_le _⟩ (fun H locs hP hS => ?_)
    have hP : va_P D vwCl (GX cy ad tk sp nm tp kp cu se ur ab lo im sy un en ra ((put_i 600 li.1 li.2.2.2.2.2.1 li.2.2.2.2.2.2.2.2.2.2.2.2.1), li.2.1, li.2.2.1, li.2.2.2.1, (put_l 600 li.2.2.2.2.1 li.2.2.2.2.2.1 li.2.2.2.2.2.2.2.2.2.2.2.2.2.1), li.2.2.2.2.2.1, li.2.2.2.2.2.2.1, li.2.2.2.2.2.2.2.1, li.2.2.2.2.2.2.2.2.1, li.2.2.2.2.2.2.2.2.2.1, li.2.2.2.2.2.2.2.2.2.2.1, li.2.2.2.2.2.2.2.2.2.2.2.1, li.2.2.2.2.2.2.2.2.2.2.2.2.1, li.2.2.2.2.2.2.2.2.2.2.2.2.2.1, li.2.2.2.2.2.2.2.2.2.2.2.2.2.2.1, li.2.2.2.2.2.2.2.2.2.2.2.2.2.2.2.1, li.2.2.2.2.2.2.2.2.2.2.2.2.2.2.2.2.1, li.2.2.2.2.2.2.2.2.2.2.2.2.2.2.2.2.2.1, li.2.2.2.2.2.2.2.2.2.2.2.2.2.2.2.2.2.2) i2) H := hP
    refine lv_aload_n hx hb dX4_addRow_145 rfl (lv_at hl 0 rfl) ?_
    refine gX48_1 C hK hP w391 dX4_addRow_146 ?_
    refine lv_aload_n hx hb dX4_addRow_149 rfl (lv_at hl 0 rfl) ?_
    refine gX48_5 (v := li.2.2.2.2.2.1) C hK hP rfl w395 dX4_addRow_150 ?_
    refine lv_aload_n hx hb dX4_addRow_153 rfl (lv_at hl 0 rfl) ?_
    refine gX48_14 (v := li.2.2.2.2.2.2.2.2.2.2.2.2.2.2.1) C hK hP rfl w404 dX4_addRow_154 ?_
    refine lv_l2i (v := ((li.2.2.2.2.2.2.2.2.2.2.2.2.2.2.1).toInt32)) hx hb dX4_addRow_157 rfl ?_
    refine xput_i (rest := []) C hK hN hP (GX_D hI) hS eX50 (Nat.le_of_ble_eq_true rfl) w1021 hl.1 (Nat.le_of_ble_eq_true rfl) dX4_addRow_158 ⟨Nat.le_of_ble_eq_true rfl, Nat.le_of_ble_eq_true rfl⟩ ⟨Nat.zero_le _, Nat.zero_le _⟩ (fun H locs hP hS => ?_)
    have hP : va_P D vwCl (GX cy ad tk sp nm tp kp cu se ur ab lo im sy un en ra ((put_i 600 li.1 li.2.2.2.2.2.1 li.2.2.2.2.2.2.2.2.2.2.2.2.1), (put_i 600 li.2.1 li.2.2.2.2.2.1 ((li.2.2.2.2.2.2.2.2.2.2.2.2.2.2.1).toInt32)), li.2.2.1, li.2.2.2.1, (put_l 600 li.2.2.2.2.1 li.2.2.2.2.2.1 li.2.2.2.2.2.2.2.2.2.2.2.2.2.1), li.2.2.2.2.2.1, li.2.2.2.2.2.2.1, li.2.2.2.2.2.2.2.1, li.2.2.2.2.2.2.2.2.1, li.2.2.2.2.2.2.2.2.2.1, li.2.2.2.2.2.2.2.2.2.2.1, li.2.2.2.2.2.2.2.2.2.2.2.1, li.2.2.2.2.2.2.2.2.2.2.2.2.1, li.2.2.2.2.2.2.2.2.2.2.2.2.2.1, li.2.2.2.2.2.2.2.2.2.2.2.2.2.2.1, li.2.2.2.2.2.2.2.2.2.2.2.2.2.2.2.1, li.2.2.2.2.2.2.2.2.2.2.2.2.2.2.2.2.1, li.2.2.2.2.2.2.2.2.2.2.2.2.2.2.2.2.2.1, li.2.2.2.2.2.2.2.2.2.2.2.2.2.2.2.2.2.2) i2) H := hP
    refine lv_aload_n hx hb dX4_addRow_161 rfl (lv_at hl 0 rfl) ?_
    refine gX48_2 C hK hP w392 dX4_addRow_162 ?_
    refine lv_aload_n hx hb dX4_addRow_165 rfl (lv_at hl 0 rfl) ?_
    refine gX48_5 (v := li.2.2.2.2.2.1) C hK hP rfl w395 dX4_addRow_166 ?_
    refine lv_aload_n hx hb dX4_addRow_169 rfl (lv_at hl 0 rfl) ?_
    refine gX48_15 (v := li.2.2.2.2.2.2.2.2.2.2.2.2.2.2.2.1) C hK hP rfl w405 dX4_addRow_170 ?_
    refine lv_l2i (v := ((li.2.2.2.2.2.2.2.2.2.2.2.2.2.2.2.1).toInt32)) hx hb dX4_addRow_173 rfl ?_
    refine xput_i (rest := []) C hK hN hP (GX_D hI) hS eX51 (Nat.le_of_ble_eq_true rfl) w1021 hl.1 (Nat.le_of_ble_eq_true rfl) dX4_addRow_174 ⟨Nat.le_of_ble_eq_true rfl, Nat.le_of_ble_eq_true rfl⟩ ⟨Nat.zero_le _, Nat.zero_le _⟩ (fun H locs hP hS => ?_)
    have hP : va_P D vwCl (GX cy ad tk sp nm tp kp cu se ur ab lo im sy un en ra ((put_i 600 li.1 li.2.2.2.2.2.1 li.2.2.2.2.2.2.2.2.2.2.2.2.1), (put_i 600 li.2.1 li.2.2.2.2.2.1 ((li.2.2.2.2.2.2.2.2.2.2.2.2.2.2.1).toInt32)), (put_i 600 li.2.2.1 li.2.2.2.2.2.1 ((li.2.2.2.2.2.2.2.2.2.2.2.2.2.2.2.1).toInt32)), li.2.2.2.1, (put_l 600 li.2.2.2.2.1 li.2.2.2.2.2.1 li.2.2.2.2.2.2.2.2.2.2.2.2.2.1), li.2.2.2.2.2.1, li.2.2.2.2.2.2.1, li.2.2.2.2.2.2.2.1, li.2.2.2.2.2.2.2.2.1, li.2.2.2.2.2.2.2.2.2.1, li.2.2.2.2.2.2.2.2.2.2.1, li.2.2.2.2.2.2.2.2.2.2.2.1, li.2.2.2.2.2.2.2.2.2.2.2.2.1, li.2.2.2.2.2.2.2.2.2.2.2.2.2.1, li.2.2.2.2.2.2.2.2.2.2.2.2.2.2.1, li.2.2.2.2.2.2.2.2.2.2.2.2.2.2.2.1, li.2.2.2.2.2.2.2.2.2.2.2.2.2.2.2.2.1, li.2.2.2.2.2.2.2.2.2.2.2.2.2.2.2.2.2.1, li.2.2.2.2.2.2.2.2.2.2.2.2.2.2.2.2.2.2) i2) H := hP
    refine lv_aload_n hx hb dX4_addRow_177 rfl (lv_at hl 0 rfl) ?_
    refine gX48_3 C hK hP w393 dX4_addRow_178 ?_
    refine lv_aload_n hx hb dX4_addRow_181 rfl (lv_at hl 0 rfl) ?_
    refine gX48_5 (v := li.2.2.2.2.2.1) C hK hP rfl w395 dX4_addRow_182 ?_
    refine lv_iload_n hx hb dX4_addRow_185 rfl (lv_at hl 2 rfl) ?_
    refine xput_i (rest := []) C hK hN hP (GX_D hI) hS eX52 (Nat.le_of_ble_eq_true rfl) w1021 hl.1 (Nat.le_of_ble_eq_true rfl) dX4_addRow_186 ⟨Nat.le_of_ble_eq_true rfl, Nat.le_of_ble_eq_true rfl⟩ ⟨Nat.zero_le _, Nat.zero_le _⟩ (fun H locs hP hS => ?_)
    have hP : va_P D vwCl (GX cy ad tk sp nm tp kp cu se ur ab lo im sy un en ra ((put_i 600 li.1 li.2.2.2.2.2.1 li.2.2.2.2.2.2.2.2.2.2.2.2.1), (put_i 600 li.2.1 li.2.2.2.2.2.1 ((li.2.2.2.2.2.2.2.2.2.2.2.2.2.2.1).toInt32)), (put_i 600 li.2.2.1 li.2.2.2.2.2.1 ((li.2.2.2.2.2.2.2.2.2.2.2.2.2.2.2.1).toInt32)), (put_i 600 li.2.2.2.1 li.2.2.2.2.2.1 v3), (put_l 600 li.2.2.2.2.1 li.2.2.2.2.2.1 li.2.2.2.2.2.2.2.2.2.2.2.2.2.1), li.2.2.2.2.2.1, li.2.2.2.2.2.2.1, li.2.2.2.2.2.2.2.1, li.2.2.2.2.2.2.2.2.1, li.2.2.2.2.2.2.2.2.2.1, li.2.2.2.2.2.2.2.2.2.2.1, li.2.2.2.2.2.2.2.2.2.2.2.1, li.2.2.2.2.2.2.2.2.2.2.2.2.1, li.2.2.2.2.2.2.2.2.2.2.2.2.2.1, li.2.2.2.2.2.2.2.2.2.2.2.2.2.2.1, li.2.2.2.2.2.2.2.2.2.2.2.2.2.2.2.1, li.2.2.2.2.2.2.2.2.2.2.2.2.2.2.2.2.1, li.2.2.2.2.2.2.2.2.2.2.2.2.2.2.2.2.2.1, li.2.2.2.2.2.2.2.2.2.2.2.2.2.2.2.2.2.2) i2) H := hP
    refine lv_aload_n hx hb dX4_addRow_189 rfl (lv_at hl 0 rfl) ?_
    refine lv_dup hx hb dX4_addRow_190 rfl ?_
    refine gX48_5 (v := li.2.2.2.2.2.1) C hK hP rfl w395 dX4_addRow_191 ?_
    refine lv_iconst (v := (1 : Int32)) hx hb dX4_addRow_194 (by decide) ?_
    refine lv_iadd hx hb dX4_addRow_195 ?_
    refine pX48_5 (v := (li.2.2.2.2.2.1 + (1 : Int32))) C hI hK hP hS w395 dX4_addRow_196 (fun H locs hP hS => ?_)
    have hP : va_P D vwCl (GX cy ad tk sp nm tp kp cu se ur ab lo im sy un en ra ((put_i 600 li.1 li.2.2.2.2.2.1 li.2.2.2.2.2.2.2.2.2.2.2.2.1), (put_i 600 li.2.1 li.2.2.2.2.2.1 ((li.2.2.2.2.2.2.2.2.2.2.2.2.2.2.1).toInt32)), (put_i 600 li.2.2.1 li.2.2.2.2.2.1 ((li.2.2.2.2.2.2.2.2.2.2.2.2.2.2.2.1).toInt32)), (put_i 600 li.2.2.2.1 li.2.2.2.2.2.1 v3), (put_l 600 li.2.2.2.2.1 li.2.2.2.2.2.1 li.2.2.2.2.2.2.2.2.2.2.2.2.2.1), (li.2.2.2.2.2.1 + (1 : Int32)), li.2.2.2.2.2.2.1, li.2.2.2.2.2.2.2.1, li.2.2.2.2.2.2.2.2.1, li.2.2.2.2.2.2.2.2.2.1, li.2.2.2.2.2.2.2.2.2.2.1, li.2.2.2.2.2.2.2.2.2.2.2.1, li.2.2.2.2.2.2.2.2.2.2.2.2.1, li.2.2.2.2.2.2.2.2.2.2.2.2.2.1, li.2.2.2.2.2.2.2.2.2.2.2.2.2.2.1, li.2.2.2.2.2.2.2.2.2.2.2.2.2.2.2.1, li.2.2.2.2.2.2.2.2.2.2.2.2.2.2.2.2.1, li.2.2.2.2.2.2.2.2.2.2.2.2.2.2.2.2.2.1, li.2.2.2.2.2.2.2.2.2.2.2.2.2.2.2.2.2.2) i2) H := hP
    refine lv_aload_n hx hb dX4_addRow_199 rfl (lv_at hl 0 rfl) ?_
    refine lv_iconst (v := (1 : Int32)) hx hb dX4_addRow_200 (by decide) ?_
    refine pX48_18 (v := (1 : Int32)) C hI hK hP hS (by decide) w408 dX4_addRow_201 (fun H locs hP hS => ?_)
    have hP : va_P D vwCl (GX cy ad tk sp nm tp kp cu se ur ab lo im sy un en ra ((put_i 600 li.1 li.2.2.2.2.2.1 li.2.2.2.2.2.2.2.2.2.2.2.2.1), (put_i 600 li.2.1 li.2.2.2.2.2.1 ((li.2.2.2.2.2.2.2.2.2.2.2.2.2.2.1).toInt32)), (put_i 600 li.2.2.1 li.2.2.2.2.2.1 ((li.2.2.2.2.2.2.2.2.2.2.2.2.2.2.2.1).toInt32)), (put_i 600 li.2.2.2.1 li.2.2.2.2.2.1 v3), (put_l 600 li.2.2.2.2.1 li.2.2.2.2.2.1 li.2.2.2.2.2.2.2.2.2.2.2.2.2.1), (li.2.2.2.2.2.1 + (1 : Int32)), li.2.2.2.2.2.2.1, li.2.2.2.2.2.2.2.1, li.2.2.2.2.2.2.2.2.1, li.2.2.2.2.2.2.2.2.2.1, li.2.2.2.2.2.2.2.2.2.2.1, li.2.2.2.2.2.2.2.2.2.2.2.1, li.2.2.2.2.2.2.2.2.2.2.2.2.1, li.2.2.2.2.2.2.2.2.2.2.2.2.2.1, li.2.2.2.2.2.2.2.2.2.2.2.2.2.2.1, li.2.2.2.2.2.2.2.2.2.2.2.2.2.2.2.1, li.2.2.2.2.2.2.2.2.2.2.2.2.2.2.2.2.1, li.2.2.2.2.2.2.2.2.2.2.2.2.2.2.2.2.2.1, (1 : Int32)) i2) H := hP
    obtain rfl := h
    exact W.vret hx hb hr (fun t ht _ => ⟨rfl, by rw [ht]; exact hP, hS.F ht⟩) hS.2.2 dX4_addRow_204 hlk
  · rw [if_pos c1] at h
    obtain rfl := h
    exact W.vret hx hb hr (fun t ht _ => ⟨rfl, by rw [ht]; exact hP, hS.F ht⟩) hS.2.2 dX4_addRow_114 hlk
def X4_addRow_82   (cu : Tcu) (li : Tli) (v2 : Int32) (v3 : Int32) : Tcu × Tli := (letq (X1_refuse cu (2 : Int32) v2) fun q1 => X4_addRow_107 q1 li v3)
set_option maxRecDepth 20000 in
theorem bX4_addRow_82 (C : Cx p s m args meth c cX4_addRow 7 none RX4 (.code yX4_addRow cX4_addRow 7 none)) (hI : Apart ad 89) (hK : va_K D vwCl (tysX cy) s) (hN : NW s)  {q : Tcu × Tli}  {v2 : Int32} {v3 : Int32} (h : X4_addRow_82 cu li v2 v3 = q) {ls : Array Slot} (hl : lv_has ls 7 [(0, .ref (ad 48)), (1, .ref (ad 3)), (2, .int v2), (3, .int v3)]) {H : Heap} {locs : List Loc} (hP : va_P D vwCl (GX cy ad tk sp nm tp kp cu se ur ab lo im sy un en ra li i2) H) (hS : va_S (Ac ad 89) s.heap H locs) : W p l e ({ frames := 1, cells := 0, slots := 0, locals := 23 } : Room) s m args below meth c H locs 0 0 (MQ below (QR none D (GX cy ad tk sp nm tp kp q.1 se ur ab lo im sy un en ra q.2 i2) (Ac ad 89)) args s 0 0 (Ac ad 89)) (F0 m 82 ls []) := by
  obtain ⟨hx, hb, hml, hown, hts, hr, hlk⟩ := id C
  unfold X4_addRow_82 at h
  refine lv_aload_n hx hb dX4_addRow_82 rfl (lv_at hl 1 rfl) ?_
  refine lv_iconst (v := (2 : Int32)) hx hb dX4_addRow_83 (by decide) ?_
  refine lv_iload_n hx hb dX4_addRow_84 rfl (lv_at hl 2 rfl) ?_
  obtain ⟨q1, h2, h⟩ := lets h
  refine cRv (run_V (rest := []) C (kX1_refuse hI h2) caX1_refuse w1001 ⟨rfl, rfl, Nat.le_of_ble_eq_true rfl, Nat.le_of_ble_eq_true rfl⟩ hK hN hP (rX3 hK hP) rfl hl.1 rfl (Nat.le_of_ble_eq_true rfl) dX4_addRow_85 ⟨Nat.zero_le _, Nat.zero_le _⟩) hS (fun H locs hP hS => ?_)
  have hP : va_P D vwCl (GX cy ad tk sp nm tp kp q1 se ur ab lo im sy un en ra li i2) H := hP
  refine lv_goto (tgt := 107) hx hb dX4_addRow_88 (by decide) ?_
  exact bX4_addRow_107 C hI hK hN h (lv_sub hl [0, 1, 3] rfl) hP hS
def X4_addRow_48   (cu : Tcu) (li : Tli) (v2 : Int32) (v3 : Int32) (z0 : Int32) : Tcu × Tli := (if z0 = 0 then X4_addRow_82 cu li v2 v3 else (if (X4_isRegister li.2.2.2.2.2.2.2.2.2.2.2.2.2.2.1) = 0 then X4_addRow_82 cu li v2 v3 else (if li.2.2.2.2.2.2.2.2.2.2.2.2.2.2.2.2.2.1 = 0 then (if (X4_isRegister li.2.2.2.2.2.2.2.2.2.2.2.2.2.2.2.1) = 0 then X4_addRow_82 cu li v2 v3 else (if li.2.2.2.2.2.1 < (600 : Int32) then X4_addRow_107 cu li v3 else (letq (X1_refuse cu (4 : Int32) v2) fun q6 => X4_addRow_107 q6 li v3))) else X4_addRow_82 cu li v2 v3)))
set_option maxRecDepth 20000 in
theorem bX4_addRow_48 (C : Cx p s m args meth c cX4_addRow 7 none RX4 (.code yX4_addRow cX4_addRow 7 none)) (hI : Apart ad 89) (hK : va_K D vwCl (tysX cy) s) (hN : NW s)  {q : Tcu × Tli}  {v2 : Int32} {v3 : Int32} {z0 : Int32} (h : X4_addRow_48 cu li v2 v3 z0 = q) {ls : Array Slot} (hl : lv_has ls 7 [(0, .ref (ad 48)), (1, .ref (ad 3)), (2, .int v2), (3, .int v3)]) {H : Heap} {locs : List Loc} (hP : va_P D vwCl (GX cy ad tk sp nm tp kp cu se ur ab lo im sy un en ra li i2) H) (hS : va_S (Ac ad 89) s.heap H locs) : W p l e ({ frames := 1, cells := 0, slots := 0, locals := 23 } : Room) s m args below meth c H locs 0 0 (MQ below (QR none D (GX cy ad tk sp nm tp kp q.1 se ur ab lo im sy un en ra q.2 i2) (Ac ad 89)) args s 0 0 (Ac ad 89)) (F0 m 48 ls [.int z0]) := by
  obtain ⟨hx, hb, hml, hown, hts, hr, hlk⟩ := id C
  unfold X4_addRow_48 at h
  refine lv_istore (lv' := [(6, .int z0), (0, .ref (ad 48)), (1, .ref (ad 3)), (2, .int v2), (3, .int v3)]) hx hb dX4_addRow_48 hl (by decide) rfl (fun ls hl => ?_)
  refine lv_iload hx hb dX4_addRow_50 (lv_at hl 0 rfl) ?_
  refine lv_if_eq (tgt := 82) hx hb dX4_addRow_52 (by decide) (fun c1 => ?_) (fun c1 => ?_)
  · rw [if_pos c1] at h
    exact bX4_addRow_82 C hI hK hN h (lv_sub hl [1, 2, 3, 4] rfl) hP hS
  · rw [if_neg c1] at h
    refine lv_aload_n hx hb dX4_addRow_55 rfl (lv_at hl 1 rfl) ?_
    refine gX48_14 (v := li.2.2.2.2.2.2.2.2.2.2.2.2.2.2.1) C hK hP rfl w404 dX4_addRow_56 ?_
    refine cPi (run_S (rest := []) C (kX4_isRegister rfl) caX4_isRegister w1094 ⟨rfl, rfl, Nat.le_of_ble_eq_true rfl, Nat.le_of_ble_eq_true rfl⟩ hK hN hP rfl hl.1 rfl (Nat.le_of_ble_eq_true rfl) dX4_addRow_59 ⟨Nat.zero_le _, Nat.zero_le _⟩) ?_
    refine lv_if_eq (tgt := 82) hx hb dX4_addRow_62 (by decide) (fun c2 => ?_) (fun c2 => ?_)
    · rw [if_pos c2] at h
      exact bX4_addRow_82 C hI hK hN h (lv_sub hl [1, 2, 3, 4] rfl) hP hS
    · rw [if_neg c2] at h
      refine lv_aload_n hx hb dX4_addRow_65 rfl (lv_at hl 1 rfl) ?_
      refine gX48_17 (v := li.2.2.2.2.2.2.2.2.2.2.2.2.2.2.2.2.2.1) C hK hP rfl w407 dX4_addRow_66 ?_
      refine lv_if_ne (tgt := 82) hx hb dX4_addRow_69 (by decide) (fun c3 => ?_) (fun c3 => ?_)
      · rw [if_neg c3] at h
        exact bX4_addRow_82 C hI hK hN h (lv_sub hl [1, 2, 3, 4] rfl) hP hS
      · rw [if_pos c3] at h
        refine lv_aload_n hx hb dX4_addRow_72 rfl (lv_at hl 1 rfl) ?_
        refine gX48_15 (v := li.2.2.2.2.2.2.2.2.2.2.2.2.2.2.2.1) C hK hP rfl w405 dX4_addRow_73 ?_
        refine cPi (run_S (rest := []) C (kX4_isRegister rfl) caX4_isRegister w1094 ⟨rfl, rfl, Nat.le_of_ble_eq_true rfl, Nat.le_of_ble_eq_true rfl⟩ hK hN hP rfl hl.1 rfl (Nat.le_of_ble_eq_true rfl) dX4_addRow_76 ⟨Nat.zero_le _, Nat.zero_le _⟩) ?_
        refine lv_if_ne (tgt := 91) hx hb dX4_addRow_79 (by decide) (fun c4 => ?_) (fun c4 => ?_)
        · rw [if_neg c4] at h
          refine lv_aload_n hx hb dX4_addRow_91 rfl (lv_at hl 1 rfl) ?_
          refine gX48_5 (v := li.2.2.2.2.2.1) C hK hP rfl w395 dX4_addRow_92 ?_
          refine lv_sipush (v := (600 : Int32)) hx hb dX4_addRow_95 (by decide) ?_
          refine lv_icmp_lt (tgt := 107) hx hb dX4_addRow_98 (by decide) (fun c5 => ?_) (fun c5 => ?_)
          · rw [if_pos c5] at h
            exact bX4_addRow_107 C hI hK hN h (lv_sub hl [1, 2, 4] rfl) hP hS
          · rw [if_neg c5] at h
            refine lv_aload_n hx hb dX4_addRow_101 rfl (lv_at hl 2 rfl) ?_
            refine lv_iconst (v := (4 : Int32)) hx hb dX4_addRow_102 (by decide) ?_
            refine lv_iload_n hx hb dX4_addRow_103 rfl (lv_at hl 3 rfl) ?_
            obtain ⟨q6, h7, h⟩ := lets h
            refine cRv (run_V (rest := []) C (kX1_refuse hI h7) caX1_refuse w1001 ⟨rfl, rfl, Nat.le_of_ble_eq_true rfl, Nat.le_of_ble_eq_true rfl⟩ hK hN hP (rX3 hK hP) rfl hl.1 rfl (Nat.le_of_ble_eq_true rfl) dX4_addRow_104 ⟨Nat.zero_le _, Nat.zero_le _⟩) hS (fun H locs hP hS => ?_)
            have hP : va_P D vwCl (GX cy ad tk sp nm tp kp q6 se ur ab lo im sy un en ra li i2) H := hP
            exact bX4_addRow_107 C hI hK hN h (lv_sub hl [1, 2, 4] rfl) hP hS
        · rw [if_pos c4] at h
          exact bX4_addRow_82 C hI hK hN h (lv_sub hl [1, 2, 3, 4] rfl) hP hS
def X4_addRow_47   (cu : Tcu) (li : Tli) (v2 : Int32) (v3 : Int32) : Tcu × Tli := X4_addRow_48 cu li v2 v3 (0 : Int32)
set_option maxRecDepth 20000 in
theorem bX4_addRow_47 (C : Cx p s m args meth c cX4_addRow 7 none RX4 (.code yX4_addRow cX4_addRow 7 none)) (hI : Apart ad 89) (hK : va_K D vwCl (tysX cy) s) (hN : NW s)  {q : Tcu × Tli}  {v2 : Int32} {v3 : Int32} (h : X4_addRow_47 cu li v2 v3 = q) {ls : Array Slot} (hl : lv_has ls 7 [(0, .ref (ad 48)), (1, .ref (ad 3)), (2, .int v2), (3, .int v3)]) {H : Heap} {locs : List Loc} (hP : va_P D vwCl (GX cy ad tk sp nm tp kp cu se ur ab lo im sy un en ra li i2) H) (hS : va_S (Ac ad 89) s.heap H locs) : W p l e ({ frames := 1, cells := 0, slots := 0, locals := 23 } : Room) s m args below meth c H locs 0 0 (MQ below (QR none D (GX cy ad tk sp nm tp kp q.1 se ur ab lo im sy un en ra q.2 i2) (Ac ad 89)) args s 0 0 (Ac ad 89)) (F0 m 47 ls []) := by
  obtain ⟨hx, hb, hml, hown, hts, hr, hlk⟩ := id C
  unfold X4_addRow_47 at h
  refine lv_iconst (v := (0 : Int32)) hx hb dX4_addRow_47 (by decide) ?_
  exact bX4_addRow_48 C hI hK hN h (lv_sub hl [0, 1, 2, 3] rfl) hP hS
def X4_addRow_24   (cu : Tcu) (li : Tli) (v2 : Int32) (v3 : Int32) (z0 : Int64) : Tcu × Tli := (if li.2.2.2.2.2.2.2.2.2.2.2.2.2.2.2.2.1 = 0 then (if li.2.2.2.2.2.2.2.2.2.2.2.2.2.1 < z0 then X4_addRow_47 cu li v2 v3 else X4_addRow_48 cu li v2 v3 (1 : Int32)) else X4_addRow_47 cu li v2 v3)
set_option maxRecDepth 20000 in
theorem bX4_addRow_24 (C : Cx p s m args meth c cX4_addRow 7 none RX4 (.code yX4_addRow cX4_addRow 7 none)) (hI : Apart ad 89) (hK : va_K D vwCl (tysX cy) s) (hN : NW s)  {q : Tcu × Tli}  {v2 : Int32} {v3 : Int32} {z0 : Int64} (h : X4_addRow_24 cu li v2 v3 z0 = q) {ls : Array Slot} (hl : lv_has ls 7 [(0, .ref (ad 48)), (1, .ref (ad 3)), (2, .int v2), (3, .int v3)]) {H : Heap} {locs : List Loc} (hP : va_P D vwCl (GX cy ad tk sp nm tp kp cu se ur ab lo im sy un en ra li i2) H) (hS : va_S (Ac ad 89) s.heap H locs) : W p l e ({ frames := 1, cells := 0, slots := 0, locals := 23 } : Room) s m args below meth c H locs 0 0 (MQ below (QR none D (GX cy ad tk sp nm tp kp q.1 se ur ab lo im sy un en ra q.2 i2) (Ac ad 89)) args s 0 0 (Ac ad 89)) (F0 m 24 ls [.long z0]) := by
  obtain ⟨hx, hb, hml, hown, hts, hr, hlk⟩ := id C
  unfold X4_addRow_24 at h
  refine lv_lstore (lv' := [(4, .long z0), (0, .ref (ad 48)), (1, .ref (ad 3)), (2, .int v2), (3, .int v3)]) hx hb dX4_addRow_24 hl (by decide) rfl (fun ls hl => ?_)
  refine lv_aload_n hx hb dX4_addRow_26 rfl (lv_at hl 1 rfl) ?_
  refine gX48_16 (v := li.2.2.2.2.2.2.2.2.2.2.2.2.2.2.2.2.1) C hK hP rfl w406 dX4_addRow_27 ?_
  refine lv_if_ne (tgt := 47) hx hb dX4_addRow_30 (by decide) (fun c1 => ?_) (fun c1 => ?_)
  · rw [if_neg c1] at h
    exact bX4_addRow_47 C hI hK hN h (lv_sub hl [1, 2, 3, 4] rfl) hP hS
  · rw [if_pos c1] at h
    refine lv_aload_n hx hb dX4_addRow_33 rfl (lv_at hl 1 rfl) ?_
    refine gX48_13 (v := li.2.2.2.2.2.2.2.2.2.2.2.2.2.1) C hK hP rfl w403 dX4_addRow_34 ?_
    refine lv_lload hx hb dX4_addRow_37 (lv_at hl 0 rfl) ?_
    refine lc_lt (tgt := 47) hx hb dX4_addRow_39 dX4_addRow_40 (by decide) (fun c2 => ?_) (fun c2 => ?_)
    · rw [if_pos c2] at h
      exact bX4_addRow_47 C hI hK hN h (lv_sub hl [1, 2, 3, 4] rfl) hP hS
    · rw [if_neg c2] at h
      refine lv_iconst (v := (1 : Int32)) hx hb dX4_addRow_43 (by decide) ?_
      refine lv_goto (tgt := 48) hx hb dX4_addRow_44 (by decide) ?_
      exact bX4_addRow_48 C hI hK hN h (lv_sub hl [1, 2, 3, 4] rfl) hP hS
def X4_addRow (cu : Tcu) (li : Tli) (v2 : Int32) (v3 : Int32) : Tcu × Tli := (if li.2.2.2.2.2.2.2.2.2.2.2.2.2.2.2.2.2.2 = 0 then X4_addRow_24 cu li v2 v3 (0 : Int64) else X4_addRow_24 cu li v2 v3 (at_l 600 li.2.2.2.2.1 (li.2.2.2.2.2.1 - (1 : Int32))))
set_option maxRecDepth 20000 in
theorem bX4_addRow_0 (C : Cx p s m args meth c cX4_addRow 7 none RX4 (.code yX4_addRow cX4_addRow 7 none)) (hI : Apart ad 89) (hK : va_K D vwCl (tysX cy) s) (hN : NW s)  {q : Tcu × Tli}  {v2 : Int32} {v3 : Int32} (h : X4_addRow cu li v2 v3 = q) {ls : Array Slot} (hl : lv_has ls 7 [(0, .ref (ad 48)), (1, .ref (ad 3)), (2, .int v2), (3, .int v3)]) {H : Heap} {locs : List Loc} (hP : va_P D vwCl (GX cy ad tk sp nm tp kp cu se ur ab lo im sy un en ra li i2) H) (hS : va_S (Ac ad 89) s.heap H locs) : W p l e ({ frames := 1, cells := 0, slots := 0, locals := 23 } : Room) s m args below meth c H locs 0 0 (MQ below (QR none D (GX cy ad tk sp nm tp kp q.1 se ur ab lo im sy un en ra q.2 i2) (Ac ad 89)) args s 0 0 (Ac ad 89)) (F0 m 0 ls []) := by
  obtain ⟨hx, hb, hml, hown, hts, hr, hlk⟩ := id C
  unfold X4_addRow at h
  refine lv_aload_n hx hb dX4_addRow_0 rfl (lv_at hl 0 rfl) ?_
  refine gX48_18 (v := li.2.2.2.2.2.2.2.2.2.2.2.2.2.2.2.2.2.2) C hK hP rfl w408 dX4_addRow_1 ?_
  refine lv_if_eq (tgt := 23) hx hb dX4_addRow_4 (by decide) (fun c1 => ?_) (fun c1 => ?_)
  · rw [if_pos c1] at h
    refine lv_lconst (v := (0 : Int64)) hx hb dX4_addRow_23 (by decide) ?_
    exact bX4_addRow_24 C hI hK hN h (lv_sub hl [0, 1, 2, 3] rfl) hP hS
  · rw [if_neg c1] at h
    refine lv_aload_n hx hb dX4_addRow_7 rfl (lv_at hl 0 rfl) ?_
    refine gX48_4 C hK hP w394 dX4_addRow_8 ?_
    refine lv_aload_n hx hb dX4_addRow_11 rfl (lv_at hl 0 rfl) ?_
    refine gX48_5 (v := li.2.2.2.2.2.1) C hK hP rfl w395 dX4_addRow_12 ?_
    refine lv_iconst (v := (1 : Int32)) hx hb dX4_addRow_15 (by decide) ?_
    refine lv_isub hx hb dX4_addRow_16 ?_
    refine xat_l (rest := []) C hK hN hP eX53 (Nat.le_of_ble_eq_true rfl) w1093 hl.1 (Nat.le_of_ble_eq_true rfl) dX4_addRow_17 ⟨Nat.le_of_ble_eq_true rfl, Nat.le_of_ble_eq_true rfl⟩ ⟨Nat.zero_le _, Nat.zero_le _⟩ ?_
    refine lv_goto (tgt := 24) hx hb dX4_addRow_20 (by decide) ?_
    exact bX4_addRow_24 C hI hK hN h (lv_sub hl [0, 1, 2, 3] rfl) hP hS
theorem kX4_addRow (hI : Apart ad 89) {v2 : Int32} {v3 : Int32} {q : Tcu × Tli} (h : X4_addRow cu li v2 v3 = q) : Met l yX4_addRow (.code yX4_addRow cX4_addRow 7 none :: WA) ({ frames := 1, cells := 0, slots := 0, locals := 23 } : Room) (va_Pc [.ref (ad 48), .ref (ad 3), .int v2, .int v3] (PR D cy (GX cy ad tk sp nm tp kp cu se ur ab lo im sy un en ra li i2))) (QR none D (GX cy ad tk sp nm tp kp q.1 se ur ab lo im sy un en ra q.2 i2) (Ac ad 89)) 0 0 (Ac ad 89) :=
  met_of (by decide) (Nat.le_of_ble_eq_true rfl) (fun p e s m below meth c ls C hP hK hN hl => bX4_addRow_0 C hI hK hN h hl hP va_S.rf)
def X4_advance (li : Tli) (v1 : Int64) : Tli := (if (li.2.2.2.2.2.2.2.2.2.2.2.2.2.1 + v1) < li.2.2.2.2.2.2.2.2.2.2.2.2.2.1 then (li.1, li.2.1, li.2.2.1, li.2.2.2.1, li.2.2.2.2.1, li.2.2.2.2.2.1, li.2.2.2.2.2.2.1, li.2.2.2.2.2.2.2.1, li.2.2.2.2.2.2.2.2.1, li.2.2.2.2.2.2.2.2.2.1, li.2.2.2.2.2.2.2.2.2.2.1, li.2.2.2.2.2.2.2.2.2.2.2.1, li.2.2.2.2.2.2.2.2.2.2.2.2.1, (li.2.2.2.2.2.2.2.2.2.2.2.2.2.1 + v1), li.2.2.2.2.2.2.2.2.2.2.2.2.2.2.1, li.2.2.2.2.2.2.2.2.2.2.2.2.2.2.2.1, (li.2.2.2.2.2.2.2.2.2.2.2.2.2.2.2.2.1 + (1 : Int32)), li.2.2.2.2.2.2.2.2.2.2.2.2.2.2.2.2.2.1, li.2.2.2.2.2.2.2.2.2.2.2.2.2.2.2.2.2.2) else (li.1, li.2.1, li.2.2.1, li.2.2.2.1, li.2.2.2.2.1, li.2.2.2.2.2.1, li.2.2.2.2.2.2.1, li.2.2.2.2.2.2.2.1, li.2.2.2.2.2.2.2.2.1, li.2.2.2.2.2.2.2.2.2.1, li.2.2.2.2.2.2.2.2.2.2.1, li.2.2.2.2.2.2.2.2.2.2.2.1, li.2.2.2.2.2.2.2.2.2.2.2.2.1, (li.2.2.2.2.2.2.2.2.2.2.2.2.2.1 + v1), li.2.2.2.2.2.2.2.2.2.2.2.2.2.2.1, li.2.2.2.2.2.2.2.2.2.2.2.2.2.2.2.1, li.2.2.2.2.2.2.2.2.2.2.2.2.2.2.2.2.1, li.2.2.2.2.2.2.2.2.2.2.2.2.2.2.2.2.2.1, li.2.2.2.2.2.2.2.2.2.2.2.2.2.2.2.2.2.2))
set_option maxRecDepth 20000 in
theorem bX4_advance_0 (C : Cx p s m args meth c cX4_advance 5 none RX4 (.code yX4_advance cX4_advance 5 none)) (hI : Apart ad 89) (hK : va_K D vwCl (tysX cy) s) (hN : NW s)  {q : Tli}  {v1 : Int64} (h : X4_advance li v1 = q) {ls : Array Slot} (hl : lv_has ls 5 [(0, .ref (ad 48)), (1, .long v1)]) {H : Heap} {locs : List Loc} (hP : va_P D vwCl (GX cy ad tk sp nm tp kp cu se ur ab lo im sy un en ra li i2) H) (hS : va_S (Ac ad 89) s.heap H locs) : W p l e ({ frames := 0, cells := 0, slots := 0, locals := 0 } : Room) s m args below meth c H locs 0 0 (MQ below (QR none D (GX cy ad tk sp nm tp kp cu se ur ab lo im sy un en ra q i2) (Ac ad 89)) args s 0 0 (Ac ad 89)) (F0 m 0 ls []) := by
  obtain ⟨hx, hb, hml, hown, hts, hr, hlk⟩ := id C
  unfold X4_advance at h
  refine lv_aload_n hx hb dX4_advance_0 rfl (lv_at hl 0 rfl) ?_
  refine gX48_13 (v := li.2.2.2.2.2.2.2.2.2.2.2.2.2.1) C hK hP rfl w403 dX4_advance_1 ?_
  refine lv_lload_n hx hb dX4_advance_4 rfl (lv_at hl 1 rfl) ?_
  refine lv_ladd hx hb dX4_advance_5 ?_
  refine lv_lstore_n (lv' := [(3, .long (li.2.2.2.2.2.2.2.2.2.2.2.2.2.1 + v1)), (0, .ref (ad 48)), (1, .long v1)]) hx hb dX4_advance_6 rfl hl (by decide) rfl (fun ls hl => ?_)
  refine lv_lload_n hx hb dX4_advance_7 rfl (lv_at hl 0 rfl) ?_
  refine lv_aload_n hx hb dX4_advance_8 rfl (lv_at hl 1 rfl) ?_
  refine gX48_13 (v := li.2.2.2.2.2.2.2.2.2.2.2.2.2.1) C hK hP rfl w403 dX4_advance_9 ?_
  refine lc_ge (tgt := 26) hx hb dX4_advance_12 dX4_advance_13 (by decide) (fun c1 => ?_) (fun c1 => ?_)
  · rw [if_neg c1] at h
    refine lv_aload_n hx hb dX4_advance_26 rfl (lv_at hl 1 rfl) ?_
    refine lv_lload_n hx hb dX4_advance_27 rfl (lv_at hl 0 rfl) ?_
    refine pX48_13 (v := (li.2.2.2.2.2.2.2.2.2.2.2.2.2.1 + v1)) C hI hK hP hS w403 dX4_advance_28 (fun H locs hP hS => ?_)
    have hP : va_P D vwCl (GX cy ad tk sp nm tp kp cu se ur ab lo im sy un en ra (li.1, li.2.1, li.2.2.1, li.2.2.2.1, li.2.2.2.2.1, li.2.2.2.2.2.1, li.2.2.2.2.2.2.1, li.2.2.2.2.2.2.2.1, li.2.2.2.2.2.2.2.2.1, li.2.2.2.2.2.2.2.2.2.1, li.2.2.2.2.2.2.2.2.2.2.1, li.2.2.2.2.2.2.2.2.2.2.2.1, li.2.2.2.2.2.2.2.2.2.2.2.2.1, (li.2.2.2.2.2.2.2.2.2.2.2.2.2.1 + v1), li.2.2.2.2.2.2.2.2.2.2.2.2.2.2.1, li.2.2.2.2.2.2.2.2.2.2.2.2.2.2.2.1, li.2.2.2.2.2.2.2.2.2.2.2.2.2.2.2.2.1, li.2.2.2.2.2.2.2.2.2.2.2.2.2.2.2.2.2.1, li.2.2.2.2.2.2.2.2.2.2.2.2.2.2.2.2.2.2) i2) H := hP
    obtain rfl := h
    exact W.vret hx hb hr (fun t ht _ => ⟨rfl, by rw [ht]; exact hP, hS.F ht⟩) hS.2.2 dX4_advance_31 hlk
  · rw [if_pos c1] at h
    refine lv_aload_n hx hb dX4_advance_16 rfl (lv_at hl 1 rfl) ?_
    refine lv_dup hx hb dX4_advance_17 rfl ?_
    refine gX48_16 (v := li.2.2.2.2.2.2.2.2.2.2.2.2.2.2.2.2.1) C hK hP rfl w406 dX4_advance_18 ?_
    refine lv_iconst (v := (1 : Int32)) hx hb dX4_advance_21 (by decide) ?_
    refine lv_iadd hx hb dX4_advance_22 ?_
    refine pX48_16 (v := (li.2.2.2.2.2.2.2.2.2.2.2.2.2.2.2.2.1 + (1 : Int32))) C hI hK hP hS w406 dX4_advance_23 (fun H locs hP hS => ?_)
    have hP : va_P D vwCl (GX cy ad tk sp nm tp kp cu se ur ab lo im sy un en ra (li.1, li.2.1, li.2.2.1, li.2.2.2.1, li.2.2.2.2.1, li.2.2.2.2.2.1, li.2.2.2.2.2.2.1, li.2.2.2.2.2.2.2.1, li.2.2.2.2.2.2.2.2.1, li.2.2.2.2.2.2.2.2.2.1, li.2.2.2.2.2.2.2.2.2.2.1, li.2.2.2.2.2.2.2.2.2.2.2.1, li.2.2.2.2.2.2.2.2.2.2.2.2.1, li.2.2.2.2.2.2.2.2.2.2.2.2.2.1, li.2.2.2.2.2.2.2.2.2.2.2.2.2.2.1, li.2.2.2.2.2.2.2.2.2.2.2.2.2.2.2.1, (li.2.2.2.2.2.2.2.2.2.2.2.2.2.2.2.2.1 + (1 : Int32)), li.2.2.2.2.2.2.2.2.2.2.2.2.2.2.2.2.2.1, li.2.2.2.2.2.2.2.2.2.2.2.2.2.2.2.2.2.2) i2) H := hP
    refine lv_aload_n hx hb dX4_advance_26 rfl (lv_at hl 1 rfl) ?_
    refine lv_lload_n hx hb dX4_advance_27 rfl (lv_at hl 0 rfl) ?_
    refine pX48_13 (v := (li.2.2.2.2.2.2.2.2.2.2.2.2.2.1 + v1)) C hI hK hP hS w403 dX4_advance_28 (fun H locs hP hS => ?_)
    have hP : va_P D vwCl (GX cy ad tk sp nm tp kp cu se ur ab lo im sy un en ra (li.1, li.2.1, li.2.2.1, li.2.2.2.1, li.2.2.2.2.1, li.2.2.2.2.2.1, li.2.2.2.2.2.2.1, li.2.2.2.2.2.2.2.1, li.2.2.2.2.2.2.2.2.1, li.2.2.2.2.2.2.2.2.2.1, li.2.2.2.2.2.2.2.2.2.2.1, li.2.2.2.2.2.2.2.2.2.2.2.1, li.2.2.2.2.2.2.2.2.2.2.2.2.1, (li.2.2.2.2.2.2.2.2.2.2.2.2.2.1 + v1), li.2.2.2.2.2.2.2.2.2.2.2.2.2.2.1, li.2.2.2.2.2.2.2.2.2.2.2.2.2.2.2.1, (li.2.2.2.2.2.2.2.2.2.2.2.2.2.2.2.2.1 + (1 : Int32)), li.2.2.2.2.2.2.2.2.2.2.2.2.2.2.2.2.2.1, li.2.2.2.2.2.2.2.2.2.2.2.2.2.2.2.2.2.2) i2) H := hP
    obtain rfl := h
    exact W.vret hx hb hr (fun t ht _ => ⟨rfl, by rw [ht]; exact hP, hS.F ht⟩) hS.2.2 dX4_advance_31 hlk
theorem kX4_advance (hI : Apart ad 89) {v1 : Int64} {q : Tli} (h : X4_advance li v1 = q) : Met l yX4_advance (.code yX4_advance cX4_advance 5 none :: WA) ({ frames := 0, cells := 0, slots := 0, locals := 0 } : Room) (va_Pc [.ref (ad 48), .long v1] (PR D cy (GX cy ad tk sp nm tp kp cu se ur ab lo im sy un en ra li i2))) (QR none D (GX cy ad tk sp nm tp kp cu se ur ab lo im sy un en ra q i2) (Ac ad 89)) 0 0 (Ac ad 89) :=
  met_of (by decide) (Nat.le_of_ble_eq_true rfl) (fun p e s m below meth c ls C hP hK hN hl => bX4_advance_0 C hI hK hN h hl hP va_S.rf)
def X4_advanceLine_35   (li : Tli) (v1 : Int64) (v3 : Int64) : Tli := (if v1 < (0 : Int64) then (if li.2.2.2.2.2.2.2.2.2.2.2.2.2.2.2.1 < v3 then (li.1, li.2.1, li.2.2.1, li.2.2.2.1, li.2.2.2.2.1, li.2.2.2.2.2.1, li.2.2.2.2.2.2.1, li.2.2.2.2.2.2.2.1, li.2.2.2.2.2.2.2.2.1, li.2.2.2.2.2.2.2.2.2.1, li.2.2.2.2.2.2.2.2.2.2.1, li.2.2.2.2.2.2.2.2.2.2.2.1, li.2.2.2.2.2.2.2.2.2.2.2.2.1, li.2.2.2.2.2.2.2.2.2.2.2.2.2.1, li.2.2.2.2.2.2.2.2.2.2.2.2.2.2.1, v3, li.2.2.2.2.2.2.2.2.2.2.2.2.2.2.2.2.1, (li.2.2.2.2.2.2.2.2.2.2.2.2.2.2.2.2.2.1 - (1 : Int32)), li.2.2.2.2.2.2.2.2.2.2.2.2.2.2.2.2.2.2) else (li.1, li.2.1, li.2.2.1, li.2.2.2.1, li.2.2.2.2.1, li.2.2.2.2.2.1, li.2.2.2.2.2.2.1, li.2.2.2.2.2.2.2.1, li.2.2.2.2.2.2.2.2.1, li.2.2.2.2.2.2.2.2.2.1, li.2.2.2.2.2.2.2.2.2.2.1, li.2.2.2.2.2.2.2.2.2.2.2.1, li.2.2.2.2.2.2.2.2.2.2.2.2.1, li.2.2.2.2.2.2.2.2.2.2.2.2.2.1, li.2.2.2.2.2.2.2.2.2.2.2.2.2.2.1, v3, li.2.2.2.2.2.2.2.2.2.2.2.2.2.2.2.2.1, li.2.2.2.2.2.2.2.2.2.2.2.2.2.2.2.2.2.1, li.2.2.2.2.2.2.2.2.2.2.2.2.2.2.2.2.2.2)) else (li.1, li.2.1, li.2.2.1, li.2.2.2.1, li.2.2.2.2.1, li.2.2.2.2.2.1, li.2.2.2.2.2.2.1, li.2.2.2.2.2.2.2.1, li.2.2.2.2.2.2.2.2.1, li.2.2.2.2.2.2.2.2.2.1, li.2.2.2.2.2.2.2.2.2.2.1, li.2.2.2.2.2.2.2.2.2.2.2.1, li.2.2.2.2.2.2.2.2.2.2.2.2.1, li.2.2.2.2.2.2.2.2.2.2.2.2.2.1, li.2.2.2.2.2.2.2.2.2.2.2.2.2.2.1, v3, li.2.2.2.2.2.2.2.2.2.2.2.2.2.2.2.2.1, li.2.2.2.2.2.2.2.2.2.2.2.2.2.2.2.2.2.1, li.2.2.2.2.2.2.2.2.2.2.2.2.2.2.2.2.2.2))
set_option maxRecDepth 20000 in
theorem bX4_advanceLine_35 (C : Cx p s m args meth c cX4_advanceLine 5 none RX4 (.code yX4_advanceLine cX4_advanceLine 5 none)) (hI : Apart ad 89) (hK : va_K D vwCl (tysX cy) s) (hN : NW s)  {q : Tli}  {v1 : Int64} {v3 : Int64} (h : X4_advanceLine_35 li v1 v3 = q) {ls : Array Slot} (hl : lv_has ls 5 [(0, .ref (ad 48)), (1, .long v1), (3, .long v3)]) {H : Heap} {locs : List Loc} (hP : va_P D vwCl (GX cy ad tk sp nm tp kp cu se ur ab lo im sy un en ra li i2) H) (hS : va_S (Ac ad 89) s.heap H locs) : W p l e ({ frames := 0, cells := 0, slots := 0, locals := 0 } : Room) s m args below meth c H locs 0 0 (MQ below (QR none D (GX cy ad tk sp nm tp kp cu se ur ab lo im sy un en ra q i2) (Ac ad 89)) args s 0 0 (Ac ad 89)) (F0 m 35 ls []) := by
  obtain ⟨hx, hb, hml, hown, hts, hr, hlk⟩ := id C
  unfold X4_advanceLine_35 at h
  refine lv_lload_n hx hb dX4_advanceLine_35 rfl (lv_at hl 1 rfl) ?_
  refine lv_lconst (v := (0 : Int64)) hx hb dX4_advanceLine_36 (by decide) ?_
  refine lc_ge (tgt := 60) hx hb dX4_advanceLine_37 dX4_advanceLine_38 (by decide) (fun c1 => ?_) (fun c1 => ?_)
  · rw [if_neg c1] at h
    refine lv_aload_n hx hb dX4_advanceLine_60 rfl (lv_at hl 0 rfl) ?_
    refine lv_lload_n hx hb dX4_advanceLine_61 rfl (lv_at hl 2 rfl) ?_
    refine pX48_15 (v := v3) C hI hK hP hS w405 dX4_advanceLine_62 (fun H locs hP hS => ?_)
    have hP : va_P D vwCl (GX cy ad tk sp nm tp kp cu se ur ab lo im sy un en ra (li.1, li.2.1, li.2.2.1, li.2.2.2.1, li.2.2.2.2.1, li.2.2.2.2.2.1, li.2.2.2.2.2.2.1, li.2.2.2.2.2.2.2.1, li.2.2.2.2.2.2.2.2.1, li.2.2.2.2.2.2.2.2.2.1, li.2.2.2.2.2.2.2.2.2.2.1, li.2.2.2.2.2.2.2.2.2.2.2.1, li.2.2.2.2.2.2.2.2.2.2.2.2.1, li.2.2.2.2.2.2.2.2.2.2.2.2.2.1, li.2.2.2.2.2.2.2.2.2.2.2.2.2.2.1, v3, li.2.2.2.2.2.2.2.2.2.2.2.2.2.2.2.2.1, li.2.2.2.2.2.2.2.2.2.2.2.2.2.2.2.2.2.1, li.2.2.2.2.2.2.2.2.2.2.2.2.2.2.2.2.2.2) i2) H := hP
    obtain rfl := h
    exact W.vret hx hb hr (fun t ht _ => ⟨rfl, by rw [ht]; exact hP, hS.F ht⟩) hS.2.2 dX4_advanceLine_65 hlk
  · rw [if_pos c1] at h
    refine lv_lload_n hx hb dX4_advanceLine_41 rfl (lv_at hl 2 rfl) ?_
    refine lv_aload_n hx hb dX4_advanceLine_42 rfl (lv_at hl 0 rfl) ?_
    refine gX48_15 (v := li.2.2.2.2.2.2.2.2.2.2.2.2.2.2.2.1) C hK hP rfl w405 dX4_advanceLine_43 ?_
    refine lc_le (tgt := 60) hx hb dX4_advanceLine_46 dX4_advanceLine_47 (by decide) (fun c2 => ?_) (fun c2 => ?_)
    · rw [if_neg c2] at h
      refine lv_aload_n hx hb dX4_advanceLine_60 rfl (lv_at hl 0 rfl) ?_
      refine lv_lload_n hx hb dX4_advanceLine_61 rfl (lv_at hl 2 rfl) ?_
      refine pX48_15 (v := v3) C hI hK hP hS w405 dX4_advanceLine_62 (fun H locs hP hS => ?_)
      have hP : va_P D vwCl (GX cy ad tk sp nm tp kp cu se ur ab lo im sy un en ra (li.1, li.2.1, li.2.2.1, li.2.2.2.1, li.2.2.2.2.1, li.2.2.2.2.2.1, li.2.2.2.2.2.2.1, li.2.2.2.2.2.2.2.1, li.2.2.2.2.2.2.2.2.1, li.2.2.2.2.2.2.2.2.2.1, li.2.2.2.2.2.2.2.2.2.2.1, li.2.2.2.2.2.2.2.2.2.2.2.1, li.2.2.2.2.2.2.2.2.2.2.2.2.1, li.2.2.2.2.2.2.2.2.2.2.2.2.2.1, li.2.2.2.2.2.2.2.2.2.2.2.2.2.2.1, v3, li.2.2.2.2.2.2.2.2.2.2.2.2.2.2.2.2.1, li.2.2.2.2.2.2.2.2.2.2.2.2.2.2.2.2.2.1, li.2.2.2.2.2.2.2.2.2.2.2.2.2.2.2.2.2.2) i2) H := hP
      obtain rfl := h
      exact W.vret hx hb hr (fun t ht _ => ⟨rfl, by rw [ht]; exact hP, hS.F ht⟩) hS.2.2 dX4_advanceLine_65 hlk
    · rw [if_pos c2] at h
      refine lv_aload_n hx hb dX4_advanceLine_50 rfl (lv_at hl 0 rfl) ?_
      refine lv_dup hx hb dX4_advanceLine_51 rfl ?_
      refine gX48_17 (v := li.2.2.2.2.2.2.2.2.2.2.2.2.2.2.2.2.2.1) C hK hP rfl w407 dX4_advanceLine_52 ?_
      refine lv_iconst (v := (1 : Int32)) hx hb dX4_advanceLine_55 (by decide) ?_
      refine lv_isub hx hb dX4_advanceLine_56 ?_
      refine pX48_17 (v := (li.2.2.2.2.2.2.2.2.2.2.2.2.2.2.2.2.2.1 - (1 : Int32))) C hI hK hP hS w407 dX4_advanceLine_57 (fun H locs hP hS => ?_)
      have hP : va_P D vwCl (GX cy ad tk sp nm tp kp cu se ur ab lo im sy un en ra (li.1, li.2.1, li.2.2.1, li.2.2.2.1, li.2.2.2.2.1, li.2.2.2.2.2.1, li.2.2.2.2.2.2.1, li.2.2.2.2.2.2.2.1, li.2.2.2.2.2.2.2.2.1, li.2.2.2.2.2.2.2.2.2.1, li.2.2.2.2.2.2.2.2.2.2.1, li.2.2.2.2.2.2.2.2.2.2.2.1, li.2.2.2.2.2.2.2.2.2.2.2.2.1, li.2.2.2.2.2.2.2.2.2.2.2.2.2.1, li.2.2.2.2.2.2.2.2.2.2.2.2.2.2.1, li.2.2.2.2.2.2.2.2.2.2.2.2.2.2.2.1, li.2.2.2.2.2.2.2.2.2.2.2.2.2.2.2.2.1, (li.2.2.2.2.2.2.2.2.2.2.2.2.2.2.2.2.2.1 - (1 : Int32)), li.2.2.2.2.2.2.2.2.2.2.2.2.2.2.2.2.2.2) i2) H := hP
      refine lv_aload_n hx hb dX4_advanceLine_60 rfl (lv_at hl 0 rfl) ?_
      refine lv_lload_n hx hb dX4_advanceLine_61 rfl (lv_at hl 2 rfl) ?_
      refine pX48_15 (v := v3) C hI hK hP hS w405 dX4_advanceLine_62 (fun H locs hP hS => ?_)
      have hP : va_P D vwCl (GX cy ad tk sp nm tp kp cu se ur ab lo im sy un en ra (li.1, li.2.1, li.2.2.1, li.2.2.2.1, li.2.2.2.2.1, li.2.2.2.2.2.1, li.2.2.2.2.2.2.1, li.2.2.2.2.2.2.2.1, li.2.2.2.2.2.2.2.2.1, li.2.2.2.2.2.2.2.2.2.1, li.2.2.2.2.2.2.2.2.2.2.1, li.2.2.2.2.2.2.2.2.2.2.2.1, li.2.2.2.2.2.2.2.2.2.2.2.2.1, li.2.2.2.2.2.2.2.2.2.2.2.2.2.1, li.2.2.2.2.2.2.2.2.2.2.2.2.2.2.1, v3, li.2.2.2.2.2.2.2.2.2.2.2.2.2.2.2.2.1, (li.2.2.2.2.2.2.2.2.2.2.2.2.2.2.2.2.2.1 - (1 : Int32)), li.2.2.2.2.2.2.2.2.2.2.2.2.2.2.2.2.2.2) i2) H := hP
      obtain rfl := h
      exact W.vret hx hb hr (fun t ht _ => ⟨rfl, by rw [ht]; exact hP, hS.F ht⟩) hS.2.2 dX4_advanceLine_65 hlk
def X4_advanceLine (li : Tli) (v1 : Int64) : Tli := (if v1 < (0 : Int64) then X4_advanceLine_35 li v1 (li.2.2.2.2.2.2.2.2.2.2.2.2.2.2.2.1 + v1) else (if (li.2.2.2.2.2.2.2.2.2.2.2.2.2.2.2.1 + v1) < li.2.2.2.2.2.2.2.2.2.2.2.2.2.2.2.1 then (li.1, li.2.1, li.2.2.1, li.2.2.2.1, li.2.2.2.2.1, li.2.2.2.2.2.1, li.2.2.2.2.2.2.1, li.2.2.2.2.2.2.2.1, li.2.2.2.2.2.2.2.2.1, li.2.2.2.2.2.2.2.2.2.1, li.2.2.2.2.2.2.2.2.2.2.1, li.2.2.2.2.2.2.2.2.2.2.2.1, li.2.2.2.2.2.2.2.2.2.2.2.2.1, li.2.2.2.2.2.2.2.2.2.2.2.2.2.1, li.2.2.2.2.2.2.2.2.2.2.2.2.2.2.1, (li.2.2.2.2.2.2.2.2.2.2.2.2.2.2.2.1 + v1), li.2.2.2.2.2.2.2.2.2.2.2.2.2.2.2.2.1, (li.2.2.2.2.2.2.2.2.2.2.2.2.2.2.2.2.2.1 + (1 : Int32)), li.2.2.2.2.2.2.2.2.2.2.2.2.2.2.2.2.2.2) else X4_advanceLine_35 li v1 (li.2.2.2.2.2.2.2.2.2.2.2.2.2.2.2.1 + v1)))
set_option maxRecDepth 20000 in
theorem bX4_advanceLine_0 (C : Cx p s m args meth c cX4_advanceLine 5 none RX4 (.code yX4_advanceLine cX4_advanceLine 5 none)) (hI : Apart ad 89) (hK : va_K D vwCl (tysX cy) s) (hN : NW s)  {q : Tli}  {v1 : Int64} (h : X4_advanceLine li v1 = q) {ls : Array Slot} (hl : lv_has ls 5 [(0, .ref (ad 48)), (1, .long v1)]) {H : Heap} {locs : List Loc} (hP : va_P D vwCl (GX cy ad tk sp nm tp kp cu se ur ab lo im sy un en ra li i2) H) (hS : va_S (Ac ad 89) s.heap H locs) : W p l e ({ frames := 0, cells := 0, slots := 0, locals := 0 } : Room) s m args below meth c H locs 0 0 (MQ below (QR none D (GX cy ad tk sp nm tp kp cu se ur ab lo im sy un en ra q i2) (Ac ad 89)) args s 0 0 (Ac ad 89)) (F0 m 0 ls []) := by
  obtain ⟨hx, hb, hml, hown, hts, hr, hlk⟩ := id C
  unfold X4_advanceLine at h
  refine lv_aload_n hx hb dX4_advanceLine_0 rfl (lv_at hl 0 rfl) ?_
  refine gX48_15 (v := li.2.2.2.2.2.2.2.2.2.2.2.2.2.2.2.1) C hK hP rfl w405 dX4_advanceLine_1 ?_
  refine lv_lload_n hx hb dX4_advanceLine_4 rfl (lv_at hl 1 rfl) ?_
  refine lv_ladd hx hb dX4_advanceLine_5 ?_
  refine lv_lstore_n (lv' := [(3, .long (li.2.2.2.2.2.2.2.2.2.2.2.2.2.2.2.1 + v1)), (0, .ref (ad 48)), (1, .long v1)]) hx hb dX4_advanceLine_6 rfl hl (by decide) rfl (fun ls hl => ?_)
  refine lv_lload_n hx hb dX4_advanceLine_7 rfl (lv_at hl 2 rfl) ?_
  refine lv_lconst (v := (0 : Int64)) hx hb dX4_advanceLine_8 (by decide) ?_
  refine lc_lt (tgt := 35) hx hb dX4_advanceLine_9 dX4_advanceLine_10 (by decide) (fun c1 => ?_) (fun c1 => ?_)
  · rw [if_pos c1] at h
    exact bX4_advanceLine_35 C hI hK hN h (lv_sub hl [1, 2, 0] rfl) hP hS
  · rw [if_neg c1] at h
    refine lv_lload_n hx hb dX4_advanceLine_13 rfl (lv_at hl 0 rfl) ?_
    refine lv_aload_n hx hb dX4_advanceLine_14 rfl (lv_at hl 1 rfl) ?_
    refine gX48_15 (v := li.2.2.2.2.2.2.2.2.2.2.2.2.2.2.2.1) C hK hP rfl w405 dX4_advanceLine_15 ?_
    refine lc_ge (tgt := 35) hx hb dX4_advanceLine_18 dX4_advanceLine_19 (by decide) (fun c2 => ?_) (fun c2 => ?_)
    · rw [if_neg c2] at h
      exact bX4_advanceLine_35 C hI hK hN h (lv_sub hl [1, 2, 0] rfl) hP hS
    · rw [if_pos c2] at h
      refine lv_aload_n hx hb dX4_advanceLine_22 rfl (lv_at hl 1 rfl) ?_
      refine lv_dup hx hb dX4_advanceLine_23 rfl ?_
      refine gX48_17 (v := li.2.2.2.2.2.2.2.2.2.2.2.2.2.2.2.2.2.1) C hK hP rfl w407 dX4_advanceLine_24 ?_
      refine lv_iconst (v := (1 : Int32)) hx hb dX4_advanceLine_27 (by decide) ?_
      refine lv_iadd hx hb dX4_advanceLine_28 ?_
      refine pX48_17 (v := (li.2.2.2.2.2.2.2.2.2.2.2.2.2.2.2.2.2.1 + (1 : Int32))) C hI hK hP hS w407 dX4_advanceLine_29 (fun H locs hP hS => ?_)
      have hP : va_P D vwCl (GX cy ad tk sp nm tp kp cu se ur ab lo im sy un en ra (li.1, li.2.1, li.2.2.1, li.2.2.2.1, li.2.2.2.2.1, li.2.2.2.2.2.1, li.2.2.2.2.2.2.1, li.2.2.2.2.2.2.2.1, li.2.2.2.2.2.2.2.2.1, li.2.2.2.2.2.2.2.2.2.1, li.2.2.2.2.2.2.2.2.2.2.1, li.2.2.2.2.2.2.2.2.2.2.2.1, li.2.2.2.2.2.2.2.2.2.2.2.2.1, li.2.2.2.2.2.2.2.2.2.2.2.2.2.1, li.2.2.2.2.2.2.2.2.2.2.2.2.2.2.1, li.2.2.2.2.2.2.2.2.2.2.2.2.2.2.2.1, li.2.2.2.2.2.2.2.2.2.2.2.2.2.2.2.2.1, (li.2.2.2.2.2.2.2.2.2.2.2.2.2.2.2.2.2.1 + (1 : Int32)), li.2.2.2.2.2.2.2.2.2.2.2.2.2.2.2.2.2.2) i2) H := hP
      refine lv_goto (tgt := 60) hx hb dX4_advanceLine_32 (by decide) ?_
      refine lv_aload_n hx hb dX4_advanceLine_60 rfl (lv_at hl 1 rfl) ?_
      refine lv_lload_n hx hb dX4_advanceLine_61 rfl (lv_at hl 0 rfl) ?_
      refine pX48_15 (v := (li.2.2.2.2.2.2.2.2.2.2.2.2.2.2.2.1 + v1)) C hI hK hP hS w405 dX4_advanceLine_62 (fun H locs hP hS => ?_)
      have hP : va_P D vwCl (GX cy ad tk sp nm tp kp cu se ur ab lo im sy un en ra (li.1, li.2.1, li.2.2.1, li.2.2.2.1, li.2.2.2.2.1, li.2.2.2.2.2.1, li.2.2.2.2.2.2.1, li.2.2.2.2.2.2.2.1, li.2.2.2.2.2.2.2.2.1, li.2.2.2.2.2.2.2.2.2.1, li.2.2.2.2.2.2.2.2.2.2.1, li.2.2.2.2.2.2.2.2.2.2.2.1, li.2.2.2.2.2.2.2.2.2.2.2.2.1, li.2.2.2.2.2.2.2.2.2.2.2.2.2.1, li.2.2.2.2.2.2.2.2.2.2.2.2.2.2.1, (li.2.2.2.2.2.2.2.2.2.2.2.2.2.2.2.1 + v1), li.2.2.2.2.2.2.2.2.2.2.2.2.2.2.2.2.1, (li.2.2.2.2.2.2.2.2.2.2.2.2.2.2.2.2.2.1 + (1 : Int32)), li.2.2.2.2.2.2.2.2.2.2.2.2.2.2.2.2.2.2) i2) H := hP
      obtain rfl := h
      exact W.vret hx hb hr (fun t ht _ => ⟨rfl, by rw [ht]; exact hP, hS.F ht⟩) hS.2.2 dX4_advanceLine_65 hlk
theorem kX4_advanceLine (hI : Apart ad 89) {v1 : Int64} {q : Tli} (h : X4_advanceLine li v1 = q) : Met l yX4_advanceLine (.code yX4_advanceLine cX4_advanceLine 5 none :: WA) ({ frames := 0, cells := 0, slots := 0, locals := 0 } : Room) (va_Pc [.ref (ad 48), .long v1] (PR D cy (GX cy ad tk sp nm tp kp cu se ur ab lo im sy un en ra li i2))) (QR none D (GX cy ad tk sp nm tp kp cu se ur ab lo im sy un en ra q i2) (Ac ad 89)) 0 0 (Ac ad 89) :=
  met_of (by decide) (Nat.le_of_ble_eq_true rfl) (fun p e s m below meth c ls C hP hK hN hl => bX4_advanceLine_0 C hI hK hN h hl hP va_S.rf)
def X4_advanceSteps (li : Tli) (v1 : Int64) : Tli := (letq (X4_advance (li.1, li.2.1, li.2.2.1, li.2.2.2.1, li.2.2.2.2.1, li.2.2.2.2.2.1, li.2.2.2.2.2.2.1, li.2.2.2.2.2.2.2.1, li.2.2.2.2.2.2.2.2.1, li.2.2.2.2.2.2.2.2.2.1, li.2.2.2.2.2.2.2.2.2.2.1, li.2.2.2.2.2.2.2.2.2.2.2.1, li.2.2.2.2.2.2.2.2.2.2.2.2.1, li.2.2.2.2.2.2.2.2.2.2.2.2.2.1, li.2.2.2.2.2.2.2.2.2.2.2.2.2.2.1, li.2.2.2.2.2.2.2.2.2.2.2.2.2.2.2.1, (li.2.2.2.2.2.2.2.2.2.2.2.2.2.2.2.2.1 + ((((((((li.2.2.2.2.2.2.1).toInt64) * ((v1).toUInt64 >>> (((32 : Int32)).toInt64.toUInt64 &&& Int64.toUInt64 63)).toInt64) + (((((li.2.2.2.2.2.2.1).toInt64) * (v1 &&& (4294967295 : Int64)))).toUInt64 >>> (((32 : Int32)).toInt64.toUInt64 &&& Int64.toUInt64 63)).toInt64)).toUInt64 >>> (((32 : Int32)).toInt64.toUInt64 &&& Int64.toUInt64 63)).toInt64).toInt32)), li.2.2.2.2.2.2.2.2.2.2.2.2.2.2.2.2.2.1, li.2.2.2.2.2.2.2.2.2.2.2.2.2.2.2.2.2.2) (((li.2.2.2.2.2.2.1).toInt64) * v1)) fun q1 => q1)
set_option maxRecDepth 20000 in
theorem bX4_advanceSteps_0 (C : Cx p s m args meth c cX4_advanceSteps 7 none RX4 (.code yX4_advanceSteps cX4_advanceSteps 7 none)) (hI : Apart ad 89) (hK : va_K D vwCl (tysX cy) s) (hN : NW s)  {q : Tli}  {v1 : Int64} (h : X4_advanceSteps li v1 = q) {ls : Array Slot} (hl : lv_has ls 7 [(0, .ref (ad 48)), (1, .long v1)]) {H : Heap} {locs : List Loc} (hP : va_P D vwCl (GX cy ad tk sp nm tp kp cu se ur ab lo im sy un en ra li i2) H) (hS : va_S (Ac ad 89) s.heap H locs) : W p l e ({ frames := 1, cells := 0, slots := 0, locals := 24 } : Room) s m args below meth c H locs 0 0 (MQ below (QR none D (GX cy ad tk sp nm tp kp cu se ur ab lo im sy un en ra q i2) (Ac ad 89)) args s 0 0 (Ac ad 89)) (F0 m 0 ls []) := by
  obtain ⟨hx, hb, hml, hown, hts, hr, hlk⟩ := id C
  unfold X4_advanceSteps at h
  refine lv_aload_n hx hb dX4_advanceSteps_0 rfl (lv_at hl 0 rfl) ?_
  refine gX48_6 (v := li.2.2.2.2.2.2.1) C hK hP rfl w396 dX4_advanceSteps_1 ?_
  refine lv_i2l (v := ((li.2.2.2.2.2.2.1).toInt64)) hx hb dX4_advanceSteps_4 rfl ?_
  refine lv_lload_n hx hb dX4_advanceSteps_5 rfl (lv_at hl 1 rfl) ?_
  refine lv_ldc2 (v := (4294967295 : Int64)) hx hb hown (hts _ (List.mem_cons_of_mem _ w1080)) dX4_advanceSteps_6 ?_
  refine lv_land hx hb dX4_advanceSteps_9 ?_
  refine lv_lmul hx hb dX4_advanceSteps_10 ?_
  refine lv_lstore_n (lv' := [(3, .long (((li.2.2.2.2.2.2.1).toInt64) * (v1 &&& (4294967295 : Int64)))), (0, .ref (ad 48)), (1, .long v1)]) hx hb dX4_advanceSteps_11 rfl hl (by decide) rfl (fun ls hl => ?_)
  refine lv_aload_n hx hb dX4_advanceSteps_12 rfl (lv_at hl 1 rfl) ?_
  refine gX48_6 (v := li.2.2.2.2.2.2.1) C hK hP rfl w396 dX4_advanceSteps_13 ?_
  refine lv_i2l (v := ((li.2.2.2.2.2.2.1).toInt64)) hx hb dX4_advanceSteps_16 rfl ?_
  refine lv_lload_n hx hb dX4_advanceSteps_17 rfl (lv_at hl 2 rfl) ?_
  refine lv_bipush (v := (32 : Int32)) hx hb dX4_advanceSteps_18 (by decide) ?_
  refine lv_lushr (v := ((v1).toUInt64 >>> (((32 : Int32)).toInt64.toUInt64 &&& Int64.toUInt64 63)).toInt64) hx hb dX4_advanceSteps_20 rfl ?_
  refine lv_lmul hx hb dX4_advanceSteps_21 ?_
  refine lv_lload_n hx hb dX4_advanceSteps_22 rfl (lv_at hl 0 rfl) ?_
  refine lv_bipush (v := (32 : Int32)) hx hb dX4_advanceSteps_23 (by decide) ?_
  refine lv_lushr (v := (((((li.2.2.2.2.2.2.1).toInt64) * (v1 &&& (4294967295 : Int64)))).toUInt64 >>> (((32 : Int32)).toInt64.toUInt64 &&& Int64.toUInt64 63)).toInt64) hx hb dX4_advanceSteps_25 rfl ?_
  refine lv_ladd hx hb dX4_advanceSteps_26 ?_
  refine lv_lstore (lv' := [(5, .long ((((li.2.2.2.2.2.2.1).toInt64) * ((v1).toUInt64 >>> (((32 : Int32)).toInt64.toUInt64 &&& Int64.toUInt64 63)).toInt64) + (((((li.2.2.2.2.2.2.1).toInt64) * (v1 &&& (4294967295 : Int64)))).toUInt64 >>> (((32 : Int32)).toInt64.toUInt64 &&& Int64.toUInt64 63)).toInt64)), (3, .long (((li.2.2.2.2.2.2.1).toInt64) * (v1 &&& (4294967295 : Int64)))), (0, .ref (ad 48)), (1, .long v1)]) hx hb dX4_advanceSteps_27 hl (by decide) rfl (fun ls hl => ?_)
  refine lv_aload_n hx hb dX4_advanceSteps_29 rfl (lv_at hl 2 rfl) ?_
  refine lv_dup hx hb dX4_advanceSteps_30 rfl ?_
  refine gX48_16 (v := li.2.2.2.2.2.2.2.2.2.2.2.2.2.2.2.2.1) C hK hP rfl w406 dX4_advanceSteps_31 ?_
  refine lv_lload hx hb dX4_advanceSteps_34 (lv_at hl 0 rfl) ?_
  refine lv_bipush (v := (32 : Int32)) hx hb dX4_advanceSteps_36 (by decide) ?_
  refine lv_lushr (v := ((((((li.2.2.2.2.2.2.1).toInt64) * ((v1).toUInt64 >>> (((32 : Int32)).toInt64.toUInt64 &&& Int64.toUInt64 63)).toInt64) + (((((li.2.2.2.2.2.2.1).toInt64) * (v1 &&& (4294967295 : Int64)))).toUInt64 >>> (((32 : Int32)).toInt64.toUInt64 &&& Int64.toUInt64 63)).toInt64)).toUInt64 >>> (((32 : Int32)).toInt64.toUInt64 &&& Int64.toUInt64 63)).toInt64) hx hb dX4_advanceSteps_38 rfl ?_
  refine lv_l2i (v := ((((((((li.2.2.2.2.2.2.1).toInt64) * ((v1).toUInt64 >>> (((32 : Int32)).toInt64.toUInt64 &&& Int64.toUInt64 63)).toInt64) + (((((li.2.2.2.2.2.2.1).toInt64) * (v1 &&& (4294967295 : Int64)))).toUInt64 >>> (((32 : Int32)).toInt64.toUInt64 &&& Int64.toUInt64 63)).toInt64)).toUInt64 >>> (((32 : Int32)).toInt64.toUInt64 &&& Int64.toUInt64 63)).toInt64).toInt32)) hx hb dX4_advanceSteps_39 rfl ?_
  refine lv_iadd hx hb dX4_advanceSteps_40 ?_
  refine pX48_16 (v := (li.2.2.2.2.2.2.2.2.2.2.2.2.2.2.2.2.1 + ((((((((li.2.2.2.2.2.2.1).toInt64) * ((v1).toUInt64 >>> (((32 : Int32)).toInt64.toUInt64 &&& Int64.toUInt64 63)).toInt64) + (((((li.2.2.2.2.2.2.1).toInt64) * (v1 &&& (4294967295 : Int64)))).toUInt64 >>> (((32 : Int32)).toInt64.toUInt64 &&& Int64.toUInt64 63)).toInt64)).toUInt64 >>> (((32 : Int32)).toInt64.toUInt64 &&& Int64.toUInt64 63)).toInt64).toInt32))) C hI hK hP hS w406 dX4_advanceSteps_41 (fun H locs hP hS => ?_)
  have hP : va_P D vwCl (GX cy ad tk sp nm tp kp cu se ur ab lo im sy un en ra (li.1, li.2.1, li.2.2.1, li.2.2.2.1, li.2.2.2.2.1, li.2.2.2.2.2.1, li.2.2.2.2.2.2.1, li.2.2.2.2.2.2.2.1, li.2.2.2.2.2.2.2.2.1, li.2.2.2.2.2.2.2.2.2.1, li.2.2.2.2.2.2.2.2.2.2.1, li.2.2.2.2.2.2.2.2.2.2.2.1, li.2.2.2.2.2.2.2.2.2.2.2.2.1, li.2.2.2.2.2.2.2.2.2.2.2.2.2.1, li.2.2.2.2.2.2.2.2.2.2.2.2.2.2.1, li.2.2.2.2.2.2.2.2.2.2.2.2.2.2.2.1, (li.2.2.2.2.2.2.2.2.2.2.2.2.2.2.2.2.1 + ((((((((li.2.2.2.2.2.2.1).toInt64) * ((v1).toUInt64 >>> (((32 : Int32)).toInt64.toUInt64 &&& Int64.toUInt64 63)).toInt64) + (((((li.2.2.2.2.2.2.1).toInt64) * (v1 &&& (4294967295 : Int64)))).toUInt64 >>> (((32 : Int32)).toInt64.toUInt64 &&& Int64.toUInt64 63)).toInt64)).toUInt64 >>> (((32 : Int32)).toInt64.toUInt64 &&& Int64.toUInt64 63)).toInt64).toInt32)), li.2.2.2.2.2.2.2.2.2.2.2.2.2.2.2.2.2.1, li.2.2.2.2.2.2.2.2.2.2.2.2.2.2.2.2.2.2) i2) H := hP
  refine lv_aload_n hx hb dX4_advanceSteps_44 rfl (lv_at hl 2 rfl) ?_
  refine lv_aload_n hx hb dX4_advanceSteps_45 rfl (lv_at hl 2 rfl) ?_
  refine gX48_6 (v := li.2.2.2.2.2.2.1) C hK hP rfl w396 dX4_advanceSteps_46 ?_
  refine lv_i2l (v := ((li.2.2.2.2.2.2.1).toInt64)) hx hb dX4_advanceSteps_49 rfl ?_
  refine lv_lload_n hx hb dX4_advanceSteps_50 rfl (lv_at hl 3 rfl) ?_
  refine lv_lmul hx hb dX4_advanceSteps_51 ?_
  obtain ⟨q1, h2, h⟩ := lets h
  refine cRv (run_V (rest := []) C (kX4_advance hI h2) caX4_advance w1081 ⟨rfl, rfl, Nat.le_of_ble_eq_true rfl, Nat.le_of_ble_eq_true rfl⟩ hK hN hP (rX48 hK hP) rfl hl.1 rfl (Nat.le_of_ble_eq_true rfl) dX4_advanceSteps_52 ⟨Nat.zero_le _, Nat.zero_le _⟩) hS (fun H locs hP hS => ?_)
  have hP : va_P D vwCl (GX cy ad tk sp nm tp kp cu se ur ab lo im sy un en ra q1 i2) H := hP
  obtain rfl := h
  exact W.vret hx hb hr (fun t ht _ => ⟨rfl, by rw [ht]; exact hP, hS.F ht⟩) hS.2.2 dX4_advanceSteps_55 hlk
theorem kX4_advanceSteps (hI : Apart ad 89) {v1 : Int64} {q : Tli} (h : X4_advanceSteps li v1 = q) : Met l yX4_advanceSteps (.code yX4_advanceSteps cX4_advanceSteps 7 none :: WA) ({ frames := 1, cells := 0, slots := 0, locals := 24 } : Room) (va_Pc [.ref (ad 48), .long v1] (PR D cy (GX cy ad tk sp nm tp kp cu se ur ab lo im sy un en ra li i2))) (QR none D (GX cy ad tk sp nm tp kp cu se ur ab lo im sy un en ra q i2) (Ac ad 89)) 0 0 (Ac ad 89) :=
  met_of (by decide) (Nat.le_of_ble_eq_true rfl) (fun p e s m below meth c ls C hP hK hN hl => bX4_advanceSteps_0 C hI hK hN h hl hP va_S.rf)
def X4_rangesIn (li : Tli) (v1 : Int32) : Option (Int32) := (if 0 < li.2.2.2.2.2.2.2.2.1 then (if nz li.2.2.2.2.2.2.2.2.1 = true then some (v1 / li.2.2.2.2.2.2.2.2.1) else none) else some (0 : Int32))
set_option maxRecDepth 20000 in
theorem bX4_rangesIn_0 (C : Cx p s m args meth c cX4_rangesIn 2 (some .int) RX4 (.code yX4_rangesIn cX4_rangesIn 2 (some .int))) (hK : va_K D vwCl (tysX cy) s) (hN : NW s)  {q : Int32}  {v1 : Int32} (h : X4_rangesIn li v1 = some q) {ls : Array Slot} (hl : lv_has ls 2 [(0, .ref (ad 48)), (1, .int v1)]) (hP : va_P D vwCl (GX cy ad tk sp nm tp kp cu se ur ab lo im sy un en ra li i2) s.heap) : W p l e ({ frames := 0, cells := 0, slots := 0, locals := 0 } : Room) s m args below meth c s.heap [] 0 0 (MQ below (QP (some (.int q))) args s 0 0 (fun _ => False)) (F0 m 0 ls []) := by
  obtain ⟨hx, hb, hml, hown, hts, hr, hlk⟩ := id C
  unfold X4_rangesIn at h
  refine lv_aload_n hx hb dX4_rangesIn_0 rfl (lv_at hl 0 rfl) ?_
  refine gX48_8 (v := li.2.2.2.2.2.2.2.2.1) C hK hP rfl w398 dX4_rangesIn_1 ?_
  refine b_if_le (tgt := 16) hx hb dX4_rangesIn_4 (by decide) (fun c1 => ?_) (fun c1 => ?_)
  · rw [if_neg c1] at h
    refine lv_iconst (v := (0 : Int32)) hx hb dX4_rangesIn_16 (by decide) ?_
    obtain rfl := Option.some.inj h
    exact W.iret hx hb hr (fun t ht _ => ⟨rfl, ht⟩) (fun _ h9 => by cases h9) dX4_rangesIn_17 hlk
  · rw [if_pos c1] at h
    refine lv_iload_n hx hb dX4_rangesIn_7 rfl (lv_at hl 1 rfl) ?_
    refine lv_aload_n hx hb dX4_rangesIn_8 rfl (lv_at hl 0 rfl) ?_
    refine gX48_8 (v := li.2.2.2.2.2.2.2.2.1) C hK hP rfl w398 dX4_rangesIn_9 ?_
    obtain ⟨n2, h⟩ := grd h
    refine lv_idiv hx hb dX4_rangesIn_12 (nz_ne n2) ?_
    refine lv_goto (tgt := 17) hx hb dX4_rangesIn_13 (by decide) ?_
    obtain rfl := Option.some.inj h
    exact W.iret hx hb hr (fun t ht _ => ⟨rfl, ht⟩) (fun _ h9 => by cases h9) dX4_rangesIn_17 hlk
theorem kX4_rangesIn  {v1 : Int32} {q : Int32} (h : X4_rangesIn li v1 = some q) : Met l yX4_rangesIn (.code yX4_rangesIn cX4_rangesIn 2 (some .int) :: WA) ({ frames := 0, cells := 0, slots := 0, locals := 0 } : Room) (va_Pc [.ref (ad 48), .int v1] (PR D cy (GX cy ad tk sp nm tp kp cu se ur ab lo im sy un en ra li i2))) (QP (some (.int q))) 0 0 (fun _ => False) :=
  met_of (by decide) (Nat.le_of_ble_eq_true rfl) (fun p e s m below meth c ls C hP hK hN hl => bX4_rangesIn_0 C hK hN h hl hP)
def X4_runExtended_95 (tp : Ttp)  (cu : Tcu) (li : Tli) (v2 : Int32) : Option (Tcu × Tli) := (letq (X1_refuse cu (2 : Int32) v2) fun q1 => some (q1, li))
set_option maxRecDepth 20000 in
theorem bX4_runExtended_95 (C : Cx p s m args meth c cX4_runExtended 7 none RX4 (.code yX4_runExtended cX4_runExtended 7 none)) (hI : Apart ad 89) (hK : va_K D vwCl (tysX cy) s) (hN : NW s)  {q : Tcu × Tli}  {v2 : Int32} (h : X4_runExtended_95 tp cu li v2 = some q) {ls : Array Slot} (hl : lv_has ls 7 [(1, .ref (ad 3)), (2, .int v2)]) {H : Heap} {locs : List Loc} (hP : va_P D vwCl (GX cy ad tk sp nm tp kp cu se ur ab lo im sy un en ra li i2) H) (hS : va_S (Ac ad 89) s.heap H locs) : W p l e ({ frames := 2, cells := 0, slots := 0, locals := 49 } : Room) s m args below meth c H locs 0 0 (MQ below (QR none D (GX cy ad tk sp nm tp kp q.1 se ur ab lo im sy un en ra q.2 i2) (Ac ad 89)) args s 0 0 (Ac ad 89)) (F0 m 95 ls []) := by
  obtain ⟨hx, hb, hml, hown, hts, hr, hlk⟩ := id C
  unfold X4_runExtended_95 at h
  refine lv_aload_n hx hb dX4_runExtended_95 rfl (lv_at hl 0 rfl) ?_
  refine lv_iconst (v := (2 : Int32)) hx hb dX4_runExtended_96 (by decide) ?_
  refine lv_iload_n hx hb dX4_runExtended_97 rfl (lv_at hl 1 rfl) ?_
  obtain ⟨q1, h2, h⟩ := lets h
  refine cRv (run_V (rest := []) C (kX1_refuse hI h2) caX1_refuse w1001 ⟨rfl, rfl, Nat.le_of_ble_eq_true rfl, Nat.le_of_ble_eq_true rfl⟩ hK hN hP (rX3 hK hP) rfl hl.1 rfl (Nat.le_of_ble_eq_true rfl) dX4_runExtended_98 ⟨Nat.zero_le _, Nat.zero_le _⟩) hS (fun H locs hP hS => ?_)
  have hP : va_P D vwCl (GX cy ad tk sp nm tp kp q1 se ur ab lo im sy un en ra li i2) H := hP
  refine lv_goto (tgt := 144) hx hb dX4_runExtended_101 (by decide) ?_
  obtain rfl := Option.some.inj h
  exact W.vret hx hb hr (fun t ht _ => ⟨rfl, by rw [ht]; exact hP, hS.F ht⟩) hS.2.2 dX4_runExtended_144 hlk
def X4_runExtended_104 (tp : Ttp)  (cu : Tcu) (li : Tli) (v2 : Int32) (v5 : Int32) (v6 : Int32) : Option (Tcu × Tli) := (if v6 = (1 : Int32) then (letq (X4_addRow cu li v2 (1 : Int32)) fun q7 => (letq (X4_beginSequence q7.2) fun q9 => some (q7.1, q9))) else (if v6 = (2 : Int32) then ((X1_numberAt tp (v5 + (1 : Int32)) (8 : Int32)).bind fun q3 => (letq (X4_setAddress li q3) fun q5 => some (cu, q5))) else some (cu, li)))
set_option maxRecDepth 20000 in
theorem bX4_runExtended_104 (C : Cx p s m args meth c cX4_runExtended 7 none RX4 (.code yX4_runExtended cX4_runExtended 7 none)) (hI : Apart ad 89) (hK : va_K D vwCl (tysX cy) s) (hN : NW s)  {q : Tcu × Tli}  {v2 : Int32} {v5 : Int32} {v6 : Int32} (h : X4_runExtended_104 tp cu li v2 v5 v6 = some q) {ls : Array Slot} (hl : lv_has ls 7 [(0, .ref (ad 48)), (1, .ref (ad 3)), (2, .int v2), (5, .int v5), (6, .int v6)]) {H : Heap} {locs : List Loc} (hP : va_P D vwCl (GX cy ad tk sp nm tp kp cu se ur ab lo im sy un en ra li i2) H) (hS : va_S (Ac ad 89) s.heap H locs) : W p l e ({ frames := 2, cells := 0, slots := 0, locals := 49 } : Room) s m args below meth c H locs 0 0 (MQ below (QR none D (GX cy ad tk sp nm tp kp q.1 se ur ab lo im sy un en ra q.2 i2) (Ac ad 89)) args s 0 0 (Ac ad 89)) (F0 m 104 ls []) := by
  obtain ⟨hx, hb, hml, hown, hts, hr, hlk⟩ := id C
  unfold X4_runExtended_104 at h
  refine lv_iload hx hb dX4_runExtended_104 (lv_at hl 4 rfl) ?_
  refine lv_iconst (v := (1 : Int32)) hx hb dX4_runExtended_106 (by decide) ?_
  refine lv_icmp_ne (tgt := 124) hx hb dX4_runExtended_107 (by decide) (fun c1 => ?_) (fun c1 => ?_)
  · rw [if_neg c1] at h
    refine lv_iload hx hb dX4_runExtended_124 (lv_at hl 4 rfl) ?_
    refine lv_iconst (v := (2 : Int32)) hx hb dX4_runExtended_126 (by decide) ?_
    refine lv_icmp_ne (tgt := 144) hx hb dX4_runExtended_127 (by decide) (fun c2 => ?_) (fun c2 => ?_)
    · rw [if_neg c2] at h
      obtain rfl := Option.some.inj h
      exact W.vret hx hb hr (fun t ht _ => ⟨rfl, by rw [ht]; exact hP, hS.F ht⟩) hS.2.2 dX4_runExtended_144 hlk
    · rw [if_pos c2] at h
      refine lv_aload_n hx hb dX4_runExtended_130 rfl (lv_at hl 0 rfl) ?_
      refine lv_aload_n hx hb dX4_runExtended_131 rfl (lv_at hl 1 rfl) ?_
      refine lv_iload hx hb dX4_runExtended_132 (lv_at hl 3 rfl) ?_
      refine lv_iconst (v := (1 : Int32)) hx hb dX4_runExtended_134 (by decide) ?_
      refine lv_iadd hx hb dX4_runExtended_135 ?_
      refine lv_bipush (v := (8 : Int32)) hx hb dX4_runExtended_136 (by decide) ?_
      obtain ⟨q3, h4, h⟩ := bnd h
      refine cPl (run_V (rest := [.ref (ad 48)]) C (kX1_numberAt h4) caX1_numberAt w1105 ⟨rfl, rfl, Nat.le_of_ble_eq_true rfl, Nat.le_of_ble_eq_true rfl⟩ hK hN hP (rX3 hK hP) rfl hl.1 rfl (Nat.le_of_ble_eq_true rfl) dX4_runExtended_138 ⟨Nat.zero_le _, Nat.zero_le _⟩) ?_
      obtain ⟨q5, h6, h⟩ := lets h
      refine cRv (run_V (rest := []) C (kX4_setAddress hI h6) caX4_setAddress w1059 ⟨rfl, rfl, Nat.le_of_ble_eq_true rfl, Nat.le_of_ble_eq_true rfl⟩ hK hN hP (rX48 hK hP) rfl hl.1 rfl (Nat.le_of_ble_eq_true rfl) dX4_runExtended_141 ⟨Nat.zero_le _, Nat.zero_le _⟩) hS (fun H locs hP hS => ?_)
      have hP : va_P D vwCl (GX cy ad tk sp nm tp kp cu se ur ab lo im sy un en ra q5 i2) H := hP
      obtain rfl := Option.some.inj h
      exact W.vret hx hb hr (fun t ht _ => ⟨rfl, by rw [ht]; exact hP, hS.F ht⟩) hS.2.2 dX4_runExtended_144 hlk
  · rw [if_pos c1] at h
    refine lv_aload_n hx hb dX4_runExtended_110 rfl (lv_at hl 0 rfl) ?_
    refine lv_aload_n hx hb dX4_runExtended_111 rfl (lv_at hl 1 rfl) ?_
    refine lv_iload_n hx hb dX4_runExtended_112 rfl (lv_at hl 2 rfl) ?_
    refine lv_iconst (v := (1 : Int32)) hx hb dX4_runExtended_113 (by decide) ?_
    obtain ⟨q7, h8, h⟩ := lets h
    refine cRv (run_V (rest := []) C (kX4_addRow hI h8) caX4_addRow w1089 ⟨rfl, rfl, Nat.le_of_ble_eq_true rfl, Nat.le_of_ble_eq_true rfl⟩ hK hN hP (rX48 hK hP) rfl hl.1 rfl (Nat.le_of_ble_eq_true rfl) dX4_runExtended_114 ⟨Nat.zero_le _, Nat.zero_le _⟩) hS (fun H locs hP hS => ?_)
    have hP : va_P D vwCl (GX cy ad tk sp nm tp kp q7.1 se ur ab lo im sy un en ra q7.2 i2) H := hP
    refine lv_aload_n hx hb dX4_runExtended_117 rfl (lv_at hl 0 rfl) ?_
    obtain ⟨q9, h10, h⟩ := lets h
    refine cRv (run_V (rest := []) C (kX4_beginSequence hI h10) caX4_beginSequence w1055 ⟨rfl, rfl, Nat.le_of_ble_eq_true rfl, Nat.le_of_ble_eq_true rfl⟩ hK hN hP (rX48 hK hP) rfl hl.1 rfl (Nat.le_of_ble_eq_true rfl) dX4_runExtended_118 ⟨Nat.zero_le _, Nat.zero_le _⟩) hS (fun H locs hP hS => ?_)
    have hP : va_P D vwCl (GX cy ad tk sp nm tp kp q7.1 se ur ab lo im sy un en ra q9 i2) H := hP
    refine lv_goto (tgt := 144) hx hb dX4_runExtended_121 (by decide) ?_
    obtain rfl := Option.some.inj h
    exact W.vret hx hb hr (fun t ht _ => ⟨rfl, by rw [ht]; exact hP, hS.F ht⟩) hS.2.2 dX4_runExtended_144 hlk
def X4_runExtended_81 (tp : Ttp)  (cu : Tcu) (li : Tli) (v2 : Int32) (v3 : Int64) (v5 : Int32) (v6 : Int32) : Option (Tcu × Tli) := (if v6 = (2 : Int32) then (if v3 = (9 : Int64) then X4_runExtended_104 tp cu li v2 v5 v6 else X4_runExtended_95 tp cu li v2) else X4_runExtended_104 tp cu li v2 v5 v6)
set_option maxRecDepth 20000 in
theorem bX4_runExtended_81 (C : Cx p s m args meth c cX4_runExtended 7 none RX4 (.code yX4_runExtended cX4_runExtended 7 none)) (hI : Apart ad 89) (hK : va_K D vwCl (tysX cy) s) (hN : NW s)  {q : Tcu × Tli}  {v2 : Int32} {v3 : Int64} {v5 : Int32} {v6 : Int32} (h : X4_runExtended_81 tp cu li v2 v3 v5 v6 = some q) {ls : Array Slot} (hl : lv_has ls 7 [(0, .ref (ad 48)), (1, .ref (ad 3)), (2, .int v2), (3, .long v3), (5, .int v5), (6, .int v6)]) {H : Heap} {locs : List Loc} (hP : va_P D vwCl (GX cy ad tk sp nm tp kp cu se ur ab lo im sy un en ra li i2) H) (hS : va_S (Ac ad 89) s.heap H locs) : W p l e ({ frames := 2, cells := 0, slots := 0, locals := 49 } : Room) s m args below meth c H locs 0 0 (MQ below (QR none D (GX cy ad tk sp nm tp kp q.1 se ur ab lo im sy un en ra q.2 i2) (Ac ad 89)) args s 0 0 (Ac ad 89)) (F0 m 81 ls []) := by
  obtain ⟨hx, hb, hml, hown, hts, hr, hlk⟩ := id C
  unfold X4_runExtended_81 at h
  refine lv_iload hx hb dX4_runExtended_81 (lv_at hl 5 rfl) ?_
  refine lv_iconst (v := (2 : Int32)) hx hb dX4_runExtended_83 (by decide) ?_
  refine lv_icmp_ne (tgt := 104) hx hb dX4_runExtended_84 (by decide) (fun c1 => ?_) (fun c1 => ?_)
  · rw [if_neg c1] at h
    exact bX4_runExtended_104 C hI hK hN h (lv_sub hl [0, 1, 2, 4, 5] rfl) hP hS
  · rw [if_pos c1] at h
    refine lv_lload_n hx hb dX4_runExtended_87 rfl (lv_at hl 3 rfl) ?_
    refine lv_ldc2 (v := (9 : Int64)) hx hb hown (hts _ (List.mem_cons_of_mem _ w1104)) dX4_runExtended_88 ?_
    refine lc_eq (tgt := 104) hx hb dX4_runExtended_91 dX4_runExtended_92 (by decide) (fun c2 => ?_) (fun c2 => ?_)
    · rw [if_pos c2] at h
      exact bX4_runExtended_104 C hI hK hN h (lv_sub hl [0, 1, 2, 4, 5] rfl) hP hS
    · rw [if_neg c2] at h
      exact bX4_runExtended_95 C hI hK hN h (lv_sub hl [1, 2] rfl) hP hS
def X4_runExtended_34 (tp : Ttp)  (cu : Tcu) (li : Tli) (v2 : Int32) (v3 : Int64) : Option (Tcu × Tli) := (if (X1_sound cu) = 0 then some (cu, li) else ((X1_byteAt tp (X1_place cu)).bind fun q2 => (letq (X1_within cu ((X1_place cu) + ((v3).toInt32)) (X1_stop cu)) fun q4 => (if q2 = (1 : Int32) then (if v3 = (1 : Int64) then X4_runExtended_81 tp q4 li v2 v3 (X1_place cu) q2 else X4_runExtended_95 tp q4 li v2) else X4_runExtended_81 tp q4 li v2 v3 (X1_place cu) q2))))
set_option maxRecDepth 20000 in
theorem bX4_runExtended_34 (C : Cx p s m args meth c cX4_runExtended 7 none RX4 (.code yX4_runExtended cX4_runExtended 7 none)) (hI : Apart ad 89) (hK : va_K D vwCl (tysX cy) s) (hN : NW s)  {q : Tcu × Tli}  {v2 : Int32} {v3 : Int64} (h : X4_runExtended_34 tp cu li v2 v3 = some q) {ls : Array Slot} (hl : lv_has ls 7 [(0, .ref (ad 48)), (1, .ref (ad 3)), (2, .int v2), (3, .long v3)]) {H : Heap} {locs : List Loc} (hP : va_P D vwCl (GX cy ad tk sp nm tp kp cu se ur ab lo im sy un en ra li i2) H) (hS : va_S (Ac ad 89) s.heap H locs) : W p l e ({ frames := 2, cells := 0, slots := 0, locals := 49 } : Room) s m args below meth c H locs 0 0 (MQ below (QR none D (GX cy ad tk sp nm tp kp q.1 se ur ab lo im sy un en ra q.2 i2) (Ac ad 89)) args s 0 0 (Ac ad 89)) (F0 m 34 ls []) := by
  obtain ⟨hx, hb, hml, hown, hts, hr, hlk⟩ := id C
  unfold X4_runExtended_34 at h
  refine lv_aload_n hx hb dX4_runExtended_34 rfl (lv_at hl 1 rfl) ?_
  refine cPi (run_V (rest := []) C (kX1_sound rfl) caX1_sound w988 ⟨rfl, rfl, Nat.le_of_ble_eq_true rfl, Nat.le_of_ble_eq_true rfl⟩ hK hN hP (rX3 hK hP) rfl hl.1 rfl (Nat.le_of_ble_eq_true rfl) dX4_runExtended_35 ⟨Nat.zero_le _, Nat.zero_le _⟩) ?_
  refine lv_if_ne (tgt := 42) hx hb dX4_runExtended_38 (by decide) (fun c1 => ?_) (fun c1 => ?_)
  · rw [if_neg c1] at h
    refine lv_aload_n hx hb dX4_runExtended_42 rfl (lv_at hl 1 rfl) ?_
    refine cPi (run_V (rest := []) C (kX1_place rfl) caX1_place w1011 ⟨rfl, rfl, Nat.le_of_ble_eq_true rfl, Nat.le_of_ble_eq_true rfl⟩ hK hN hP (rX3 hK hP) rfl hl.1 rfl (Nat.le_of_ble_eq_true rfl) dX4_runExtended_43 ⟨Nat.zero_le _, Nat.zero_le _⟩) ?_
    refine lv_istore (lv' := [(5, .int (X1_place cu)), (0, .ref (ad 48)), (1, .ref (ad 3)), (2, .int v2), (3, .long v3)]) hx hb dX4_runExtended_46 hl (by decide) rfl (fun ls hl => ?_)
    refine lv_aload_n hx hb dX4_runExtended_48 rfl (lv_at hl 2 rfl) ?_
    refine lv_iload hx hb dX4_runExtended_49 (lv_at hl 0 rfl) ?_
    obtain ⟨q2, h3, h⟩ := bnd h
    refine cPi (run_V (rest := []) C (kX1_byteAt h3) caX1_byteAt w1103 ⟨rfl, rfl, Nat.le_of_ble_eq_true rfl, Nat.le_of_ble_eq_true rfl⟩ hK hN hP (rX3 hK hP) rfl hl.1 rfl (Nat.le_of_ble_eq_true rfl) dX4_runExtended_51 ⟨Nat.zero_le _, Nat.zero_le _⟩) ?_
    refine lv_istore (lv' := [(6, .int q2), (5, .int (X1_place cu)), (0, .ref (ad 48)), (1, .ref (ad 3)), (2, .int v2), (3, .long v3)]) hx hb dX4_runExtended_54 hl (by decide) rfl (fun ls hl => ?_)
    refine lv_aload_n hx hb dX4_runExtended_56 rfl (lv_at hl 3 rfl) ?_
    refine lv_iload hx hb dX4_runExtended_57 (lv_at hl 1 rfl) ?_
    refine lv_lload_n hx hb dX4_runExtended_59 rfl (lv_at hl 5 rfl) ?_
    refine lv_l2i (v := ((v3).toInt32)) hx hb dX4_runExtended_60 rfl ?_
    refine lv_iadd hx hb dX4_runExtended_61 ?_
    refine lv_aload_n hx hb dX4_runExtended_62 rfl (lv_at hl 3 rfl) ?_
    refine cPi (run_V (rest := [.int ((X1_place cu) + ((v3).toInt32)), .ref (ad 3)]) C (kX1_stop rfl) caX1_stop w1063 ⟨rfl, rfl, Nat.le_of_ble_eq_true rfl, Nat.le_of_ble_eq_true rfl⟩ hK hN hP (rX3 hK hP) rfl hl.1 rfl (Nat.le_of_ble_eq_true rfl) dX4_runExtended_63 ⟨Nat.zero_le _, Nat.zero_le _⟩) ?_
    obtain ⟨q4, h5, h⟩ := lets h
    refine cRv (run_V (rest := []) C (kX1_within hI h5) caX1_within w1004 ⟨rfl, rfl, Nat.le_of_ble_eq_true rfl, Nat.le_of_ble_eq_true rfl⟩ hK hN hP (rX3 hK hP) rfl hl.1 rfl (Nat.le_of_ble_eq_true rfl) dX4_runExtended_66 ⟨Nat.zero_le _, Nat.zero_le _⟩) hS (fun H locs hP hS => ?_)
    have hP : va_P D vwCl (GX cy ad tk sp nm tp kp q4 se ur ab lo im sy un en ra li i2) H := hP
    refine lv_iload hx hb dX4_runExtended_69 (lv_at hl 0 rfl) ?_
    refine lv_iconst (v := (1 : Int32)) hx hb dX4_runExtended_71 (by decide) ?_
    refine lv_icmp_ne (tgt := 81) hx hb dX4_runExtended_72 (by decide) (fun c6 => ?_) (fun c6 => ?_)
    · rw [if_neg c6] at h
      exact bX4_runExtended_81 C hI hK hN h (lv_sub hl [2, 3, 4, 5, 1, 0] rfl) hP hS
    · rw [if_pos c6] at h
      refine lv_lload_n hx hb dX4_runExtended_75 rfl (lv_at hl 5 rfl) ?_
      refine lv_lconst (v := (1 : Int64)) hx hb dX4_runExtended_76 (by decide) ?_
      refine lc_ne (tgt := 95) hx hb dX4_runExtended_77 dX4_runExtended_78 (by decide) (fun c7 => ?_) (fun c7 => ?_)
      · rw [if_neg c7] at h
        exact bX4_runExtended_95 C hI hK hN h (lv_sub hl [3, 4] rfl) hP hS
      · rw [if_pos c7] at h
        exact bX4_runExtended_81 C hI hK hN h (lv_sub hl [2, 3, 4, 5, 1, 0] rfl) hP hS
  · rw [if_pos c1] at h
    obtain rfl := Option.some.inj h
    exact W.vret hx hb hr (fun t ht _ => ⟨rfl, by rw [ht]; exact hP, hS.F ht⟩) hS.2.2 dX4_runExtended_41 hlk
def X4_runExtended (tp : Ttp) (cu : Tcu) (li : Tli) (v2 : Int32) : Option (Tcu × Tli) := ((X1_uleb tp cu).bind fun q1 => (if q1.1 = (0 : Int64) then (letq (X1_refuse q1.2 (2 : Int32) v2) fun q7 => X4_runExtended_34 tp q7 li v2 q1.1) else (if (X1_hasLeft q1.2 q1.1) = 0 then (letq (X1_refuse q1.2 (1 : Int32) v2) fun q5 => X4_runExtended_34 tp q5 li v2 q1.1) else X4_runExtended_34 tp q1.2 li v2 q1.1)))
set_option maxRecDepth 20000 in
theorem bX4_runExtended_0 (C : Cx p s m args meth c cX4_runExtended 7 none RX4 (.code yX4_runExtended cX4_runExtended 7 none)) (hI : Apart ad 89) (hK : va_K D vwCl (tysX cy) s) (hN : NW s)  {q : Tcu × Tli}  {v2 : Int32} (h : X4_runExtended tp cu li v2 = some q) {ls : Array Slot} (hl : lv_has ls 7 [(0, .ref (ad 48)), (1, .ref (ad 3)), (2, .int v2)]) {H : Heap} {locs : List Loc} (hP : va_P D vwCl (GX cy ad tk sp nm tp kp cu se ur ab lo im sy un en ra li i2) H) (hS : va_S (Ac ad 89) s.heap H locs) : W p l e ({ frames := 2, cells := 0, slots := 0, locals := 49 } : Room) s m args below meth c H locs 0 0 (MQ below (QR none D (GX cy ad tk sp nm tp kp q.1 se ur ab lo im sy un en ra q.2 i2) (Ac ad 89)) args s 0 0 (Ac ad 89)) (F0 m 0 ls []) := by
  obtain ⟨hx, hb, hml, hown, hts, hr, hlk⟩ := id C
  unfold X4_runExtended at h
  refine lv_aload_n hx hb dX4_runExtended_0 rfl (lv_at hl 1 rfl) ?_
  obtain ⟨q1, h2, h⟩ := bnd h
  refine cRl (run_V (rest := []) C (kX1_uleb hI h2) caX1_uleb w1031 ⟨rfl, rfl, Nat.le_of_ble_eq_true rfl, Nat.le_of_ble_eq_true rfl⟩ hK hN hP (rX3 hK hP) rfl hl.1 rfl (Nat.le_of_ble_eq_true rfl) dX4_runExtended_1 ⟨Nat.zero_le _, Nat.zero_le _⟩) hS (fun H locs hP hS => ?_)
  have hP : va_P D vwCl (GX cy ad tk sp nm tp kp q1.2 se ur ab lo im sy un en ra li i2) H := hP
  refine lv_lstore_n (lv' := [(3, .long q1.1), (0, .ref (ad 48)), (1, .ref (ad 3)), (2, .int v2)]) hx hb dX4_runExtended_4 rfl hl (by decide) rfl (fun ls hl => ?_)
  refine lv_lload_n hx hb dX4_runExtended_5 rfl (lv_at hl 0 rfl) ?_
  refine lv_lconst (v := (0 : Int64)) hx hb dX4_runExtended_6 (by decide) ?_
  refine lc_ne (tgt := 20) hx hb dX4_runExtended_7 dX4_runExtended_8 (by decide) (fun c3 => ?_) (fun c3 => ?_)
  · rw [if_neg c3] at h
    refine lv_aload_n hx hb dX4_runExtended_20 rfl (lv_at hl 2 rfl) ?_
    refine lv_lload_n hx hb dX4_runExtended_21 rfl (lv_at hl 0 rfl) ?_
    refine cPi (run_V (rest := []) C (kX1_hasLeft rfl) caX1_hasLeft w1013 ⟨rfl, rfl, Nat.le_of_ble_eq_true rfl, Nat.le_of_ble_eq_true rfl⟩ hK hN hP (rX3 hK hP) rfl hl.1 rfl (Nat.le_of_ble_eq_true rfl) dX4_runExtended_22 ⟨Nat.zero_le _, Nat.zero_le _⟩) ?_
    refine lv_if_ne (tgt := 34) hx hb dX4_runExtended_25 (by decide) (fun c4 => ?_) (fun c4 => ?_)
    · rw [if_neg c4] at h
      exact bX4_runExtended_34 C hI hK hN h (lv_sub hl [1, 2, 3, 0] rfl) hP hS
    · rw [if_pos c4] at h
      refine lv_aload_n hx hb dX4_runExtended_28 rfl (lv_at hl 2 rfl) ?_
      refine lv_iconst (v := (1 : Int32)) hx hb dX4_runExtended_29 (by decide) ?_
      refine lv_iload_n hx hb dX4_runExtended_30 rfl (lv_at hl 3 rfl) ?_
      obtain ⟨q5, h6, h⟩ := lets h
      refine cRv (run_V (rest := []) C (kX1_refuse hI h6) caX1_refuse w1001 ⟨rfl, rfl, Nat.le_of_ble_eq_true rfl, Nat.le_of_ble_eq_true rfl⟩ hK hN hP (rX3 hK hP) rfl hl.1 rfl (Nat.le_of_ble_eq_true rfl) dX4_runExtended_31 ⟨Nat.zero_le _, Nat.zero_le _⟩) hS (fun H locs hP hS => ?_)
      have hP : va_P D vwCl (GX cy ad tk sp nm tp kp q5 se ur ab lo im sy un en ra li i2) H := hP
      exact bX4_runExtended_34 C hI hK hN h (lv_sub hl [1, 2, 3, 0] rfl) hP hS
  · rw [if_pos c3] at h
    refine lv_aload_n hx hb dX4_runExtended_11 rfl (lv_at hl 2 rfl) ?_
    refine lv_iconst (v := (2 : Int32)) hx hb dX4_runExtended_12 (by decide) ?_
    refine lv_iload_n hx hb dX4_runExtended_13 rfl (lv_at hl 3 rfl) ?_
    obtain ⟨q7, h8, h⟩ := lets h
    refine cRv (run_V (rest := []) C (kX1_refuse hI h8) caX1_refuse w1001 ⟨rfl, rfl, Nat.le_of_ble_eq_true rfl, Nat.le_of_ble_eq_true rfl⟩ hK hN hP (rX3 hK hP) rfl hl.1 rfl (Nat.le_of_ble_eq_true rfl) dX4_runExtended_14 ⟨Nat.zero_le _, Nat.zero_le _⟩) hS (fun H locs hP hS => ?_)
    have hP : va_P D vwCl (GX cy ad tk sp nm tp kp q7 se ur ab lo im sy un en ra li i2) H := hP
    refine lv_goto (tgt := 34) hx hb dX4_runExtended_17 (by decide) ?_
    exact bX4_runExtended_34 C hI hK hN h (lv_sub hl [1, 2, 3, 0] rfl) hP hS
theorem kX4_runExtended (hI : Apart ad 89) {v2 : Int32} {q : Tcu × Tli} (h : X4_runExtended tp cu li v2 = some q) : Met l yX4_runExtended (.code yX4_runExtended cX4_runExtended 7 none :: WA) ({ frames := 2, cells := 0, slots := 0, locals := 49 } : Room) (va_Pc [.ref (ad 48), .ref (ad 3), .int v2] (PR D cy (GX cy ad tk sp nm tp kp cu se ur ab lo im sy un en ra li i2))) (QR none D (GX cy ad tk sp nm tp kp q.1 se ur ab lo im sy un en ra q.2 i2) (Ac ad 89)) 0 0 (Ac ad 89) :=
  met_of (by decide) (Nat.le_of_ble_eq_true rfl) (fun p e s m below meth c ls C hP hK hN hl => bX4_runExtended_0 C hI hK hN h hl hP va_S.rf)
def X4_runSpecial (cu : Tcu) (li : Tli) (v2 : Int32) (v3 : Int32) : Option (Tcu × Tli) := ((X4_rangesIn li v3).bind fun q1 => (letq (X4_advanceSteps li ((q1).toInt64)) fun q3 => (letq (X4_advanceLine q3 (((q3.2.2.2.2.2.2.2.1 + (v3 - (q1 * q3.2.2.2.2.2.2.2.2.1)))).toInt64)) fun q5 => (letq (X4_addRow cu q5 v2 (0 : Int32)) fun q7 => some (q7.1, q7.2)))))
set_option maxRecDepth 20000 in
theorem bX4_runSpecial_0 (C : Cx p s m args meth c cX4_runSpecial 5 none RX4 (.code yX4_runSpecial cX4_runSpecial 5 none)) (hI : Apart ad 89) (hK : va_K D vwCl (tysX cy) s) (hN : NW s)  {q : Tcu × Tli}  {v2 : Int32} {v3 : Int32} (h : X4_runSpecial cu li v2 v3 = some q) {ls : Array Slot} (hl : lv_has ls 5 [(0, .ref (ad 48)), (1, .ref (ad 3)), (2, .int v2), (3, .int v3)]) {H : Heap} {locs : List Loc} (hP : va_P D vwCl (GX cy ad tk sp nm tp kp cu se ur ab lo im sy un en ra li i2) H) (hS : va_S (Ac ad 89) s.heap H locs) : W p l e ({ frames := 2, cells := 0, slots := 0, locals := 50 } : Room) s m args below meth c H locs 0 0 (MQ below (QR none D (GX cy ad tk sp nm tp kp q.1 se ur ab lo im sy un en ra q.2 i2) (Ac ad 89)) args s 0 0 (Ac ad 89)) (F0 m 0 ls []) := by
  obtain ⟨hx, hb, hml, hown, hts, hr, hlk⟩ := id C
  unfold X4_runSpecial at h
  refine lv_aload_n hx hb dX4_runSpecial_0 rfl (lv_at hl 0 rfl) ?_
  refine lv_iload_n hx hb dX4_runSpecial_1 rfl (lv_at hl 3 rfl) ?_
  obtain ⟨q1, h2, h⟩ := bnd h
  refine cPi (run_V (rest := []) C (kX4_rangesIn h2) caX4_rangesIn w1072 ⟨rfl, rfl, Nat.le_of_ble_eq_true rfl, Nat.le_of_ble_eq_true rfl⟩ hK hN hP (rX48 hK hP) rfl hl.1 rfl (Nat.le_of_ble_eq_true rfl) dX4_runSpecial_2 ⟨Nat.zero_le _, Nat.zero_le _⟩) ?_
  refine lv_istore (lv' := [(4, .int q1), (0, .ref (ad 48)), (1, .ref (ad 3)), (2, .int v2), (3, .int v3)]) hx hb dX4_runSpecial_5 hl (by decide) rfl (fun ls hl => ?_)
  refine lv_aload_n hx hb dX4_runSpecial_7 rfl (lv_at hl 1 rfl) ?_
  refine lv_iload hx hb dX4_runSpecial_8 (lv_at hl 0 rfl) ?_
  refine lv_i2l (v := ((q1).toInt64)) hx hb dX4_runSpecial_10 rfl ?_
  obtain ⟨q3, h4, h⟩ := lets h
  refine cRv (run_V (rest := []) C (kX4_advanceSteps hI h4) caX4_advanceSteps w1076 ⟨rfl, rfl, Nat.le_of_ble_eq_true rfl, Nat.le_of_ble_eq_true rfl⟩ hK hN hP (rX48 hK hP) rfl hl.1 rfl (Nat.le_of_ble_eq_true rfl) dX4_runSpecial_11 ⟨Nat.zero_le _, Nat.zero_le _⟩) hS (fun H locs hP hS => ?_)
  have hP : va_P D vwCl (GX cy ad tk sp nm tp kp cu se ur ab lo im sy un en ra q3 i2) H := hP
  refine lv_aload_n hx hb dX4_runSpecial_14 rfl (lv_at hl 1 rfl) ?_
  refine lv_aload_n hx hb dX4_runSpecial_15 rfl (lv_at hl 1 rfl) ?_
  refine gX48_7 (v := q3.2.2.2.2.2.2.2.1) C hK hP rfl w397 dX4_runSpecial_16 ?_
  refine lv_iload_n hx hb dX4_runSpecial_19 rfl (lv_at hl 4 rfl) ?_
  refine lv_iload hx hb dX4_runSpecial_20 (lv_at hl 0 rfl) ?_
  refine lv_aload_n hx hb dX4_runSpecial_22 rfl (lv_at hl 1 rfl) ?_
  refine gX48_8 (v := q3.2.2.2.2.2.2.2.2.1) C hK hP rfl w398 dX4_runSpecial_23 ?_
  refine lv_imul hx hb dX4_runSpecial_26 ?_
  refine lv_isub hx hb dX4_runSpecial_27 ?_
  refine lv_iadd hx hb dX4_runSpecial_28 ?_
  refine lv_i2l (v := (((q3.2.2.2.2.2.2.2.1 + (v3 - (q1 * q3.2.2.2.2.2.2.2.2.1)))).toInt64)) hx hb dX4_runSpecial_29 rfl ?_
  obtain ⟨q5, h6, h⟩ := lets h
  refine cRv (run_V (rest := []) C (kX4_advanceLine hI h6) caX4_advanceLine w1085 ⟨rfl, rfl, Nat.le_of_ble_eq_true rfl, Nat.le_of_ble_eq_true rfl⟩ hK hN hP (rX48 hK hP) rfl hl.1 rfl (Nat.le_of_ble_eq_true rfl) dX4_runSpecial_30 ⟨Nat.zero_le _, Nat.zero_le _⟩) hS (fun H locs hP hS => ?_)
  have hP : va_P D vwCl (GX cy ad tk sp nm tp kp cu se ur ab lo im sy un en ra q5 i2) H := hP
  refine lv_aload_n hx hb dX4_runSpecial_33 rfl (lv_at hl 1 rfl) ?_
  refine lv_aload_n hx hb dX4_runSpecial_34 rfl (lv_at hl 2 rfl) ?_
  refine lv_iload_n hx hb dX4_runSpecial_35 rfl (lv_at hl 3 rfl) ?_
  refine lv_iconst (v := (0 : Int32)) hx hb dX4_runSpecial_36 (by decide) ?_
  obtain ⟨q7, h8, h⟩ := lets h
  refine cRv (run_V (rest := []) C (kX4_addRow hI h8) caX4_addRow w1089 ⟨rfl, rfl, Nat.le_of_ble_eq_true rfl, Nat.le_of_ble_eq_true rfl⟩ hK hN hP (rX48 hK hP) rfl hl.1 rfl (Nat.le_of_ble_eq_true rfl) dX4_runSpecial_37 ⟨Nat.zero_le _, Nat.zero_le _⟩) hS (fun H locs hP hS => ?_)
  have hP : va_P D vwCl (GX cy ad tk sp nm tp kp q7.1 se ur ab lo im sy un en ra q7.2 i2) H := hP
  obtain rfl := Option.some.inj h
  exact W.vret hx hb hr (fun t ht _ => ⟨rfl, by rw [ht]; exact hP, hS.F ht⟩) hS.2.2 dX4_runSpecial_40 hlk
theorem kX4_runSpecial (hI : Apart ad 89) {v2 : Int32} {v3 : Int32} {q : Tcu × Tli} (h : X4_runSpecial cu li v2 v3 = some q) : Met l yX4_runSpecial (.code yX4_runSpecial cX4_runSpecial 5 none :: WA) ({ frames := 2, cells := 0, slots := 0, locals := 50 } : Room) (va_Pc [.ref (ad 48), .ref (ad 3), .int v2, .int v3] (PR D cy (GX cy ad tk sp nm tp kp cu se ur ab lo im sy un en ra li i2))) (QR none D (GX cy ad tk sp nm tp kp q.1 se ur ab lo im sy un en ra q.2 i2) (Ac ad 89)) 0 0 (Ac ad 89) :=
  met_of (by decide) (Nat.le_of_ble_eq_true rfl) (fun p e s m below meth c ls C hP hK hN hl => bX4_runSpecial_0 C hI hK hN h hl hP va_S.rf)
def X4_skipOperands_2b (tp : Ttp)  (k2 : Tcu → Int32 → Int32 → Option (Tcu)) (cu : Tcu) (v2 : Int32) (v3 : Int32) : Option (Tcu) := (if v3 < v2 then (if (X1_sound cu) = 0 then some cu else ((X1_uleb tp cu).bind fun q3 => k2 q3.2 v2 (v3 + (1 : Int32)))) else some cu)
def X4_skipOperands_2 (tp : Ttp)  (n : Nat) (st : Tcu × Int32 × Int32) : Option (Tcu) := lp (fun rec st => X4_skipOperands_2b tp  (fun a0 a1 a2 => rec (a0, a1, a2)) st.1 st.2.1 st.2.2) n st
set_option maxRecDepth 20000 in
theorem bX4_skipOperands_2 (C : Cx p s m args meth c cX4_skipOperands 4 none RX4 (.code yX4_skipOperands cX4_skipOperands 4 none)) (hI : Apart ad 89) (hK : va_K D vwCl (tysX cy) s) (hN : NW s)  {q : Tcu}  : ∀ (n : Nat) {cu : Tcu} {v2 : Int32} {v3 : Int32}, X4_skipOperands_2 tp  n (cu, v2, v3) = some q → ∀ {ls : Array Slot}, lv_has ls 4 [(1, .ref (ad 3)), (2, .int v2), (3, .int v3)] → ∀ {H : Heap} {locs : List Loc}, va_P D vwCl (GX cy ad tk sp nm tp kp cu se ur ab lo im sy un en ra li i2) H → va_S (Ac ad 89) s.heap H locs → W p l e ({ frames := 2, cells := 0, slots := 0, locals := 46 } : Room) s m args below meth c H locs 0 0 (MQ below (QR none D (GX cy ad tk sp nm tp kp q se ur ab lo im sy un en ra li i2) (Ac ad 89)) args s 0 0 (Ac ad 89)) (F0 m 2 ls []) := by
  obtain ⟨hx, hb, hml, hown, hts, hr, hlk⟩ := id C
  intro n
  induction n with
  | zero =>
    intro cu v2 v3 h ls hl H locs hP hS
    have h : (none : Option (Tcu)) = some q := h
    cases h
  | succ n ih =>
    intro cu v2 v3 h ls hl H locs hP hS
    have h : X4_skipOperands_2b tp  (fun a0 a1 a2 => X4_skipOperands_2 tp  n (a0, a1, a2)) cu v2 v3 = some q := h
    unfold X4_skipOperands_2b at h
    refine lv_iload_n hx hb dX4_skipOperands_2 rfl (lv_at hl 2 rfl) ?_
    refine lv_iload_n hx hb dX4_skipOperands_3 rfl (lv_at hl 1 rfl) ?_
    refine b_icmp_ge (tgt := 25) hx hb dX4_skipOperands_4 (by decide) (fun c1 => ?_) (fun c1 => ?_)
    · rw [if_neg c1] at h
      obtain rfl := Option.some.inj h
      exact W.vret hx hb hr (fun t ht _ => ⟨rfl, by rw [ht]; exact hP, hS.F ht⟩) hS.2.2 dX4_skipOperands_25 hlk
    · rw [if_pos c1] at h
      refine lv_aload_n hx hb dX4_skipOperands_7 rfl (lv_at hl 0 rfl) ?_
      refine cPi (run_V (rest := []) C (kX1_sound rfl) caX1_sound w988 ⟨rfl, rfl, Nat.le_of_ble_eq_true rfl, Nat.le_of_ble_eq_true rfl⟩ hK hN hP (rX3 hK hP) rfl hl.1 rfl (Nat.le_of_ble_eq_true rfl) dX4_skipOperands_8 ⟨Nat.zero_le _, Nat.zero_le _⟩) ?_
      refine lv_if_eq (tgt := 25) hx hb dX4_skipOperands_11 (by decide) (fun c2 => ?_) (fun c2 => ?_)
      · rw [if_pos c2] at h
        obtain rfl := Option.some.inj h
        exact W.vret hx hb hr (fun t ht _ => ⟨rfl, by rw [ht]; exact hP, hS.F ht⟩) hS.2.2 dX4_skipOperands_25 hlk
      · rw [if_neg c2] at h
        refine lv_aload_n hx hb dX4_skipOperands_14 rfl (lv_at hl 0 rfl) ?_
        obtain ⟨q3, h4, h⟩ := bnd h
        refine cRl (run_V (rest := []) C (kX1_uleb hI h4) caX1_uleb w1031 ⟨rfl, rfl, Nat.le_of_ble_eq_true rfl, Nat.le_of_ble_eq_true rfl⟩ hK hN hP (rX3 hK hP) rfl hl.1 rfl (Nat.le_of_ble_eq_true rfl) dX4_skipOperands_15 ⟨Nat.zero_le _, Nat.zero_le _⟩) hS (fun H locs hP hS => ?_)
        have hP : va_P D vwCl (GX cy ad tk sp nm tp kp q3.2 se ur ab lo im sy un en ra li i2) H := hP
        refine lv_pop2_2 hx hb dX4_skipOperands_18 rfl ?_
        refine lv_iinc (v := (v3 + (1 : Int32))) (lv' := [(3, .int (v3 + (1 : Int32))), (1, .ref (ad 3)), (2, .int v2)]) hx hb dX4_skipOperands_19 hl (k := 2) rfl rfl (by decide) rfl (fun ls hl => ?_)
        refine lv_goto (tgt := 2) hx hb dX4_skipOperands_22 (by decide) ?_
        exact ih h (lv_sub hl [1, 2, 0] rfl) hP hS
def X4_skipOperands (tp : Ttp) (cu : Tcu) (v2 : Int32) : Option (Tcu) := X4_skipOperands_2 tp FU (cu, v2, (0 : Int32))
set_option maxRecDepth 20000 in
theorem bX4_skipOperands_0 (C : Cx p s m args meth c cX4_skipOperands 4 none RX4 (.code yX4_skipOperands cX4_skipOperands 4 none)) (hI : Apart ad 89) (hK : va_K D vwCl (tysX cy) s) (hN : NW s)  {q : Tcu}  {v2 : Int32} (h : X4_skipOperands tp cu v2 = some q) {ls : Array Slot} (hl : lv_has ls 4 [(0, .ref (ad 48)), (1, .ref (ad 3)), (2, .int v2)]) {H : Heap} {locs : List Loc} (hP : va_P D vwCl (GX cy ad tk sp nm tp kp cu se ur ab lo im sy un en ra li i2) H) (hS : va_S (Ac ad 89) s.heap H locs) : W p l e ({ frames := 2, cells := 0, slots := 0, locals := 46 } : Room) s m args below meth c H locs 0 0 (MQ below (QR none D (GX cy ad tk sp nm tp kp q se ur ab lo im sy un en ra li i2) (Ac ad 89)) args s 0 0 (Ac ad 89)) (F0 m 0 ls []) := by
  obtain ⟨hx, hb, hml, hown, hts, hr, hlk⟩ := id C
  unfold X4_skipOperands at h
  refine lv_iconst (v := (0 : Int32)) hx hb dX4_skipOperands_0 (by decide) ?_
  refine lv_istore_n (lv' := [(3, .int (0 : Int32)), (0, .ref (ad 48)), (1, .ref (ad 3)), (2, .int v2)]) hx hb dX4_skipOperands_1 rfl hl (by decide) rfl (fun ls hl => ?_)
  exact bX4_skipOperands_2 C hI hK hN FU h (lv_sub hl [2, 3, 0] rfl) hP hS
theorem kX4_skipOperands (hI : Apart ad 89) {v2 : Int32} {q : Tcu} (h : X4_skipOperands tp cu v2 = some q) : Met l yX4_skipOperands (.code yX4_skipOperands cX4_skipOperands 4 none :: WA) ({ frames := 2, cells := 0, slots := 0, locals := 46 } : Room) (va_Pc [.ref (ad 48), .ref (ad 3), .int v2] (PR D cy (GX cy ad tk sp nm tp kp cu se ur ab lo im sy un en ra li i2))) (QR none D (GX cy ad tk sp nm tp kp q se ur ab lo im sy un en ra li i2) (Ac ad 89)) 0 0 (Ac ad 89) :=
  met_of (by decide) (Nat.le_of_ble_eq_true rfl) (fun p e s m below meth c ls C hP hK hN hl => bX4_skipOperands_0 C hI hK hN h hl hP va_S.rf)
def X4_runOpcode (tp : Ttp) (cu : Tcu) (li : Tli)  : Option (Tcu × Tli) := ((X1_number tp cu (1 : Int32)).bind fun q1 => (if ((q1.1).toInt32) < li.2.2.2.2.2.2.2.2.2.1 then (if ((q1.1).toInt32) = (0 : Int32) then ((X4_runExtended tp q1.2 li (X1_place cu)).bind fun q5 => some (q5.1, q5.2)) else (if ((q1.1).toInt32) = (1 : Int32) then (letq (X4_addRow q1.2 li (X1_place cu) (0 : Int32)) fun q8 => some (q8.1, q8.2)) else (if ((q1.1).toInt32) = (2 : Int32) then ((X1_uleb tp q1.2).bind fun q11 => (letq (X4_advanceSteps li q11.1) fun q13 => some (q11.2, q13))) else (if ((q1.1).toInt32) = (3 : Int32) then ((X1_sleb tp q1.2).bind fun q16 => (letq (X4_advanceLine li q16.1) fun q18 => some (q16.2, q18))) else (if ((q1.1).toInt32) = (4 : Int32) then ((X1_uleb tp q1.2).bind fun q21 => some (q21.2, (li.1, li.2.1, li.2.2.1, li.2.2.2.1, li.2.2.2.2.1, li.2.2.2.2.2.1, li.2.2.2.2.2.2.1, li.2.2.2.2.2.2.2.1, li.2.2.2.2.2.2.2.2.1, li.2.2.2.2.2.2.2.2.2.1, li.2.2.2.2.2.2.2.2.2.2.1, li.2.2.2.2.2.2.2.2.2.2.2.1, li.2.2.2.2.2.2.2.2.2.2.2.2.1, li.2.2.2.2.2.2.2.2.2.2.2.2.2.1, q21.1, li.2.2.2.2.2.2.2.2.2.2.2.2.2.2.2.1, li.2.2.2.2.2.2.2.2.2.2.2.2.2.2.2.2.1, li.2.2.2.2.2.2.2.2.2.2.2.2.2.2.2.2.2.1, li.2.2.2.2.2.2.2.2.2.2.2.2.2.2.2.2.2.2))) else (if ((q1.1).toInt32) = (8 : Int32) then ((X4_rangesIn li ((255 : Int32) - li.2.2.2.2.2.2.2.2.2.1)).bind fun q24 => (letq (X4_advanceSteps li ((q24).toInt64)) fun q26 => some (q1.2, q26))) else (if ((q1.1).toInt32) = (9 : Int32) then ((X1_number tp q1.2 (2 : Int32)).bind fun q29 => (letq (X4_advance li q29.1) fun q31 => some (q29.2, q31))) else ((X4_skipOperands tp q1.2 (at_i 20 li.2.2.2.2.2.2.2.2.2.2.1 ((q1.1).toInt32))).bind fun q33 => some (q33, li))))))))) else ((X4_runSpecial q1.2 li (X1_place cu) (((q1.1).toInt32) - li.2.2.2.2.2.2.2.2.2.1)).bind fun q35 => some (q35.1, q35.2))))
set_option maxRecDepth 20000 in
theorem bX4_runOpcode_0 (C : Cx p s m args meth c cX4_runOpcode 4 none RX4 (.code yX4_runOpcode cX4_runOpcode 4 none)) (hI : Apart ad 89) (hK : va_K D vwCl (tysX cy) s) (hN : NW s)  {q : Tcu × Tli}   (h : X4_runOpcode tp cu li = some q) {ls : Array Slot} (hl : lv_has ls 4 [(0, .ref (ad 48)), (1, .ref (ad 3))]) {H : Heap} {locs : List Loc} (hP : va_P D vwCl (GX cy ad tk sp nm tp kp cu se ur ab lo im sy un en ra li i2) H) (hS : va_S (Ac ad 89) s.heap H locs) : W p l e ({ frames := 3, cells := 0, slots := 0, locals := 75 } : Room) s m args below meth c H locs 0 0 (MQ below (QR none D (GX cy ad tk sp nm tp kp q.1 se ur ab lo im sy un en ra q.2 i2) (Ac ad 89)) args s 0 0 (Ac ad 89)) (F0 m 0 ls []) := by
  obtain ⟨hx, hb, hml, hown, hts, hr, hlk⟩ := id C
  unfold X4_runOpcode at h
  refine lv_aload_n hx hb dX4_runOpcode_0 rfl (lv_at hl 1 rfl) ?_
  refine cPi (run_V (rest := []) C (kX1_place rfl) caX1_place w1011 ⟨rfl, rfl, Nat.le_of_ble_eq_true rfl, Nat.le_of_ble_eq_true rfl⟩ hK hN hP (rX3 hK hP) rfl hl.1 rfl (Nat.le_of_ble_eq_true rfl) dX4_runOpcode_1 ⟨Nat.zero_le _, Nat.zero_le _⟩) ?_
  refine lv_istore_n (lv' := [(2, .int (X1_place cu)), (0, .ref (ad 48)), (1, .ref (ad 3))]) hx hb dX4_runOpcode_4 rfl hl (by decide) rfl (fun ls hl => ?_)
  refine lv_aload_n hx hb dX4_runOpcode_5 rfl (lv_at hl 2 rfl) ?_
  refine lv_iconst (v := (1 : Int32)) hx hb dX4_runOpcode_6 (by decide) ?_
  obtain ⟨q1, h2, h⟩ := bnd h
  refine cRl (run_V (rest := []) C (kX1_number hI h2) caX1_number w1012 ⟨rfl, rfl, Nat.le_of_ble_eq_true rfl, Nat.le_of_ble_eq_true rfl⟩ hK hN hP (rX3 hK hP) rfl hl.1 rfl (Nat.le_of_ble_eq_true rfl) dX4_runOpcode_7 ⟨Nat.zero_le _, Nat.zero_le _⟩) hS (fun H locs hP hS => ?_)
  have hP : va_P D vwCl (GX cy ad tk sp nm tp kp q1.2 se ur ab lo im sy un en ra li i2) H := hP
  refine lv_l2i (v := ((q1.1).toInt32)) hx hb dX4_runOpcode_10 rfl ?_
  refine lv_istore_n (lv' := [(3, .int ((q1.1).toInt32)), (2, .int (X1_place cu)), (0, .ref (ad 48)), (1, .ref (ad 3))]) hx hb dX4_runOpcode_11 rfl hl (by decide) rfl (fun ls hl => ?_)
  refine lv_iload_n hx hb dX4_runOpcode_12 rfl (lv_at hl 0 rfl) ?_
  refine lv_aload_n hx hb dX4_runOpcode_13 rfl (lv_at hl 2 rfl) ?_
  refine gX48_9 (v := li.2.2.2.2.2.2.2.2.2.1) C hK hP rfl w399 dX4_runOpcode_14 ?_
  refine lv_icmp_lt (tgt := 33) hx hb dX4_runOpcode_17 (by decide) (fun c3 => ?_) (fun c3 => ?_)
  · rw [if_pos c3] at h
    refine lv_iload_n hx hb dX4_runOpcode_33 rfl (lv_at hl 0 rfl) ?_
    by_cases c4 : ((q1.1).toInt32) = (0 : Int32)
    · rw [if_pos c4] at h
      rw [c4]
      refine lv_tableIn (off := 54) (tgt := 88) hx hb dX4_runOpcode_34 (by decide) (by decide) (by decide) (by decide) ?_
      refine lv_aload_n hx hb dX4_runOpcode_88 rfl (lv_at hl 2 rfl) ?_
      refine lv_aload_n hx hb dX4_runOpcode_89 rfl (lv_at hl 3 rfl) ?_
      refine lv_iload_n hx hb dX4_runOpcode_90 rfl (lv_at hl 1 rfl) ?_
      obtain ⟨q5, h6, h⟩ := bnd h
      refine cRv (run_V (rest := []) C (kX4_runExtended hI h6) caX4_runExtended w1099 ⟨rfl, rfl, Nat.le_of_ble_eq_true rfl, Nat.le_of_ble_eq_true rfl⟩ hK hN hP (rX48 hK hP) rfl hl.1 rfl (Nat.le_of_ble_eq_true rfl) dX4_runOpcode_91 ⟨Nat.zero_le _, Nat.zero_le _⟩) hS (fun H locs hP hS => ?_)
      have hP : va_P D vwCl (GX cy ad tk sp nm tp kp q5.1 se ur ab lo im sy un en ra q5.2 i2) H := hP
      refine lv_goto (tgt := 185) hx hb dX4_runOpcode_94 (by decide) ?_
      obtain rfl := Option.some.inj h
      exact W.vret hx hb hr (fun t ht _ => ⟨rfl, by rw [ht]; exact hP, hS.F ht⟩) hS.2.2 dX4_runOpcode_185 hlk
    rw [if_neg c4] at h
    by_cases c7 : ((q1.1).toInt32) = (1 : Int32)
    · rw [if_pos c7] at h
      rw [c7]
      refine lv_tableIn (off := 63) (tgt := 97) hx hb dX4_runOpcode_34 (by decide) (by decide) (by decide) (by decide) ?_
      refine lv_aload_n hx hb dX4_runOpcode_97 rfl (lv_at hl 2 rfl) ?_
      refine lv_aload_n hx hb dX4_runOpcode_98 rfl (lv_at hl 3 rfl) ?_
      refine lv_iload_n hx hb dX4_runOpcode_99 rfl (lv_at hl 1 rfl) ?_
      refine lv_iconst (v := (0 : Int32)) hx hb dX4_runOpcode_100 (by decide) ?_
      obtain ⟨q8, h9, h⟩ := lets h
      refine cRv (run_V (rest := []) C (kX4_addRow hI h9) caX4_addRow w1089 ⟨rfl, rfl, Nat.le_of_ble_eq_true rfl, Nat.le_of_ble_eq_true rfl⟩ hK hN hP (rX48 hK hP) rfl hl.1 rfl (Nat.le_of_ble_eq_true rfl) dX4_runOpcode_101 ⟨Nat.zero_le _, Nat.zero_le _⟩) hS (fun H locs hP hS => ?_)
      have hP : va_P D vwCl (GX cy ad tk sp nm tp kp q8.1 se ur ab lo im sy un en ra q8.2 i2) H := hP
      refine lv_goto (tgt := 185) hx hb dX4_runOpcode_104 (by decide) ?_
      obtain rfl := Option.some.inj h
      exact W.vret hx hb hr (fun t ht _ => ⟨rfl, by rw [ht]; exact hP, hS.F ht⟩) hS.2.2 dX4_runOpcode_185 hlk
    rw [if_neg c7] at h
    by_cases c10 : ((q1.1).toInt32) = (2 : Int32)
    · rw [if_pos c10] at h
      rw [c10]
      refine lv_tableIn (off := 73) (tgt := 107) hx hb dX4_runOpcode_34 (by decide) (by decide) (by decide) (by decide) ?_
      refine lv_aload_n hx hb dX4_runOpcode_107 rfl (lv_at hl 2 rfl) ?_
      refine lv_aload_n hx hb dX4_runOpcode_108 rfl (lv_at hl 3 rfl) ?_
      obtain ⟨q11, h12, h⟩ := bnd h
      refine cRl (run_V (rest := [.ref (ad 48)]) C (kX1_uleb hI h12) caX1_uleb w1031 ⟨rfl, rfl, Nat.le_of_ble_eq_true rfl, Nat.le_of_ble_eq_true rfl⟩ hK hN hP (rX3 hK hP) rfl hl.1 rfl (Nat.le_of_ble_eq_true rfl) dX4_runOpcode_109 ⟨Nat.zero_le _, Nat.zero_le _⟩) hS (fun H locs hP hS => ?_)
      have hP : va_P D vwCl (GX cy ad tk sp nm tp kp q11.2 se ur ab lo im sy un en ra li i2) H := hP
      obtain ⟨q13, h14, h⟩ := lets h
      refine cRv (run_V (rest := []) C (kX4_advanceSteps hI h14) caX4_advanceSteps w1076 ⟨rfl, rfl, Nat.le_of_ble_eq_true rfl, Nat.le_of_ble_eq_true rfl⟩ hK hN hP (rX48 hK hP) rfl hl.1 rfl (Nat.le_of_ble_eq_true rfl) dX4_runOpcode_112 ⟨Nat.zero_le _, Nat.zero_le _⟩) hS (fun H locs hP hS => ?_)
      have hP : va_P D vwCl (GX cy ad tk sp nm tp kp q11.2 se ur ab lo im sy un en ra q13 i2) H := hP
      refine lv_goto (tgt := 185) hx hb dX4_runOpcode_115 (by decide) ?_
      obtain rfl := Option.some.inj h
      exact W.vret hx hb hr (fun t ht _ => ⟨rfl, by rw [ht]; exact hP, hS.F ht⟩) hS.2.2 dX4_runOpcode_185 hlk
    rw [if_neg c10] at h
    by_cases c15 : ((q1.1).toInt32) = (3 : Int32)
    · rw [if_pos c15] at h
      rw [c15]
      refine lv_tableIn (off := 84) (tgt := 118) hx hb dX4_runOpcode_34 (by decide) (by decide) (by decide) (by decide) ?_
      refine lv_aload_n hx hb dX4_runOpcode_118 rfl (lv_at hl 2 rfl) ?_
      refine lv_aload_n hx hb dX4_runOpcode_119 rfl (lv_at hl 3 rfl) ?_
      obtain ⟨q16, h17, h⟩ := bnd h
      refine cRl (run_V (rest := [.ref (ad 48)]) C (kX1_sleb hI h17) caX1_sleb w1106 ⟨rfl, rfl, Nat.le_of_ble_eq_true rfl, Nat.le_of_ble_eq_true rfl⟩ hK hN hP (rX3 hK hP) rfl hl.1 rfl (Nat.le_of_ble_eq_true rfl) dX4_runOpcode_120 ⟨Nat.zero_le _, Nat.zero_le _⟩) hS (fun H locs hP hS => ?_)
      have hP : va_P D vwCl (GX cy ad tk sp nm tp kp q16.2 se ur ab lo im sy un en ra li i2) H := hP
      obtain ⟨q18, h19, h⟩ := lets h
      refine cRv (run_V (rest := []) C (kX4_advanceLine hI h19) caX4_advanceLine w1085 ⟨rfl, rfl, Nat.le_of_ble_eq_true rfl, Nat.le_of_ble_eq_true rfl⟩ hK hN hP (rX48 hK hP) rfl hl.1 rfl (Nat.le_of_ble_eq_true rfl) dX4_runOpcode_123 ⟨Nat.zero_le _, Nat.zero_le _⟩) hS (fun H locs hP hS => ?_)
      have hP : va_P D vwCl (GX cy ad tk sp nm tp kp q16.2 se ur ab lo im sy un en ra q18 i2) H := hP
      refine lv_goto (tgt := 185) hx hb dX4_runOpcode_126 (by decide) ?_
      obtain rfl := Option.some.inj h
      exact W.vret hx hb hr (fun t ht _ => ⟨rfl, by rw [ht]; exact hP, hS.F ht⟩) hS.2.2 dX4_runOpcode_185 hlk
    rw [if_neg c15] at h
    by_cases c20 : ((q1.1).toInt32) = (4 : Int32)
    · rw [if_pos c20] at h
      rw [c20]
      refine lv_tableIn (off := 95) (tgt := 129) hx hb dX4_runOpcode_34 (by decide) (by decide) (by decide) (by decide) ?_
      refine lv_aload_n hx hb dX4_runOpcode_129 rfl (lv_at hl 2 rfl) ?_
      refine lv_aload_n hx hb dX4_runOpcode_130 rfl (lv_at hl 3 rfl) ?_
      obtain ⟨q21, h22, h⟩ := bnd h
      refine cRl (run_V (rest := [.ref (ad 48)]) C (kX1_uleb hI h22) caX1_uleb w1031 ⟨rfl, rfl, Nat.le_of_ble_eq_true rfl, Nat.le_of_ble_eq_true rfl⟩ hK hN hP (rX3 hK hP) rfl hl.1 rfl (Nat.le_of_ble_eq_true rfl) dX4_runOpcode_131 ⟨Nat.zero_le _, Nat.zero_le _⟩) hS (fun H locs hP hS => ?_)
      have hP : va_P D vwCl (GX cy ad tk sp nm tp kp q21.2 se ur ab lo im sy un en ra li i2) H := hP
      refine pX48_14 (v := q21.1) C hI hK hP hS w404 dX4_runOpcode_134 (fun H locs hP hS => ?_)
      have hP : va_P D vwCl (GX cy ad tk sp nm tp kp q21.2 se ur ab lo im sy un en ra (li.1, li.2.1, li.2.2.1, li.2.2.2.1, li.2.2.2.2.1, li.2.2.2.2.2.1, li.2.2.2.2.2.2.1, li.2.2.2.2.2.2.2.1, li.2.2.2.2.2.2.2.2.1, li.2.2.2.2.2.2.2.2.2.1, li.2.2.2.2.2.2.2.2.2.2.1, li.2.2.2.2.2.2.2.2.2.2.2.1, li.2.2.2.2.2.2.2.2.2.2.2.2.1, li.2.2.2.2.2.2.2.2.2.2.2.2.2.1, q21.1, li.2.2.2.2.2.2.2.2.2.2.2.2.2.2.2.1, li.2.2.2.2.2.2.2.2.2.2.2.2.2.2.2.2.1, li.2.2.2.2.2.2.2.2.2.2.2.2.2.2.2.2.2.1, li.2.2.2.2.2.2.2.2.2.2.2.2.2.2.2.2.2.2) i2) H := hP
      refine lv_goto (tgt := 185) hx hb dX4_runOpcode_137 (by decide) ?_
      obtain rfl := Option.some.inj h
      exact W.vret hx hb hr (fun t ht _ => ⟨rfl, by rw [ht]; exact hP, hS.F ht⟩) hS.2.2 dX4_runOpcode_185 hlk
    rw [if_neg c20] at h
    by_cases c23 : ((q1.1).toInt32) = (8 : Int32)
    · rw [if_pos c23] at h
      rw [c23]
      refine lv_tableIn (off := 106) (tgt := 140) hx hb dX4_runOpcode_34 (by decide) (by decide) (by decide) (by decide) ?_
      refine lv_aload_n hx hb dX4_runOpcode_140 rfl (lv_at hl 2 rfl) ?_
      refine lv_aload_n hx hb dX4_runOpcode_141 rfl (lv_at hl 2 rfl) ?_
      refine lv_sipush (v := (255 : Int32)) hx hb dX4_runOpcode_142 (by decide) ?_
      refine lv_aload_n hx hb dX4_runOpcode_145 rfl (lv_at hl 2 rfl) ?_
      refine gX48_9 (v := li.2.2.2.2.2.2.2.2.2.1) C hK hP rfl w399 dX4_runOpcode_146 ?_
      refine lv_isub hx hb dX4_runOpcode_149 ?_
      obtain ⟨q24, h25, h⟩ := bnd h
      refine cPi (run_V (rest := [.ref (ad 48)]) C (kX4_rangesIn h25) caX4_rangesIn w1072 ⟨rfl, rfl, Nat.le_of_ble_eq_true rfl, Nat.le_of_ble_eq_true rfl⟩ hK hN hP (rX48 hK hP) rfl hl.1 rfl (Nat.le_of_ble_eq_true rfl) dX4_runOpcode_150 ⟨Nat.zero_le _, Nat.zero_le _⟩) ?_
      refine lv_i2l (v := ((q24).toInt64)) hx hb dX4_runOpcode_153 rfl ?_
      obtain ⟨q26, h27, h⟩ := lets h
      refine cRv (run_V (rest := []) C (kX4_advanceSteps hI h27) caX4_advanceSteps w1076 ⟨rfl, rfl, Nat.le_of_ble_eq_true rfl, Nat.le_of_ble_eq_true rfl⟩ hK hN hP (rX48 hK hP) rfl hl.1 rfl (Nat.le_of_ble_eq_true rfl) dX4_runOpcode_154 ⟨Nat.zero_le _, Nat.zero_le _⟩) hS (fun H locs hP hS => ?_)
      have hP : va_P D vwCl (GX cy ad tk sp nm tp kp q1.2 se ur ab lo im sy un en ra q26 i2) H := hP
      refine lv_goto (tgt := 185) hx hb dX4_runOpcode_157 (by decide) ?_
      obtain rfl := Option.some.inj h
      exact W.vret hx hb hr (fun t ht _ => ⟨rfl, by rw [ht]; exact hP, hS.F ht⟩) hS.2.2 dX4_runOpcode_185 hlk
    rw [if_neg c23] at h
    by_cases c28 : ((q1.1).toInt32) = (9 : Int32)
    · rw [if_pos c28] at h
      rw [c28]
      refine lv_tableIn (off := 126) (tgt := 160) hx hb dX4_runOpcode_34 (by decide) (by decide) (by decide) (by decide) ?_
      refine lv_aload_n hx hb dX4_runOpcode_160 rfl (lv_at hl 2 rfl) ?_
      refine lv_aload_n hx hb dX4_runOpcode_161 rfl (lv_at hl 3 rfl) ?_
      refine lv_iconst (v := (2 : Int32)) hx hb dX4_runOpcode_162 (by decide) ?_
      obtain ⟨q29, h30, h⟩ := bnd h
      refine cRl (run_V (rest := [.ref (ad 48)]) C (kX1_number hI h30) caX1_number w1012 ⟨rfl, rfl, Nat.le_of_ble_eq_true rfl, Nat.le_of_ble_eq_true rfl⟩ hK hN hP (rX3 hK hP) rfl hl.1 rfl (Nat.le_of_ble_eq_true rfl) dX4_runOpcode_163 ⟨Nat.zero_le _, Nat.zero_le _⟩) hS (fun H locs hP hS => ?_)
      have hP : va_P D vwCl (GX cy ad tk sp nm tp kp q29.2 se ur ab lo im sy un en ra li i2) H := hP
      obtain ⟨q31, h32, h⟩ := lets h
      refine cRv (run_V (rest := []) C (kX4_advance hI h32) caX4_advance w1081 ⟨rfl, rfl, Nat.le_of_ble_eq_true rfl, Nat.le_of_ble_eq_true rfl⟩ hK hN hP (rX48 hK hP) rfl hl.1 rfl (Nat.le_of_ble_eq_true rfl) dX4_runOpcode_166 ⟨Nat.zero_le _, Nat.zero_le _⟩) hS (fun H locs hP hS => ?_)
      have hP : va_P D vwCl (GX cy ad tk sp nm tp kp q29.2 se ur ab lo im sy un en ra q31 i2) H := hP
      refine lv_goto (tgt := 185) hx hb dX4_runOpcode_169 (by decide) ?_
      obtain rfl := Option.some.inj h
      exact W.vret hx hb hr (fun t ht _ => ⟨rfl, by rw [ht]; exact hP, hS.F ht⟩) hS.2.2 dX4_runOpcode_185 hlk
    rw [if_neg c28] at h
    refine tsw_d (tgt := 172) hx hb dX4_runOpcode_34 [(0 : Int32), (1 : Int32), (2 : Int32), (3 : Int32), (4 : Int32), (8 : Int32), (9 : Int32)] (by simp only [List.mem_cons, List.not_mem_nil, or_false]; rintro _ (rfl | rfl | rfl | rfl | rfl | rfl | rfl) <;> assumption) (by decide +kernel) (by decide) ?_
    refine lv_aload_n hx hb dX4_runOpcode_172 rfl (lv_at hl 2 rfl) ?_
    refine lv_aload_n hx hb dX4_runOpcode_173 rfl (lv_at hl 3 rfl) ?_
    refine lv_aload_n hx hb dX4_runOpcode_174 rfl (lv_at hl 2 rfl) ?_
    refine gX48_10 C hK hP w400 dX4_runOpcode_175 ?_
    refine lv_iload_n hx hb dX4_runOpcode_178 rfl (lv_at hl 0 rfl) ?_
    refine xat_i (rest := [.ref (ad 3), .ref (ad 48)]) C hK hN hP eX54 (Nat.le_of_ble_eq_true rfl) w1020 hl.1 (Nat.le_of_ble_eq_true rfl) dX4_runOpcode_179 ⟨Nat.le_of_ble_eq_true rfl, Nat.le_of_ble_eq_true rfl⟩ ⟨Nat.zero_le _, Nat.zero_le _⟩ ?_
    obtain ⟨q33, h34, h⟩ := bnd h
    refine cRv (run_V (rest := []) C (kX4_skipOperands hI h34) caX4_skipOperands w1107 ⟨rfl, rfl, Nat.le_of_ble_eq_true rfl, Nat.le_of_ble_eq_true rfl⟩ hK hN hP (rX48 hK hP) rfl hl.1 rfl (Nat.le_of_ble_eq_true rfl) dX4_runOpcode_182 ⟨Nat.zero_le _, Nat.zero_le _⟩) hS (fun H locs hP hS => ?_)
    have hP : va_P D vwCl (GX cy ad tk sp nm tp kp q33 se ur ab lo im sy un en ra li i2) H := hP
    obtain rfl := Option.some.inj h
    exact W.vret hx hb hr (fun t ht _ => ⟨rfl, by rw [ht]; exact hP, hS.F ht⟩) hS.2.2 dX4_runOpcode_185 hlk
  · rw [if_neg c3] at h
    refine lv_aload_n hx hb dX4_runOpcode_20 rfl (lv_at hl 2 rfl) ?_
    refine lv_aload_n hx hb dX4_runOpcode_21 rfl (lv_at hl 3 rfl) ?_
    refine lv_iload_n hx hb dX4_runOpcode_22 rfl (lv_at hl 1 rfl) ?_
    refine lv_iload_n hx hb dX4_runOpcode_23 rfl (lv_at hl 0 rfl) ?_
    refine lv_aload_n hx hb dX4_runOpcode_24 rfl (lv_at hl 2 rfl) ?_
    refine gX48_9 (v := li.2.2.2.2.2.2.2.2.2.1) C hK hP rfl w399 dX4_runOpcode_25 ?_
    refine lv_isub hx hb dX4_runOpcode_28 ?_
    obtain ⟨q35, h36, h⟩ := bnd h
    refine cRv (run_V (rest := []) C (kX4_runSpecial hI h36) caX4_runSpecial w1068 ⟨rfl, rfl, Nat.le_of_ble_eq_true rfl, Nat.le_of_ble_eq_true rfl⟩ hK hN hP (rX48 hK hP) rfl hl.1 rfl (Nat.le_of_ble_eq_true rfl) dX4_runOpcode_29 ⟨Nat.zero_le _, Nat.zero_le _⟩) hS (fun H locs hP hS => ?_)
    have hP : va_P D vwCl (GX cy ad tk sp nm tp kp q35.1 se ur ab lo im sy un en ra q35.2 i2) H := hP
    obtain rfl := Option.some.inj h
    exact W.vret hx hb hr (fun t ht _ => ⟨rfl, by rw [ht]; exact hP, hS.F ht⟩) hS.2.2 dX4_runOpcode_32 hlk
theorem kX4_runOpcode (hI : Apart ad 89)  {q : Tcu × Tli} (h : X4_runOpcode tp cu li = some q) : Met l yX4_runOpcode (.code yX4_runOpcode cX4_runOpcode 4 none :: WA) ({ frames := 3, cells := 0, slots := 0, locals := 75 } : Room) (va_Pc [.ref (ad 48), .ref (ad 3)] (PR D cy (GX cy ad tk sp nm tp kp cu se ur ab lo im sy un en ra li i2))) (QR none D (GX cy ad tk sp nm tp kp q.1 se ur ab lo im sy un en ra q.2 i2) (Ac ad 89)) 0 0 (Ac ad 89) :=
  met_of (by decide) (Nat.le_of_ble_eq_true rfl) (fun p e s m below meth c ls C hP hK hN hl => bX4_runOpcode_0 C hI hK hN h hl hP va_S.rf)
def X4_runProgram_42 (tp : Ttp)  (cu : Tcu) (li : Tli)  : Option (Tcu × Tli) := (if li.2.2.2.2.2.2.2.2.2.2.2.2.2.2.2.2.2.2 = 0 then some (cu, li) else (letq (X1_refuse cu (1 : Int32) (X1_stop cu)) fun q2 => some (q2, li)))
set_option maxRecDepth 20000 in
theorem bX4_runProgram_42 (C : Cx p s m args meth c cX4_runProgram 3 none RX4 (.code yX4_runProgram cX4_runProgram 3 none)) (hI : Apart ad 89) (hK : va_K D vwCl (tysX cy) s) (hN : NW s)  {q : Tcu × Tli}   (h : X4_runProgram_42 tp cu li = some q) {ls : Array Slot} (hl : lv_has ls 3 [(0, .ref (ad 48)), (1, .ref (ad 3))]) {H : Heap} {locs : List Loc} (hP : va_P D vwCl (GX cy ad tk sp nm tp kp cu se ur ab lo im sy un en ra li i2) H) (hS : va_S (Ac ad 89) s.heap H locs) : W p l e ({ frames := 4, cells := 0, slots := 0, locals := 98 } : Room) s m args below meth c H locs 0 0 (MQ below (QR none D (GX cy ad tk sp nm tp kp q.1 se ur ab lo im sy un en ra q.2 i2) (Ac ad 89)) args s 0 0 (Ac ad 89)) (F0 m 42 ls []) := by
  obtain ⟨hx, hb, hml, hown, hts, hr, hlk⟩ := id C
  unfold X4_runProgram_42 at h
  refine lv_aload_n hx hb dX4_runProgram_42 rfl (lv_at hl 0 rfl) ?_
  refine gX48_18 (v := li.2.2.2.2.2.2.2.2.2.2.2.2.2.2.2.2.2.2) C hK hP rfl w408 dX4_runProgram_43 ?_
  refine lv_if_eq (tgt := 58) hx hb dX4_runProgram_46 (by decide) (fun c1 => ?_) (fun c1 => ?_)
  · rw [if_pos c1] at h
    obtain rfl := Option.some.inj h
    exact W.vret hx hb hr (fun t ht _ => ⟨rfl, by rw [ht]; exact hP, hS.F ht⟩) hS.2.2 dX4_runProgram_58 hlk
  · rw [if_neg c1] at h
    refine lv_aload_n hx hb dX4_runProgram_49 rfl (lv_at hl 1 rfl) ?_
    refine lv_iconst (v := (1 : Int32)) hx hb dX4_runProgram_50 (by decide) ?_
    refine lv_aload_n hx hb dX4_runProgram_51 rfl (lv_at hl 1 rfl) ?_
    refine cPi (run_V (rest := [.int (1 : Int32), .ref (ad 3)]) C (kX1_stop rfl) caX1_stop w1063 ⟨rfl, rfl, Nat.le_of_ble_eq_true rfl, Nat.le_of_ble_eq_true rfl⟩ hK hN hP (rX3 hK hP) rfl hl.1 rfl (Nat.le_of_ble_eq_true rfl) dX4_runProgram_52 ⟨Nat.zero_le _, Nat.zero_le _⟩) ?_
    obtain ⟨q2, h3, h⟩ := lets h
    refine cRv (run_V (rest := []) C (kX1_refuse hI h3) caX1_refuse w1001 ⟨rfl, rfl, Nat.le_of_ble_eq_true rfl, Nat.le_of_ble_eq_true rfl⟩ hK hN hP (rX3 hK hP) rfl hl.1 rfl (Nat.le_of_ble_eq_true rfl) dX4_runProgram_55 ⟨Nat.zero_le _, Nat.zero_le _⟩) hS (fun H locs hP hS => ?_)
    have hP : va_P D vwCl (GX cy ad tk sp nm tp kp q2 se ur ab lo im sy un en ra li i2) H := hP
    obtain rfl := Option.some.inj h
    exact W.vret hx hb hr (fun t ht _ => ⟨rfl, by rw [ht]; exact hP, hS.F ht⟩) hS.2.2 dX4_runProgram_58 hlk
def X4_runProgram_6b (tp : Ttp)  (k6 : Tcu → Tli → Int32 → Option (Tcu × Tli)) (cu : Tcu) (li : Tli) (v2 : Int32) : Option (Tcu × Tli) := (if v2 < (8000 : Int32) then (if (X1_place cu) < (X1_stop cu) then (if (X1_sound cu) = 0 then X4_runProgram_42 tp cu li else ((X4_runOpcode tp cu li).bind fun q4 => k6 q4.1 q4.2 (v2 + (1 : Int32)))) else X4_runProgram_42 tp cu li) else X4_runProgram_42 tp cu li)
def X4_runProgram_6 (tp : Ttp)  (n : Nat) (st : Tcu × Tli × Int32) : Option (Tcu × Tli) := lp (fun rec st => X4_runProgram_6b tp  (fun a0 a1 a2 => rec (a0, a1, a2)) st.1 st.2.1 st.2.2) n st
set_option maxRecDepth 20000 in
theorem bX4_runProgram_6 (C : Cx p s m args meth c cX4_runProgram 3 none RX4 (.code yX4_runProgram cX4_runProgram 3 none)) (hI : Apart ad 89) (hK : va_K D vwCl (tysX cy) s) (hN : NW s)  {q : Tcu × Tli}  : ∀ (n : Nat) {cu : Tcu} {li : Tli} {v2 : Int32}, X4_runProgram_6 tp  n (cu, li, v2) = some q → ∀ {ls : Array Slot}, lv_has ls 3 [(0, .ref (ad 48)), (1, .ref (ad 3)), (2, .int v2)] → ∀ {H : Heap} {locs : List Loc}, va_P D vwCl (GX cy ad tk sp nm tp kp cu se ur ab lo im sy un en ra li i2) H → va_S (Ac ad 89) s.heap H locs → W p l e ({ frames := 4, cells := 0, slots := 0, locals := 98 } : Room) s m args below meth c H locs 0 0 (MQ below (QR none D (GX cy ad tk sp nm tp kp q.1 se ur ab lo im sy un en ra q.2 i2) (Ac ad 89)) args s 0 0 (Ac ad 89)) (F0 m 6 ls []) := by
  obtain ⟨hx, hb, hml, hown, hts, hr, hlk⟩ := id C
  intro n
  induction n with
  | zero =>
    intro cu li v2 h ls hl H locs hP hS
    have h : (none : Option (Tcu × Tli)) = some q := h
    cases h
  | succ n ih =>
    intro cu li v2 h ls hl H locs hP hS
    have h : X4_runProgram_6b tp  (fun a0 a1 a2 => X4_runProgram_6 tp  n (a0, a1, a2)) cu li v2 = some q := h
    unfold X4_runProgram_6b at h
    refine lv_iload_n hx hb dX4_runProgram_6 rfl (lv_at hl 2 rfl) ?_
    refine lv_sipush (v := (8000 : Int32)) hx hb dX4_runProgram_7 (by decide) ?_
    refine b_icmp_ge (tgt := 42) hx hb dX4_runProgram_10 (by decide) (fun c1 => ?_) (fun c1 => ?_)
    · rw [if_neg c1] at h
      exact bX4_runProgram_42 C hI hK hN h (lv_sub hl [0, 1] rfl) hP hS
    · rw [if_pos c1] at h
      refine lv_aload_n hx hb dX4_runProgram_13 rfl (lv_at hl 1 rfl) ?_
      refine cPi (run_V (rest := []) C (kX1_place rfl) caX1_place w1011 ⟨rfl, rfl, Nat.le_of_ble_eq_true rfl, Nat.le_of_ble_eq_true rfl⟩ hK hN hP (rX3 hK hP) rfl hl.1 rfl (Nat.le_of_ble_eq_true rfl) dX4_runProgram_14 ⟨Nat.zero_le _, Nat.zero_le _⟩) ?_
      refine lv_aload_n hx hb dX4_runProgram_17 rfl (lv_at hl 1 rfl) ?_
      refine cPi (run_V (rest := [.int (X1_place cu)]) C (kX1_stop rfl) caX1_stop w1063 ⟨rfl, rfl, Nat.le_of_ble_eq_true rfl, Nat.le_of_ble_eq_true rfl⟩ hK hN hP (rX3 hK hP) rfl hl.1 rfl (Nat.le_of_ble_eq_true rfl) dX4_runProgram_18 ⟨Nat.zero_le _, Nat.zero_le _⟩) ?_
      refine b_icmp_ge (tgt := 42) hx hb dX4_runProgram_21 (by decide) (fun c2 => ?_) (fun c2 => ?_)
      · rw [if_neg c2] at h
        exact bX4_runProgram_42 C hI hK hN h (lv_sub hl [0, 1] rfl) hP hS
      · rw [if_pos c2] at h
        refine lv_aload_n hx hb dX4_runProgram_24 rfl (lv_at hl 1 rfl) ?_
        refine cPi (run_V (rest := []) C (kX1_sound rfl) caX1_sound w988 ⟨rfl, rfl, Nat.le_of_ble_eq_true rfl, Nat.le_of_ble_eq_true rfl⟩ hK hN hP (rX3 hK hP) rfl hl.1 rfl (Nat.le_of_ble_eq_true rfl) dX4_runProgram_25 ⟨Nat.zero_le _, Nat.zero_le _⟩) ?_
        refine lv_if_eq (tgt := 42) hx hb dX4_runProgram_28 (by decide) (fun c3 => ?_) (fun c3 => ?_)
        · rw [if_pos c3] at h
          exact bX4_runProgram_42 C hI hK hN h (lv_sub hl [0, 1] rfl) hP hS
        · rw [if_neg c3] at h
          refine lv_aload_n hx hb dX4_runProgram_31 rfl (lv_at hl 0 rfl) ?_
          refine lv_aload_n hx hb dX4_runProgram_32 rfl (lv_at hl 1 rfl) ?_
          obtain ⟨q4, h5, h⟩ := bnd h
          refine cRv (run_V (rest := []) C (kX4_runOpcode hI h5) caX4_runOpcode w1064 ⟨rfl, rfl, Nat.le_of_ble_eq_true rfl, Nat.le_of_ble_eq_true rfl⟩ hK hN hP (rX48 hK hP) rfl hl.1 rfl (Nat.le_of_ble_eq_true rfl) dX4_runProgram_33 ⟨Nat.zero_le _, Nat.zero_le _⟩) hS (fun H locs hP hS => ?_)
          have hP : va_P D vwCl (GX cy ad tk sp nm tp kp q4.1 se ur ab lo im sy un en ra q4.2 i2) H := hP
          refine lv_iinc (v := (v2 + (1 : Int32))) (lv' := [(2, .int (v2 + (1 : Int32))), (0, .ref (ad 48)), (1, .ref (ad 3))]) hx hb dX4_runProgram_36 hl (k := 2) rfl rfl (by decide) rfl (fun ls hl => ?_)
          refine lv_goto (tgt := 6) hx hb dX4_runProgram_39 (by decide) ?_
          exact ih h (lv_sub hl [1, 2, 0] rfl) hP hS
def X4_runProgram (tp : Ttp) (cu : Tcu) (li : Tli)  : Option (Tcu × Tli) := (letq (X4_beginSequence li) fun q1 => X4_runProgram_6 tp FU (cu, q1, (0 : Int32)))
set_option maxRecDepth 20000 in
theorem bX4_runProgram_0 (C : Cx p s m args meth c cX4_runProgram 3 none RX4 (.code yX4_runProgram cX4_runProgram 3 none)) (hI : Apart ad 89) (hK : va_K D vwCl (tysX cy) s) (hN : NW s)  {q : Tcu × Tli}   (h : X4_runProgram tp cu li = some q) {ls : Array Slot} (hl : lv_has ls 3 [(0, .ref (ad 48)), (1, .ref (ad 3))]) {H : Heap} {locs : List Loc} (hP : va_P D vwCl (GX cy ad tk sp nm tp kp cu se ur ab lo im sy un en ra li i2) H) (hS : va_S (Ac ad 89) s.heap H locs) : W p l e ({ frames := 4, cells := 0, slots := 0, locals := 98 } : Room) s m args below meth c H locs 0 0 (MQ below (QR none D (GX cy ad tk sp nm tp kp q.1 se ur ab lo im sy un en ra q.2 i2) (Ac ad 89)) args s 0 0 (Ac ad 89)) (F0 m 0 ls []) := by
  obtain ⟨hx, hb, hml, hown, hts, hr, hlk⟩ := id C
  unfold X4_runProgram at h
  refine lv_aload_n hx hb dX4_runProgram_0 rfl (lv_at hl 0 rfl) ?_
  obtain ⟨q1, h2, h⟩ := lets h
  refine cRv (run_V (rest := []) C (kX4_beginSequence hI h2) caX4_beginSequence w1055 ⟨rfl, rfl, Nat.le_of_ble_eq_true rfl, Nat.le_of_ble_eq_true rfl⟩ hK hN hP (rX48 hK hP) rfl hl.1 rfl (Nat.le_of_ble_eq_true rfl) dX4_runProgram_1 ⟨Nat.zero_le _, Nat.zero_le _⟩) hS (fun H locs hP hS => ?_)
  have hP : va_P D vwCl (GX cy ad tk sp nm tp kp cu se ur ab lo im sy un en ra q1 i2) H := hP
  refine lv_iconst (v := (0 : Int32)) hx hb dX4_runProgram_4 (by decide) ?_
  refine lv_istore_n (lv' := [(2, .int (0 : Int32)), (0, .ref (ad 48)), (1, .ref (ad 3))]) hx hb dX4_runProgram_5 rfl hl (by decide) rfl (fun ls hl => ?_)
  exact bX4_runProgram_6 C hI hK hN FU h (lv_sub hl [1, 2, 0] rfl) hP hS
theorem kX4_runProgram (hI : Apart ad 89)  {q : Tcu × Tli} (h : X4_runProgram tp cu li = some q) : Met l yX4_runProgram (.code yX4_runProgram cX4_runProgram 3 none :: WA) ({ frames := 4, cells := 0, slots := 0, locals := 98 } : Room) (va_Pc [.ref (ad 48), .ref (ad 3)] (PR D cy (GX cy ad tk sp nm tp kp cu se ur ab lo im sy un en ra li i2))) (QR none D (GX cy ad tk sp nm tp kp q.1 se ur ab lo im sy un en ra q.2 i2) (Ac ad 89)) 0 0 (Ac ad 89) :=
  met_of (by decide) (Nat.le_of_ble_eq_true rfl) (fun p e s m below meth c ls C hP hK hN hl => bX4_runProgram_0 C hI hK hN h hl hP va_S.rf)
def X7_beginOf (se : Tse) (v1 : Int32) : Int32 := (if (at_i 7 se.2.2.1 v1) = (-1 : Int32) then (0 : Int32) else (at_i 30 se.1 (at_i 7 se.2.2.1 v1)))
set_option maxRecDepth 20000 in
theorem bX7_beginOf_0 (C : Cx p s m args meth c cX7_beginOf 3 (some .int) RX7 (.code yX7_beginOf cX7_beginOf 3 (some .int))) (hK : va_K D vwCl (tysX cy) s) (hN : NW s)  {q : Int32}  {v1 : Int32} (h : X7_beginOf se v1 = q) {ls : Array Slot} (hl : lv_has ls 3 [(0, .ref (ad 4)), (1, .int v1)]) (hP : va_P D vwCl (GX cy ad tk sp nm tp kp cu se ur ab lo im sy un en ra li i2) s.heap) : W p l e ({ frames := 1, cells := 0, slots := 0, locals := 21 } : Room) s m args below meth c s.heap [] 0 0 (MQ below (QP (some (.int q))) args s 0 0 (fun _ => False)) (F0 m 0 ls []) := by
  obtain ⟨hx, hb, hml, hown, hts, hr, hlk⟩ := id C
  unfold X7_beginOf at h
  refine lv_aload_n hx hb dX7_beginOf_0 rfl (lv_at hl 0 rfl) ?_
  refine gX4_2 C hK hP w157 dX7_beginOf_1 ?_
  refine lv_iload_n hx hb dX7_beginOf_4 rfl (lv_at hl 1 rfl) ?_
  refine xat_i (rest := []) C hK hN hP eX7 (Nat.le_of_ble_eq_true rfl) w589 hl.1 (Nat.le_of_ble_eq_true rfl) dX7_beginOf_5 ⟨Nat.le_of_ble_eq_true rfl, Nat.le_of_ble_eq_true rfl⟩ ⟨Nat.zero_le _, Nat.zero_le _⟩ ?_
  refine lv_istore_n (lv' := [(2, .int (at_i 7 se.2.2.1 v1)), (0, .ref (ad 4)), (1, .int v1)]) hx hb dX7_beginOf_8 rfl hl (by decide) rfl (fun ls hl => ?_)
  refine lv_iload_n hx hb dX7_beginOf_9 rfl (lv_at hl 0 rfl) ?_
  refine lv_iconst (v := (-1 : Int32)) hx hb dX7_beginOf_10 (by decide) ?_
  refine lv_icmp_ne (tgt := 18) hx hb dX7_beginOf_11 (by decide) (fun c1 => ?_) (fun c1 => ?_)
  · rw [if_neg c1] at h
    refine lv_aload_n hx hb dX7_beginOf_18 rfl (lv_at hl 1 rfl) ?_
    refine gX4_0 C hK hP w155 dX7_beginOf_19 ?_
    refine lv_iload_n hx hb dX7_beginOf_22 rfl (lv_at hl 0 rfl) ?_
    refine xat_i (rest := []) C hK hN hP eX5 (Nat.le_of_ble_eq_true rfl) w589 hl.1 (Nat.le_of_ble_eq_true rfl) dX7_beginOf_23 ⟨Nat.le_of_ble_eq_true rfl, Nat.le_of_ble_eq_true rfl⟩ ⟨Nat.zero_le _, Nat.zero_le _⟩ ?_
    obtain rfl := h
    exact W.iret hx hb hr (fun t ht _ => ⟨rfl, ht⟩) (fun _ h9 => by cases h9) dX7_beginOf_26 hlk
  · rw [if_pos c1] at h
    refine lv_iconst (v := (0 : Int32)) hx hb dX7_beginOf_14 (by decide) ?_
    refine lv_goto (tgt := 26) hx hb dX7_beginOf_15 (by decide) ?_
    obtain rfl := h
    exact W.iret hx hb hr (fun t ht _ => ⟨rfl, ht⟩) (fun _ h9 => by cases h9) dX7_beginOf_26 hlk
theorem kX7_beginOf  {v1 : Int32} {q : Int32} (h : X7_beginOf se v1 = q) : Met l yX7_beginOf (.code yX7_beginOf cX7_beginOf 3 (some .int) :: WA) ({ frames := 1, cells := 0, slots := 0, locals := 21 } : Room) (va_Pc [.ref (ad 4), .int v1] (PR D cy (GX cy ad tk sp nm tp kp cu se ur ab lo im sy un en ra li i2))) (QP (some (.int q))) 0 0 (fun _ => False) :=
  met_of (by decide) (Nat.le_of_ble_eq_true rfl) (fun p e s m below meth c ls C hP hK hN hl => bX7_beginOf_0 C hK hN h hl hP)
def X7_stopOf (se : Tse) (v1 : Int32) : Int32 := (if (at_i 7 se.2.2.1 v1) = (-1 : Int32) then (0 : Int32) else (at_i 30 se.2.1 (at_i 7 se.2.2.1 v1)))
set_option maxRecDepth 20000 in
theorem bX7_stopOf_0 (C : Cx p s m args meth c cX7_stopOf 3 (some .int) RX7 (.code yX7_stopOf cX7_stopOf 3 (some .int))) (hK : va_K D vwCl (tysX cy) s) (hN : NW s)  {q : Int32}  {v1 : Int32} (h : X7_stopOf se v1 = q) {ls : Array Slot} (hl : lv_has ls 3 [(0, .ref (ad 4)), (1, .int v1)]) (hP : va_P D vwCl (GX cy ad tk sp nm tp kp cu se ur ab lo im sy un en ra li i2) s.heap) : W p l e ({ frames := 1, cells := 0, slots := 0, locals := 21 } : Room) s m args below meth c s.heap [] 0 0 (MQ below (QP (some (.int q))) args s 0 0 (fun _ => False)) (F0 m 0 ls []) := by
  obtain ⟨hx, hb, hml, hown, hts, hr, hlk⟩ := id C
  unfold X7_stopOf at h
  refine lv_aload_n hx hb dX7_stopOf_0 rfl (lv_at hl 0 rfl) ?_
  refine gX4_2 C hK hP w157 dX7_stopOf_1 ?_
  refine lv_iload_n hx hb dX7_stopOf_4 rfl (lv_at hl 1 rfl) ?_
  refine xat_i (rest := []) C hK hN hP eX7 (Nat.le_of_ble_eq_true rfl) w589 hl.1 (Nat.le_of_ble_eq_true rfl) dX7_stopOf_5 ⟨Nat.le_of_ble_eq_true rfl, Nat.le_of_ble_eq_true rfl⟩ ⟨Nat.zero_le _, Nat.zero_le _⟩ ?_
  refine lv_istore_n (lv' := [(2, .int (at_i 7 se.2.2.1 v1)), (0, .ref (ad 4)), (1, .int v1)]) hx hb dX7_stopOf_8 rfl hl (by decide) rfl (fun ls hl => ?_)
  refine lv_iload_n hx hb dX7_stopOf_9 rfl (lv_at hl 0 rfl) ?_
  refine lv_iconst (v := (-1 : Int32)) hx hb dX7_stopOf_10 (by decide) ?_
  refine lv_icmp_ne (tgt := 18) hx hb dX7_stopOf_11 (by decide) (fun c1 => ?_) (fun c1 => ?_)
  · rw [if_neg c1] at h
    refine lv_aload_n hx hb dX7_stopOf_18 rfl (lv_at hl 1 rfl) ?_
    refine gX4_1 C hK hP w156 dX7_stopOf_19 ?_
    refine lv_iload_n hx hb dX7_stopOf_22 rfl (lv_at hl 0 rfl) ?_
    refine xat_i (rest := []) C hK hN hP eX6 (Nat.le_of_ble_eq_true rfl) w589 hl.1 (Nat.le_of_ble_eq_true rfl) dX7_stopOf_23 ⟨Nat.le_of_ble_eq_true rfl, Nat.le_of_ble_eq_true rfl⟩ ⟨Nat.zero_le _, Nat.zero_le _⟩ ?_
    obtain rfl := h
    exact W.iret hx hb hr (fun t ht _ => ⟨rfl, ht⟩) (fun _ h9 => by cases h9) dX7_stopOf_26 hlk
  · rw [if_pos c1] at h
    refine lv_iconst (v := (0 : Int32)) hx hb dX7_stopOf_14 (by decide) ?_
    refine lv_goto (tgt := 26) hx hb dX7_stopOf_15 (by decide) ?_
    obtain rfl := h
    exact W.iret hx hb hr (fun t ht _ => ⟨rfl, ht⟩) (fun _ h9 => by cases h9) dX7_stopOf_26 hlk
theorem kX7_stopOf  {v1 : Int32} {q : Int32} (h : X7_stopOf se v1 = q) : Met l yX7_stopOf (.code yX7_stopOf cX7_stopOf 3 (some .int) :: WA) ({ frames := 1, cells := 0, slots := 0, locals := 21 } : Room) (va_Pc [.ref (ad 4), .int v1] (PR D cy (GX cy ad tk sp nm tp kp cu se ur ab lo im sy un en ra li i2))) (QP (some (.int q))) 0 0 (fun _ => False) :=
  met_of (by decide) (Nat.le_of_ble_eq_true rfl) (fun p e s m below meth c ls C hP hK hN hl => bX7_stopOf_0 C hK hN h hl hP)
def X7_isIn (se : Tse) (v1 : Int32) (v2 : Int64) : Int32 := (if v2 < (0 : Int64) then (0 : Int32) else (if v2 < ((((X7_stopOf se v1) - (X7_beginOf se v1))).toInt64) then (1 : Int32) else (0 : Int32)))
set_option maxRecDepth 20000 in
theorem bX7_isIn_0 (C : Cx p s m args meth c cX7_isIn 4 (some .boolean) RX7 (.code yX7_isIn cX7_isIn 4 (some .boolean))) (hK : va_K D vwCl (tysX cy) s) (hN : NW s)  {q : Int32}  {v1 : Int32} {v2 : Int64} (h : X7_isIn se v1 v2 = q) {ls : Array Slot} (hl : lv_has ls 4 [(0, .ref (ad 4)), (1, .int v1), (2, .long v2)]) (hP : va_P D vwCl (GX cy ad tk sp nm tp kp cu se ur ab lo im sy un en ra li i2) s.heap) : W p l e ({ frames := 2, cells := 0, slots := 0, locals := 43 } : Room) s m args below meth c s.heap [] 0 0 (MQ below (QP (some (.int q))) args s 0 0 (fun _ => False)) (F0 m 0 ls []) := by
  obtain ⟨hx, hb, hml, hown, hts, hr, hlk⟩ := id C
  unfold X7_isIn at h
  refine lv_lload_n hx hb dX7_isIn_0 rfl (lv_at hl 2 rfl) ?_
  refine lv_lconst (v := (0 : Int64)) hx hb dX7_isIn_1 (by decide) ?_
  refine lc_lt (tgt := 27) hx hb dX7_isIn_2 dX7_isIn_3 (by decide) (fun c1 => ?_) (fun c1 => ?_)
  · rw [if_pos c1] at h
    refine lv_iconst (v := (0 : Int32)) hx hb dX7_isIn_27 (by decide) ?_
    obtain rfl := h
    exact W.zret (ty := .boolean) hx hb hr (by decide) (fun t ht _ => ⟨rfl, ht⟩) (fun _ h9 => by cases h9) dX7_isIn_28 hlk
  · rw [if_neg c1] at h
    refine lv_lload_n hx hb dX7_isIn_6 rfl (lv_at hl 2 rfl) ?_
    refine lv_aload_n hx hb dX7_isIn_7 rfl (lv_at hl 0 rfl) ?_
    refine lv_iload_n hx hb dX7_isIn_8 rfl (lv_at hl 1 rfl) ?_
    refine cPi (run_V (rest := [.long v2]) C (kX7_stopOf rfl) caX7_stopOf w746 ⟨rfl, rfl, Nat.le_of_ble_eq_true rfl, Nat.le_of_ble_eq_true rfl⟩ hK hN hP (rX4 hK hP) rfl hl.1 rfl (Nat.le_of_ble_eq_true rfl) dX7_isIn_9 ⟨Nat.zero_le _, Nat.zero_le _⟩) ?_
    refine lv_aload_n hx hb dX7_isIn_12 rfl (lv_at hl 0 rfl) ?_
    refine lv_iload_n hx hb dX7_isIn_13 rfl (lv_at hl 1 rfl) ?_
    refine cPi (run_V (rest := [.int (X7_stopOf se v1), .long v2]) C (kX7_beginOf rfl) caX7_beginOf w747 ⟨rfl, rfl, Nat.le_of_ble_eq_true rfl, Nat.le_of_ble_eq_true rfl⟩ hK hN hP (rX4 hK hP) rfl hl.1 rfl (Nat.le_of_ble_eq_true rfl) dX7_isIn_14 ⟨Nat.zero_le _, Nat.zero_le _⟩) ?_
    refine lv_isub hx hb dX7_isIn_17 ?_
    refine lv_i2l (v := ((((X7_stopOf se v1) - (X7_beginOf se v1))).toInt64)) hx hb dX7_isIn_18 rfl ?_
    refine lc_ge (tgt := 27) hx hb dX7_isIn_19 dX7_isIn_20 (by decide) (fun c2 => ?_) (fun c2 => ?_)
    · rw [if_neg c2] at h
      refine lv_iconst (v := (0 : Int32)) hx hb dX7_isIn_27 (by decide) ?_
      obtain rfl := h
      exact W.zret (ty := .boolean) hx hb hr (by decide) (fun t ht _ => ⟨rfl, ht⟩) (fun _ h9 => by cases h9) dX7_isIn_28 hlk
    · rw [if_pos c2] at h
      refine lv_iconst (v := (1 : Int32)) hx hb dX7_isIn_23 (by decide) ?_
      refine lv_goto (tgt := 28) hx hb dX7_isIn_24 (by decide) ?_
      obtain rfl := h
      exact W.zret (ty := .boolean) hx hb hr (by decide) (fun t ht _ => ⟨rfl, ht⟩) (fun _ h9 => by cases h9) dX7_isIn_28 hlk
theorem kX7_isIn  {v1 : Int32} {v2 : Int64} {q : Int32} (h : X7_isIn se v1 v2 = q) : Met l yX7_isIn (.code yX7_isIn cX7_isIn 4 (some .boolean) :: WA) ({ frames := 2, cells := 0, slots := 0, locals := 43 } : Room) (va_Pc [.ref (ad 4), .int v1, .long v2] (PR D cy (GX cy ad tk sp nm tp kp cu se ur ab lo im sy un en ra li i2))) (QP (some (.int q))) 0 0 (fun _ => False) :=
  met_of (by decide) (Nat.le_of_ble_eq_true rfl) (fun p e s m below meth c ls C hP hK hN hl => bX7_isIn_0 C hK hN h hl hP)
def X4_readTable_87 (tp : Ttp) (se : Tse)  (cu : Tcu) (un : Tun) (li : Tli)  : Option (Tcu × Tun × Tli) := ((X4_runProgram tp cu li).bind fun q1 => some (q1.1, un, q1.2))
set_option maxRecDepth 20000 in
theorem bX4_readTable_87 (C : Cx p s m args meth c cX4_readTable 6 none RX4 (.code yX4_readTable cX4_readTable 6 none)) (hI : Apart ad 89) (hK : va_K D vwCl (tysX cy) s) (hN : NW s) (hF : SF t adK adV (Ac ad 89) s s.heap)  {q : Tcu × Tun × Tli}   (h : X4_readTable_87 tp se cu un li = some q) {ls : Array Slot} (hl : lv_has ls 6 [(0, .ref (ad 48)), (1, .ref (ad 3))]) {H : Heap} {locs : List Loc} (hP : va_P D vwCl (GX cy ad tk sp nm tp kp cu se ur ab lo im sy un en ra li i2) H) (hS : va_S (Ac ad 89) s.heap H locs) : W p l e ({ frames := 5, cells := 0, slots := 0, locals := 120 } : Room) s m args below meth c H locs 0 0 (MQ below (QR none D (GX cy ad tk sp nm tp kp q.1 se ur ab lo im sy q.2.1 en ra q.2.2 i2) (Ac ad 89)) args s 0 0 (Ac ad 89)) (F0 m 87 ls []) := by
  obtain ⟨hx, hb, hml, hown, hts, hr, hlk⟩ := id C
  unfold X4_readTable_87 at h
  refine lv_aload_n hx hb dX4_readTable_87 rfl (lv_at hl 0 rfl) ?_
  refine lv_aload_n hx hb dX4_readTable_88 rfl (lv_at hl 1 rfl) ?_
  obtain ⟨q1, h2, h⟩ := bnd h
  refine cRv (run_V (rest := []) C (kX4_runProgram hI h2) caX4_runProgram w1051 ⟨rfl, rfl, Nat.le_of_ble_eq_true rfl, Nat.le_of_ble_eq_true rfl⟩ hK hN hP (rX48 hK hP) rfl hl.1 rfl (Nat.le_of_ble_eq_true rfl) dX4_readTable_89 ⟨Nat.zero_le _, Nat.zero_le _⟩) hS (fun H locs hP hS => ?_)
  have hP : va_P D vwCl (GX cy ad tk sp nm tp kp q1.1 se ur ab lo im sy un en ra q1.2 i2) H := hP
  obtain rfl := Option.some.inj h
  exact W.vret hx hb hr (fun t ht _ => ⟨rfl, by rw [ht]; exact hP, hS.F ht⟩) hS.2.2 dX4_readTable_92 hlk
def X4_readTable (tp : Ttp) (cu : Tcu) (se : Tse) (un : Tun) (li : Tli) (v4 : Int64) : Option (Tcu × Tun × Tli) := (if (X7_isIn se (5 : Int32) v4) = 0 then (letq (X1_refuse cu (3 : Int32) (X10_beginOf un li.2.2.2.2.2.2.2.2.2.2.2.2.1)) fun q17 => some (q17, un, li)) else (letq (X1_within cu ((X7_beginOf se (5 : Int32)) + ((v4).toInt32)) (X7_stopOf se (5 : Int32))) fun q2 => ((X1_enterCounted tp q2).bind fun q4 => ((X4_readHead tp q4 li).bind fun q6 => ((X4_readOperands tp q6.1 q6.2).bind fun q8 => ((X4_readDirectories tp q8.1).bind fun q10 => ((X4_readFiles tp q10.2 un q8.2 q10.1).bind fun q12 => (if (X1_place q12.1) = q8.2.2.2.2.2.2.2.2.2.2.2.2.1 then X4_readTable_87 tp se q12.1 q12.2 q8.2 else (letq (X1_refuse q12.1 (2 : Int32) (X1_place q12.1)) fun q15 => X4_readTable_87 tp se q15 q12.2 q8.2)))))))))
set_option maxRecDepth 20000 in
theorem bX4_readTable_0 (C : Cx p s m args meth c cX4_readTable 6 none RX4 (.code yX4_readTable cX4_readTable 6 none)) (hI : Apart ad 89) (hK : va_K D vwCl (tysX cy) s) (hN : NW s) (hF : SF t adK adV (Ac ad 89) s s.heap)  {q : Tcu × Tun × Tli}  {v4 : Int64} (h : X4_readTable tp cu se un li v4 = some q) {ls : Array Slot} (hl : lv_has ls 6 [(0, .ref (ad 48)), (1, .ref (ad 3)), (2, .ref (ad 4)), (3, .ref (ad 27)), (4, .long v4)]) {H : Heap} {locs : List Loc} (hP : va_P D vwCl (GX cy ad tk sp nm tp kp cu se ur ab lo im sy un en ra li i2) H) (hS : va_S (Ac ad 89) s.heap H locs) : W p l e ({ frames := 5, cells := 0, slots := 0, locals := 120 } : Room) s m args below meth c H locs 0 0 (MQ below (QR none D (GX cy ad tk sp nm tp kp q.1 se ur ab lo im sy q.2.1 en ra q.2.2 i2) (Ac ad 89)) args s 0 0 (Ac ad 89)) (F0 m 0 ls []) := by
  obtain ⟨hx, hb, hml, hown, hts, hr, hlk⟩ := id C
  unfold X4_readTable at h
  refine lv_aload_n hx hb dX4_readTable_0 rfl (lv_at hl 2 rfl) ?_
  refine lv_iconst (v := (5 : Int32)) hx hb dX4_readTable_1 (by decide) ?_
  refine lv_lload hx hb dX4_readTable_2 (lv_at hl 4 rfl) ?_
  refine cPi (run_V (rest := []) C (kX7_isIn rfl) caX7_isIn w996 ⟨rfl, rfl, Nat.le_of_ble_eq_true rfl, Nat.le_of_ble_eq_true rfl⟩ hK hN hP (rX4 hK hP) rfl hl.1 rfl (Nat.le_of_ble_eq_true rfl) dX4_readTable_4 ⟨Nat.zero_le _, Nat.zero_le _⟩) ?_
  refine lv_if_ne (tgt := 24) hx hb dX4_readTable_7 (by decide) (fun c1 => ?_) (fun c1 => ?_)
  · rw [if_neg c1] at h
    refine lv_aload_n hx hb dX4_readTable_24 rfl (lv_at hl 1 rfl) ?_
    refine lv_aload_n hx hb dX4_readTable_25 rfl (lv_at hl 2 rfl) ?_
    refine lv_iconst (v := (5 : Int32)) hx hb dX4_readTable_26 (by decide) ?_
    refine cPi (run_V (rest := [.ref (ad 3)]) C (kX7_beginOf rfl) caX7_beginOf w1002 ⟨rfl, rfl, Nat.le_of_ble_eq_true rfl, Nat.le_of_ble_eq_true rfl⟩ hK hN hP (rX4 hK hP) rfl hl.1 rfl (Nat.le_of_ble_eq_true rfl) dX4_readTable_27 ⟨Nat.zero_le _, Nat.zero_le _⟩) ?_
    refine lv_lload hx hb dX4_readTable_30 (lv_at hl 4 rfl) ?_
    refine lv_l2i (v := ((v4).toInt32)) hx hb dX4_readTable_32 rfl ?_
    refine lv_iadd hx hb dX4_readTable_33 ?_
    refine lv_aload_n hx hb dX4_readTable_34 rfl (lv_at hl 2 rfl) ?_
    refine lv_iconst (v := (5 : Int32)) hx hb dX4_readTable_35 (by decide) ?_
    refine cPi (run_V (rest := [.int ((X7_beginOf se (5 : Int32)) + ((v4).toInt32)), .ref (ad 3)]) C (kX7_stopOf rfl) caX7_stopOf w1003 ⟨rfl, rfl, Nat.le_of_ble_eq_true rfl, Nat.le_of_ble_eq_true rfl⟩ hK hN hP (rX4 hK hP) rfl hl.1 rfl (Nat.le_of_ble_eq_true rfl) dX4_readTable_36 ⟨Nat.zero_le _, Nat.zero_le _⟩) ?_
    obtain ⟨q2, h3, h⟩ := lets h
    refine cRv (run_V (rest := []) C (kX1_within hI h3) caX1_within w1004 ⟨rfl, rfl, Nat.le_of_ble_eq_true rfl, Nat.le_of_ble_eq_true rfl⟩ hK hN hP (rX3 hK hP) rfl hl.1 rfl (Nat.le_of_ble_eq_true rfl) dX4_readTable_39 ⟨Nat.zero_le _, Nat.zero_le _⟩) hS (fun H locs hP hS => ?_)
    have hP : va_P D vwCl (GX cy ad tk sp nm tp kp q2 se ur ab lo im sy un en ra li i2) H := hP
    refine lv_aload_n hx hb dX4_readTable_42 rfl (lv_at hl 1 rfl) ?_
    obtain ⟨q4, h5, h⟩ := bnd h
    refine cRv (run_V (rest := []) C (kX1_enterCounted hI h5) caX1_enterCounted w1005 ⟨rfl, rfl, Nat.le_of_ble_eq_true rfl, Nat.le_of_ble_eq_true rfl⟩ hK hN hP (rX3 hK hP) rfl hl.1 rfl (Nat.le_of_ble_eq_true rfl) dX4_readTable_43 ⟨Nat.zero_le _, Nat.zero_le _⟩) hS (fun H locs hP hS => ?_)
    have hP : va_P D vwCl (GX cy ad tk sp nm tp kp q4 se ur ab lo im sy un en ra li i2) H := hP
    refine lv_aload_n hx hb dX4_readTable_46 rfl (lv_at hl 0 rfl) ?_
    refine lv_aload_n hx hb dX4_readTable_47 rfl (lv_at hl 1 rfl) ?_
    obtain ⟨q6, h7, h⟩ := bnd h
    refine cRv (run_V (rest := []) C (kX4_readHead hI h7) caX4_readHead w1006 ⟨rfl, rfl, Nat.le_of_ble_eq_true rfl, Nat.le_of_ble_eq_true rfl⟩ hK hN hP (rX48 hK hP) rfl hl.1 rfl (Nat.le_of_ble_eq_true rfl) dX4_readTable_48 ⟨Nat.zero_le _, Nat.zero_le _⟩) hS (fun H locs hP hS => ?_)
    have hP : va_P D vwCl (GX cy ad tk sp nm tp kp q6.1 se ur ab lo im sy un en ra q6.2 i2) H := hP
    refine lv_aload_n hx hb dX4_readTable_51 rfl (lv_at hl 0 rfl) ?_
    refine lv_aload_n hx hb dX4_readTable_52 rfl (lv_at hl 1 rfl) ?_
    obtain ⟨q8, h9, h⟩ := bnd h
    refine cRv (run_Vg (rest := []) C (kX4_readOperands hI h9) caX4_readOperands w1014 ⟨rfl, rfl, Nat.le_of_ble_eq_true rfl, Nat.le_of_ble_eq_true rfl⟩ PS.blind (PS.at hK hN hP hF hS) (rX48 hK hP) rfl hl.1 rfl (Nat.le_of_ble_eq_true rfl) dX4_readTable_53 ⟨Nat.zero_le _, Nat.zero_le _⟩) hS (fun H locs hP hS => ?_)
    have hP : va_P D vwCl (GX cy ad tk sp nm tp kp q8.1 se ur ab lo im sy un en ra q8.2 i2) H := hP
    refine lv_aload_n hx hb dX4_readTable_56 rfl (lv_at hl 0 rfl) ?_
    refine lv_aload_n hx hb dX4_readTable_57 rfl (lv_at hl 1 rfl) ?_
    refine lv_aload_n hx hb dX4_readTable_58 rfl (lv_at hl 3 rfl) ?_
    refine lv_aload_n hx hb dX4_readTable_59 rfl (lv_at hl 0 rfl) ?_
    refine lv_aload_n hx hb dX4_readTable_60 rfl (lv_at hl 1 rfl) ?_
    obtain ⟨q10, h11, h⟩ := bnd h
    refine cRl (run_V (rest := [.ref (ad 27), .ref (ad 3), .ref (ad 48)]) C (kX4_readDirectories hI h11) caX4_readDirectories w1022 ⟨rfl, rfl, Nat.le_of_ble_eq_true rfl, Nat.le_of_ble_eq_true rfl⟩ hK hN hP (rX48 hK hP) rfl hl.1 rfl (Nat.le_of_ble_eq_true rfl) dX4_readTable_61 ⟨Nat.zero_le _, Nat.zero_le _⟩) hS (fun H locs hP hS => ?_)
    have hP : va_P D vwCl (GX cy ad tk sp nm tp kp q10.2 se ur ab lo im sy un en ra q8.2 i2) H := hP
    obtain ⟨q12, h13, h⟩ := bnd h
    refine cRv (run_V (rest := []) C (kX4_readFiles hI h13) caX4_readFiles w1033 ⟨rfl, rfl, Nat.le_of_ble_eq_true rfl, Nat.le_of_ble_eq_true rfl⟩ hK hN hP (rX48 hK hP) rfl hl.1 rfl (Nat.le_of_ble_eq_true rfl) dX4_readTable_64 ⟨Nat.zero_le _, Nat.zero_le _⟩) hS (fun H locs hP hS => ?_)
    have hP : va_P D vwCl (GX cy ad tk sp nm tp kp q12.1 se ur ab lo im sy q12.2 en ra q8.2 i2) H := hP
    refine lv_aload_n hx hb dX4_readTable_67 rfl (lv_at hl 1 rfl) ?_
    refine cPi (run_V (rest := []) C (kX1_place rfl) caX1_place w1011 ⟨rfl, rfl, Nat.le_of_ble_eq_true rfl, Nat.le_of_ble_eq_true rfl⟩ hK hN hP (rX3 hK hP) rfl hl.1 rfl (Nat.le_of_ble_eq_true rfl) dX4_readTable_68 ⟨Nat.zero_le _, Nat.zero_le _⟩) ?_
    refine lv_aload_n hx hb dX4_readTable_71 rfl (lv_at hl 0 rfl) ?_
    refine gX48_11 (v := q8.2.2.2.2.2.2.2.2.2.2.2.2.1) C hK hP rfl w401 dX4_readTable_72 ?_
    refine lv_icmp_eq (tgt := 87) hx hb dX4_readTable_75 (by decide) (fun c14 => ?_) (fun c14 => ?_)
    · rw [if_pos c14] at h
      exact bX4_readTable_87 C hI hK hN hF h (lv_sub hl [0, 1] rfl) hP hS
    · rw [if_neg c14] at h
      refine lv_aload_n hx hb dX4_readTable_78 rfl (lv_at hl 1 rfl) ?_
      refine lv_iconst (v := (2 : Int32)) hx hb dX4_readTable_79 (by decide) ?_
      refine lv_aload_n hx hb dX4_readTable_80 rfl (lv_at hl 1 rfl) ?_
      refine cPi (run_V (rest := [.int (2 : Int32), .ref (ad 3)]) C (kX1_place rfl) caX1_place w1011 ⟨rfl, rfl, Nat.le_of_ble_eq_true rfl, Nat.le_of_ble_eq_true rfl⟩ hK hN hP (rX3 hK hP) rfl hl.1 rfl (Nat.le_of_ble_eq_true rfl) dX4_readTable_81 ⟨Nat.zero_le _, Nat.zero_le _⟩) ?_
      obtain ⟨q15, h16, h⟩ := lets h
      refine cRv (run_V (rest := []) C (kX1_refuse hI h16) caX1_refuse w1001 ⟨rfl, rfl, Nat.le_of_ble_eq_true rfl, Nat.le_of_ble_eq_true rfl⟩ hK hN hP (rX3 hK hP) rfl hl.1 rfl (Nat.le_of_ble_eq_true rfl) dX4_readTable_84 ⟨Nat.zero_le _, Nat.zero_le _⟩) hS (fun H locs hP hS => ?_)
      have hP : va_P D vwCl (GX cy ad tk sp nm tp kp q15 se ur ab lo im sy q12.2 en ra q8.2 i2) H := hP
      exact bX4_readTable_87 C hI hK hN hF h (lv_sub hl [0, 1] rfl) hP hS
  · rw [if_pos c1] at h
    refine lv_aload_n hx hb dX4_readTable_10 rfl (lv_at hl 1 rfl) ?_
    refine lv_iconst (v := (3 : Int32)) hx hb dX4_readTable_11 (by decide) ?_
    refine lv_aload_n hx hb dX4_readTable_12 rfl (lv_at hl 3 rfl) ?_
    refine lv_aload_n hx hb dX4_readTable_13 rfl (lv_at hl 0 rfl) ?_
    refine gX48_12 (v := li.2.2.2.2.2.2.2.2.2.2.2.2.1) C hK hP rfl w402 dX4_readTable_14 ?_
    refine cPi (run_V (rest := [.int (3 : Int32), .ref (ad 3)]) C (kX10_beginOf rfl) caX10_beginOf w997 ⟨rfl, rfl, Nat.le_of_ble_eq_true rfl, Nat.le_of_ble_eq_true rfl⟩ hK hN hP (rX27 hK hP) rfl hl.1 rfl (Nat.le_of_ble_eq_true rfl) dX4_readTable_17 ⟨Nat.zero_le _, Nat.zero_le _⟩) ?_
    obtain ⟨q17, h18, h⟩ := lets h
    refine cRv (run_V (rest := []) C (kX1_refuse hI h18) caX1_refuse w1001 ⟨rfl, rfl, Nat.le_of_ble_eq_true rfl, Nat.le_of_ble_eq_true rfl⟩ hK hN hP (rX3 hK hP) rfl hl.1 rfl (Nat.le_of_ble_eq_true rfl) dX4_readTable_20 ⟨Nat.zero_le _, Nat.zero_le _⟩) hS (fun H locs hP hS => ?_)
    have hP : va_P D vwCl (GX cy ad tk sp nm tp kp q17 se ur ab lo im sy un en ra li i2) H := hP
    obtain rfl := Option.some.inj h
    exact W.vret hx hb hr (fun t ht _ => ⟨rfl, by rw [ht]; exact hP, hS.F ht⟩) hS.2.2 dX4_readTable_23 hlk
theorem kX4_readTable (hI : Apart ad 89) {v4 : Int64} {q : Tcu × Tun × Tli} (h : X4_readTable tp cu se un li v4 = some q) : Met l yX4_readTable (.code yX4_readTable cX4_readTable 6 none :: WA) ({ frames := 5, cells := 0, slots := 0, locals := 120 } : Room) (va_Pc [.ref (ad 48), .ref (ad 3), .ref (ad 4), .ref (ad 27), .long v4] (PS D cy t adK adV (Ac ad 89) (GX cy ad tk sp nm tp kp cu se ur ab lo im sy un en ra li i2))) (QR none D (GX cy ad tk sp nm tp kp q.1 se ur ab lo im sy q.2.1 en ra q.2.2 i2) (Ac ad 89)) 0 0 (Ac ad 89) :=
  met_g (by decide) (Nat.le_of_ble_eq_true rfl) (fun p e s m below meth c ls C hB hl => bX4_readTable_0 C hI hB.1.2.1 hB.1.2.2 hB.2 h hl hB.1.1 va_S.rf)
def X4_readAll_87 (tp : Ttp) (se : Tse) (en : Ten) (k8 : Tcu → Tun → Tli → Int32 → Option (Tcu × Tun × Tli)) (cu : Tcu) (un : Tun) (li : Tli) (v4 : Int32) : Option (Tcu × Tun × Tli) := k8 cu un li (v4 + (1 : Int32))
set_option maxRecDepth 20000 in
theorem bX4_readAll_87 (C : Cx p s m args meth c cX4_readAll 6 none RX4 (.code yX4_readAll cX4_readAll 6 none)) (hI : Apart ad 89) (hK : va_K D vwCl (tysX cy) s) (hN : NW s) (hF : SF t adK adV (Ac ad 89) s s.heap) {k8 : Tcu → Tun → Tli → Int32 → Option (Tcu × Tun × Tli)} {q : Tcu × Tun × Tli} (hk8 : ∀ {cu : Tcu} {un : Tun} {li : Tli} {v4 : Int32}, k8 cu un li v4 = some q → ∀ {ls : Array Slot}, lv_has ls 6 [(0, .ref (ad 48)), (1, .ref (ad 3)), (2, .ref (ad 4)), (3, .ref (ad 21)), (4, .int v4)] → ∀ {H : Heap} {locs : List Loc}, va_P D vwCl (GX cy ad tk sp nm tp kp cu se ur ab lo im sy un en ra li i2) H → va_S (Ac ad 89) s.heap H locs → W p l e ({ frames := 6, cells := 0, slots := 0, locals := 145 } : Room) s m args below meth c H locs 0 0 (MQ below (QR none D (GX cy ad tk sp nm tp kp q.1 se ur ab lo im sy q.2.1 en ra q.2.2 i2) (Ac ad 89)) args s 0 0 (Ac ad 89)) (F0 m 8 ls [])) {v4 : Int32} (h : X4_readAll_87 tp se en k8 cu un li v4 = some q) {ls : Array Slot} (hl : lv_has ls 6 [(0, .ref (ad 48)), (1, .ref (ad 3)), (2, .ref (ad 4)), (3, .ref (ad 21)), (4, .int v4)]) {H : Heap} {locs : List Loc} (hP : va_P D vwCl (GX cy ad tk sp nm tp kp cu se ur ab lo im sy un en ra li i2) H) (hS : va_S (Ac ad 89) s.heap H locs) : W p l e ({ frames := 6, cells := 0, slots := 0, locals := 145 } : Room) s m args below meth c H locs 0 0 (MQ below (QR none D (GX cy ad tk sp nm tp kp q.1 se ur ab lo im sy q.2.1 en ra q.2.2 i2) (Ac ad 89)) args s 0 0 (Ac ad 89)) (F0 m 87 ls []) := by
  obtain ⟨hx, hb, hml, hown, hts, hr, hlk⟩ := id C
  unfold X4_readAll_87 at h
  refine lv_iinc (v := (v4 + (1 : Int32))) (lv' := [(4, .int (v4 + (1 : Int32))), (0, .ref (ad 48)), (1, .ref (ad 3)), (2, .ref (ad 4)), (3, .ref (ad 21))]) hx hb dX4_readAll_87 hl (k := 4) rfl rfl (by decide) rfl (fun ls hl => ?_)
  refine lv_goto (tgt := 8) hx hb dX4_readAll_90 (by decide) ?_
  exact hk8 h (lv_sub hl [1, 2, 3, 4, 0] rfl) hP hS
def X4_readAll_8b (tp : Ttp) (se : Tse) (en : Ten)  (k8 : Tcu → Tun → Tli → Int32 → Option (Tcu × Tun × Tli)) (cu : Tcu) (un : Tun) (li : Tli) (v4 : Int32) : Option (Tcu × Tun × Tli) := (if v4 < (20 : Int32) then (if v4 < (X10_total un) then (if (X1_sound cu) = 0 then some (cu, un, li) else (if (X2_isTold en (X10_firstEntryOf un v4) (9 : Int32)) = 0 then X4_readAll_87 tp se en k8 cu un li v4 else ((X4_readTable tp cu se un (li.1, li.2.1, li.2.2.1, li.2.2.2.1, li.2.2.2.2.1, li.2.2.2.2.2.1, li.2.2.2.2.2.2.1, li.2.2.2.2.2.2.2.1, li.2.2.2.2.2.2.2.2.1, li.2.2.2.2.2.2.2.2.2.1, li.2.2.2.2.2.2.2.2.2.2.1, li.2.2.2.2.2.2.2.2.2.2.2.1, v4, li.2.2.2.2.2.2.2.2.2.2.2.2.2.1, li.2.2.2.2.2.2.2.2.2.2.2.2.2.2.1, li.2.2.2.2.2.2.2.2.2.2.2.2.2.2.2.1, li.2.2.2.2.2.2.2.2.2.2.2.2.2.2.2.2.1, li.2.2.2.2.2.2.2.2.2.2.2.2.2.2.2.2.2.1, li.2.2.2.2.2.2.2.2.2.2.2.2.2.2.2.2.2.2) (X2_valueOr en (X10_firstEntryOf un v4) (9 : Int32) (0 : Int64))).bind fun q5 => X4_readAll_87 tp se en k8 q5.1 q5.2.1 q5.2.2 v4))) else some (cu, un, li)) else some (cu, un, li))
def X4_readAll_8 (tp : Ttp) (se : Tse) (en : Ten)  (n : Nat) (st : Tcu × Tun × Tli × Int32) : Option (Tcu × Tun × Tli) := lp (fun rec st => X4_readAll_8b tp se en  (fun a0 a1 a2 a3 => rec (a0, a1, a2, a3)) st.1 st.2.1 st.2.2.1 st.2.2.2) n st
set_option maxRecDepth 20000 in
theorem bX4_readAll_8 (C : Cx p s m args meth c cX4_readAll 6 none RX4 (.code yX4_readAll cX4_readAll 6 none)) (hI : Apart ad 89) (hK : va_K D vwCl (tysX cy) s) (hN : NW s) (hF : SF t adK adV (Ac ad 89) s s.heap)  {q : Tcu × Tun × Tli}  : ∀ (n : Nat) {cu : Tcu} {un : Tun} {li : Tli} {v4 : Int32}, X4_readAll_8 tp se en  n (cu, un, li, v4) = some q → ∀ {ls : Array Slot}, lv_has ls 6 [(0, .ref (ad 48)), (1, .ref (ad 3)), (2, .ref (ad 4)), (3, .ref (ad 21)), (4, .int v4)] → ∀ {H : Heap} {locs : List Loc}, va_P D vwCl (GX cy ad tk sp nm tp kp cu se ur ab lo im sy un en ra li i2) H → va_S (Ac ad 89) s.heap H locs → W p l e ({ frames := 6, cells := 0, slots := 0, locals := 145 } : Room) s m args below meth c H locs 0 0 (MQ below (QR none D (GX cy ad tk sp nm tp kp q.1 se ur ab lo im sy q.2.1 en ra q.2.2 i2) (Ac ad 89)) args s 0 0 (Ac ad 89)) (F0 m 8 ls []) := by
  obtain ⟨hx, hb, hml, hown, hts, hr, hlk⟩ := id C
  intro n
  induction n with
  | zero =>
    intro cu un li v4 h ls hl H locs hP hS
    have h : (none : Option (Tcu × Tun × Tli)) = some q := h
    cases h
  | succ n ih =>
    intro cu un li v4 h ls hl H locs hP hS
    have h : X4_readAll_8b tp se en  (fun a0 a1 a2 a3 => X4_readAll_8 tp se en  n (a0, a1, a2, a3)) cu un li v4 = some q := h
    unfold X4_readAll_8b at h
    refine lv_iload hx hb dX4_readAll_8 (lv_at hl 4 rfl) ?_
    refine lv_bipush (v := (20 : Int32)) hx hb dX4_readAll_10 (by decide) ?_
    refine b_icmp_ge (tgt := 93) hx hb dX4_readAll_12 (by decide) (fun c1 => ?_) (fun c1 => ?_)
    · rw [if_neg c1] at h
      obtain rfl := Option.some.inj h
      exact W.vret hx hb hr (fun t ht _ => ⟨rfl, by rw [ht]; exact hP, hS.F ht⟩) hS.2.2 dX4_readAll_93 hlk
    · rw [if_pos c1] at h
      refine lv_iload hx hb dX4_readAll_15 (lv_at hl 4 rfl) ?_
      refine lv_aload_n hx hb dX4_readAll_17 rfl (lv_at hl 3 rfl) ?_
      refine gX21_1N C hK hP hN w453 dX4_readAll_18 ?_
      refine cPi (run_V (rest := [.int v4]) C (kX10_total rfl) caX10_total w987 ⟨rfl, rfl, Nat.le_of_ble_eq_true rfl, Nat.le_of_ble_eq_true rfl⟩ hK hN hP (rX27 hK hP) rfl hl.1 rfl (Nat.le_of_ble_eq_true rfl) dX4_readAll_21 ⟨Nat.zero_le _, Nat.zero_le _⟩) ?_
      refine b_icmp_ge (tgt := 93) hx hb dX4_readAll_24 (by decide) (fun c2 => ?_) (fun c2 => ?_)
      · rw [if_neg c2] at h
        obtain rfl := Option.some.inj h
        exact W.vret hx hb hr (fun t ht _ => ⟨rfl, by rw [ht]; exact hP, hS.F ht⟩) hS.2.2 dX4_readAll_93 hlk
      · rw [if_pos c2] at h
        refine lv_aload_n hx hb dX4_readAll_27 rfl (lv_at hl 1 rfl) ?_
        refine cPi (run_V (rest := []) C (kX1_sound rfl) caX1_sound w988 ⟨rfl, rfl, Nat.le_of_ble_eq_true rfl, Nat.le_of_ble_eq_true rfl⟩ hK hN hP (rX3 hK hP) rfl hl.1 rfl (Nat.le_of_ble_eq_true rfl) dX4_readAll_28 ⟨Nat.zero_le _, Nat.zero_le _⟩) ?_
        refine lv_if_eq (tgt := 93) hx hb dX4_readAll_31 (by decide) (fun c3 => ?_) (fun c3 => ?_)
        · rw [if_pos c3] at h
          obtain rfl := Option.some.inj h
          exact W.vret hx hb hr (fun t ht _ => ⟨rfl, by rw [ht]; exact hP, hS.F ht⟩) hS.2.2 dX4_readAll_93 hlk
        · rw [if_neg c3] at h
          refine lv_aload_n hx hb dX4_readAll_34 rfl (lv_at hl 3 rfl) ?_
          refine gX21_1N C hK hP hN w453 dX4_readAll_35 ?_
          refine lv_iload hx hb dX4_readAll_38 (lv_at hl 4 rfl) ?_
          refine cPi (run_V (rest := []) C (kX10_firstEntryOf rfl) caX10_firstEntryOf w989 ⟨rfl, rfl, Nat.le_of_ble_eq_true rfl, Nat.le_of_ble_eq_true rfl⟩ hK hN hP (rX27 hK hP) rfl hl.1 rfl (Nat.le_of_ble_eq_true rfl) dX4_readAll_40 ⟨Nat.zero_le _, Nat.zero_le _⟩) ?_
          refine lv_istore (lv' := [(5, .int (X10_firstEntryOf un v4)), (0, .ref (ad 48)), (1, .ref (ad 3)), (2, .ref (ad 4)), (3, .ref (ad 21)), (4, .int v4)]) hx hb dX4_readAll_43 hl (by decide) rfl (fun ls hl => ?_)
          refine lv_aload_n hx hb dX4_readAll_45 rfl (lv_at hl 4 rfl) ?_
          refine gX21_2N C hK hP hN w460 dX4_readAll_46 ?_
          refine lv_iload hx hb dX4_readAll_49 (lv_at hl 0 rfl) ?_
          refine lv_bipush (v := (9 : Int32)) hx hb dX4_readAll_51 (by decide) ?_
          refine cPi (run_V (rest := []) C (kX2_isTold rfl) caX2_isTold w990 ⟨rfl, rfl, Nat.le_of_ble_eq_true rfl, Nat.le_of_ble_eq_true rfl⟩ hK hN hP (rX34 hK hP) rfl hl.1 rfl (Nat.le_of_ble_eq_true rfl) dX4_readAll_53 ⟨Nat.zero_le _, Nat.zero_le _⟩) ?_
          refine lv_if_eq (tgt := 87) hx hb dX4_readAll_56 (by decide) (fun c4 => ?_) (fun c4 => ?_)
          · rw [if_pos c4] at h
            exact bX4_readAll_87 C hI hK hN hF @ih h (lv_sub hl [1, 2, 3, 4, 5] rfl) hP hS
          · rw [if_neg c4] at h
            refine lv_aload_n hx hb dX4_readAll_59 rfl (lv_at hl 1 rfl) ?_
            refine lv_iload hx hb dX4_readAll_60 (lv_at hl 5 rfl) ?_
            refine pX48_12 (v := v4) C hI hK hP hS w402 dX4_readAll_62 (fun H locs hP hS => ?_)
            have hP : va_P D vwCl (GX cy ad tk sp nm tp kp cu se ur ab lo im sy un en ra (li.1, li.2.1, li.2.2.1, li.2.2.2.1, li.2.2.2.2.1, li.2.2.2.2.2.1, li.2.2.2.2.2.2.1, li.2.2.2.2.2.2.2.1, li.2.2.2.2.2.2.2.2.1, li.2.2.2.2.2.2.2.2.2.1, li.2.2.2.2.2.2.2.2.2.2.1, li.2.2.2.2.2.2.2.2.2.2.2.1, v4, li.2.2.2.2.2.2.2.2.2.2.2.2.2.1, li.2.2.2.2.2.2.2.2.2.2.2.2.2.2.1, li.2.2.2.2.2.2.2.2.2.2.2.2.2.2.2.1, li.2.2.2.2.2.2.2.2.2.2.2.2.2.2.2.2.1, li.2.2.2.2.2.2.2.2.2.2.2.2.2.2.2.2.2.1, li.2.2.2.2.2.2.2.2.2.2.2.2.2.2.2.2.2.2) i2) H := hP
            refine lv_aload_n hx hb dX4_readAll_65 rfl (lv_at hl 1 rfl) ?_
            refine lv_aload_n hx hb dX4_readAll_66 rfl (lv_at hl 2 rfl) ?_
            refine lv_aload_n hx hb dX4_readAll_67 rfl (lv_at hl 3 rfl) ?_
            refine lv_aload_n hx hb dX4_readAll_68 rfl (lv_at hl 4 rfl) ?_
            refine gX21_1N C hK hP hN w453 dX4_readAll_69 ?_
            refine lv_aload_n hx hb dX4_readAll_72 rfl (lv_at hl 4 rfl) ?_
            refine gX21_2N C hK hP hN w460 dX4_readAll_73 ?_
            refine lv_iload hx hb dX4_readAll_76 (lv_at hl 0 rfl) ?_
            refine lv_bipush (v := (9 : Int32)) hx hb dX4_readAll_78 (by decide) ?_
            refine lv_lconst (v := (0 : Int64)) hx hb dX4_readAll_80 (by decide) ?_
            refine cPl (run_V (rest := [.ref (ad 27), .ref (ad 4), .ref (ad 3), .ref (ad 48)]) C (kX2_valueOr rfl) caX2_valueOr w991 ⟨rfl, rfl, Nat.le_of_ble_eq_true rfl, Nat.le_of_ble_eq_true rfl⟩ hK hN hP (rX34 hK hP) rfl hl.1 rfl (Nat.le_of_ble_eq_true rfl) dX4_readAll_81 ⟨Nat.zero_le _, Nat.zero_le _⟩) ?_
            obtain ⟨q5, h6, h⟩ := bnd h
            refine cRv (run_Vg (rest := []) C (kX4_readTable hI h6) caX4_readTable w992 ⟨rfl, rfl, Nat.le_of_ble_eq_true rfl, Nat.le_of_ble_eq_true rfl⟩ PS.blind (PS.at hK hN hP hF hS) (rX48 hK hP) rfl hl.1 rfl (Nat.le_of_ble_eq_true rfl) dX4_readAll_84 ⟨Nat.zero_le _, Nat.zero_le _⟩) hS (fun H locs hP hS => ?_)
            have hP : va_P D vwCl (GX cy ad tk sp nm tp kp q5.1 se ur ab lo im sy q5.2.1 en ra q5.2.2 i2) H := hP
            exact bX4_readAll_87 C hI hK hN hF @ih h (lv_sub hl [1, 2, 3, 4, 5] rfl) hP hS
def X4_readAll (tp : Ttp) (cu : Tcu) (se : Tse) (un : Tun) (en : Ten) (li : Tli)  : Option (Tcu × Tun × Tli) := X4_readAll_8 tp se en FU (cu, un, (li.1, li.2.1, li.2.2.1, li.2.2.2.1, li.2.2.2.2.1, (0 : Int32), li.2.2.2.2.2.2.1, li.2.2.2.2.2.2.2.1, li.2.2.2.2.2.2.2.2.1, li.2.2.2.2.2.2.2.2.2.1, li.2.2.2.2.2.2.2.2.2.2.1, li.2.2.2.2.2.2.2.2.2.2.2.1, li.2.2.2.2.2.2.2.2.2.2.2.2.1, li.2.2.2.2.2.2.2.2.2.2.2.2.2.1, li.2.2.2.2.2.2.2.2.2.2.2.2.2.2.1, li.2.2.2.2.2.2.2.2.2.2.2.2.2.2.2.1, li.2.2.2.2.2.2.2.2.2.2.2.2.2.2.2.2.1, li.2.2.2.2.2.2.2.2.2.2.2.2.2.2.2.2.2.1, li.2.2.2.2.2.2.2.2.2.2.2.2.2.2.2.2.2.2), (0 : Int32))
set_option maxRecDepth 20000 in
theorem bX4_readAll_0 (C : Cx p s m args meth c cX4_readAll 6 none RX4 (.code yX4_readAll cX4_readAll 6 none)) (hI : Apart ad 89) (hK : va_K D vwCl (tysX cy) s) (hN : NW s) (hF : SF t adK adV (Ac ad 89) s s.heap)  {q : Tcu × Tun × Tli}   (h : X4_readAll tp cu se un en li = some q) {ls : Array Slot} (hl : lv_has ls 6 [(0, .ref (ad 48)), (1, .ref (ad 3)), (2, .ref (ad 4)), (3, .ref (ad 21))]) {H : Heap} {locs : List Loc} (hP : va_P D vwCl (GX cy ad tk sp nm tp kp cu se ur ab lo im sy un en ra li i2) H) (hS : va_S (Ac ad 89) s.heap H locs) : W p l e ({ frames := 6, cells := 0, slots := 0, locals := 145 } : Room) s m args below meth c H locs 0 0 (MQ below (QR none D (GX cy ad tk sp nm tp kp q.1 se ur ab lo im sy q.2.1 en ra q.2.2 i2) (Ac ad 89)) args s 0 0 (Ac ad 89)) (F0 m 0 ls []) := by
  obtain ⟨hx, hb, hml, hown, hts, hr, hlk⟩ := id C
  unfold X4_readAll at h
  refine lv_aload_n hx hb dX4_readAll_0 rfl (lv_at hl 0 rfl) ?_
  refine lv_iconst (v := (0 : Int32)) hx hb dX4_readAll_1 (by decide) ?_
  refine pX48_5 (v := (0 : Int32)) C hI hK hP hS w395 dX4_readAll_2 (fun H locs hP hS => ?_)
  have hP : va_P D vwCl (GX cy ad tk sp nm tp kp cu se ur ab lo im sy un en ra (li.1, li.2.1, li.2.2.1, li.2.2.2.1, li.2.2.2.2.1, (0 : Int32), li.2.2.2.2.2.2.1, li.2.2.2.2.2.2.2.1, li.2.2.2.2.2.2.2.2.1, li.2.2.2.2.2.2.2.2.2.1, li.2.2.2.2.2.2.2.2.2.2.1, li.2.2.2.2.2.2.2.2.2.2.2.1, li.2.2.2.2.2.2.2.2.2.2.2.2.1, li.2.2.2.2.2.2.2.2.2.2.2.2.2.1, li.2.2.2.2.2.2.2.2.2.2.2.2.2.2.1, li.2.2.2.2.2.2.2.2.2.2.2.2.2.2.2.1, li.2.2.2.2.2.2.2.2.2.2.2.2.2.2.2.2.1, li.2.2.2.2.2.2.2.2.2.2.2.2.2.2.2.2.2.1, li.2.2.2.2.2.2.2.2.2.2.2.2.2.2.2.2.2.2) i2) H := hP
  refine lv_iconst (v := (0 : Int32)) hx hb dX4_readAll_5 (by decide) ?_
  refine lv_istore (lv' := [(4, .int (0 : Int32)), (0, .ref (ad 48)), (1, .ref (ad 3)), (2, .ref (ad 4)), (3, .ref (ad 21))]) hx hb dX4_readAll_6 hl (by decide) rfl (fun ls hl => ?_)
  exact bX4_readAll_8 C hI hK hN hF FU h (lv_sub hl [1, 2, 3, 4, 0] rfl) hP hS
theorem kX4_readAll (hI : Apart ad 89)  {q : Tcu × Tun × Tli} (h : X4_readAll tp cu se un en li = some q) : Met l yX4_readAll (.code yX4_readAll cX4_readAll 6 none :: WA) ({ frames := 6, cells := 0, slots := 0, locals := 145 } : Room) (va_Pc [.ref (ad 48), .ref (ad 3), .ref (ad 4), .ref (ad 21)] (PS D cy t adK adV (Ac ad 89) (GX cy ad tk sp nm tp kp cu se ur ab lo im sy un en ra li i2))) (QR none D (GX cy ad tk sp nm tp kp q.1 se ur ab lo im sy q.2.1 en ra q.2.2 i2) (Ac ad 89)) 0 0 (Ac ad 89) :=
  met_g (by decide) (Nat.le_of_ble_eq_true rfl) (fun p e s m below meth c ls C hB hl => bX4_readAll_0 C hI hB.1.2.1 hB.1.2.2 hB.2 h hl hB.1.1 va_S.rf)
def X4_total (li : Tli)  : Int32 := li.2.2.2.2.2.1
set_option maxRecDepth 20000 in
theorem bX4_total_0 (C : Cx p s m args meth c cX4_total 1 (some .int) RX4 (.code yX4_total cX4_total 1 (some .int))) (hK : va_K D vwCl (tysX cy) s) (hN : NW s)  {q : Int32}   (h : X4_total li = q) {ls : Array Slot} (hl : lv_has ls 1 [(0, .ref (ad 48))]) (hP : va_P D vwCl (GX cy ad tk sp nm tp kp cu se ur ab lo im sy un en ra li i2) s.heap) : W p l e ({ frames := 0, cells := 0, slots := 0, locals := 0 } : Room) s m args below meth c s.heap [] 0 0 (MQ below (QP (some (.int q))) args s 0 0 (fun _ => False)) (F0 m 0 ls []) := by
  obtain ⟨hx, hb, hml, hown, hts, hr, hlk⟩ := id C
  unfold X4_total at h
  refine lv_aload_n hx hb dX4_total_0 rfl (lv_at hl 0 rfl) ?_
  refine gX48_5 (v := li.2.2.2.2.2.1) C hK hP rfl w395 dX4_total_1 ?_
  obtain rfl := h
  exact W.iret hx hb hr (fun t ht _ => ⟨rfl, ht⟩) (fun _ h9 => by cases h9) dX4_total_4 hlk
theorem kX4_total   {q : Int32} (h : X4_total li = q) : Met l yX4_total (.code yX4_total cX4_total 1 (some .int) :: WA) ({ frames := 0, cells := 0, slots := 0, locals := 0 } : Room) (va_Pc [.ref (ad 48)] (PR D cy (GX cy ad tk sp nm tp kp cu se ur ab lo im sy un en ra li i2))) (QP (some (.int q))) 0 0 (fun _ => False) :=
  met_of (by decide) (Nat.le_of_ble_eq_true rfl) (fun p e s m below meth c ls C hP hK hN hl => bX4_total_0 C hK hN h hl hP)
def X4_has (li : Tli) (v1 : Int32) : Int32 := (if v1 < 0 then (0 : Int32) else (if v1 < li.2.2.2.2.2.1 then (1 : Int32) else (0 : Int32)))
set_option maxRecDepth 20000 in
theorem bX4_has_0 (C : Cx p s m args meth c cX4_has 2 (some .boolean) RX4 (.code yX4_has cX4_has 2 (some .boolean))) (hK : va_K D vwCl (tysX cy) s) (hN : NW s)  {q : Int32}  {v1 : Int32} (h : X4_has li v1 = q) {ls : Array Slot} (hl : lv_has ls 2 [(0, .ref (ad 48)), (1, .int v1)]) (hP : va_P D vwCl (GX cy ad tk sp nm tp kp cu se ur ab lo im sy un en ra li i2) s.heap) : W p l e ({ frames := 0, cells := 0, slots := 0, locals := 0 } : Room) s m args below meth c s.heap [] 0 0 (MQ below (QP (some (.int q))) args s 0 0 (fun _ => False)) (F0 m 0 ls []) := by
  obtain ⟨hx, hb, hml, hown, hts, hr, hlk⟩ := id C
  unfold X4_has at h
  refine lv_iload_n hx hb dX4_has_0 rfl (lv_at hl 1 rfl) ?_
  refine lv_if_lt (tgt := 16) hx hb dX4_has_1 (by decide) (fun c1 => ?_) (fun c1 => ?_)
  · rw [if_pos c1] at h
    refine lv_iconst (v := (0 : Int32)) hx hb dX4_has_16 (by decide) ?_
    obtain rfl := h
    exact W.zret (ty := .boolean) hx hb hr (by decide) (fun t ht _ => ⟨rfl, ht⟩) (fun _ h9 => by cases h9) dX4_has_17 hlk
  · rw [if_neg c1] at h
    refine lv_iload_n hx hb dX4_has_4 rfl (lv_at hl 1 rfl) ?_
    refine lv_aload_n hx hb dX4_has_5 rfl (lv_at hl 0 rfl) ?_
    refine gX48_5 (v := li.2.2.2.2.2.1) C hK hP rfl w395 dX4_has_6 ?_
    refine b_icmp_ge (tgt := 16) hx hb dX4_has_9 (by decide) (fun c2 => ?_) (fun c2 => ?_)
    · rw [if_neg c2] at h
      refine lv_iconst (v := (0 : Int32)) hx hb dX4_has_16 (by decide) ?_
      obtain rfl := h
      exact W.zret (ty := .boolean) hx hb hr (by decide) (fun t ht _ => ⟨rfl, ht⟩) (fun _ h9 => by cases h9) dX4_has_17 hlk
    · rw [if_pos c2] at h
      refine lv_iconst (v := (1 : Int32)) hx hb dX4_has_12 (by decide) ?_
      refine lv_goto (tgt := 17) hx hb dX4_has_13 (by decide) ?_
      obtain rfl := h
      exact W.zret (ty := .boolean) hx hb hr (by decide) (fun t ht _ => ⟨rfl, ht⟩) (fun _ h9 => by cases h9) dX4_has_17 hlk
theorem kX4_has  {v1 : Int32} {q : Int32} (h : X4_has li v1 = q) : Met l yX4_has (.code yX4_has cX4_has 2 (some .boolean) :: WA) ({ frames := 0, cells := 0, slots := 0, locals := 0 } : Room) (va_Pc [.ref (ad 48), .int v1] (PR D cy (GX cy ad tk sp nm tp kp cu se ur ab lo im sy un en ra li i2))) (QP (some (.int q))) 0 0 (fun _ => False) :=
  met_of (by decide) (Nat.le_of_ble_eq_true rfl) (fun p e s m below meth c ls C hP hK hN hl => bX4_has_0 C hK hN h hl hP)
def X4_unitOf (li : Tli) (v1 : Int32) : Int32 := (at_i 600 li.1 v1)
set_option maxRecDepth 20000 in
theorem bX4_unitOf_0 (C : Cx p s m args meth c cX4_unitOf 2 (some .int) RX4 (.code yX4_unitOf cX4_unitOf 2 (some .int))) (hK : va_K D vwCl (tysX cy) s) (hN : NW s)  {q : Int32}  {v1 : Int32} (h : X4_unitOf li v1 = q) {ls : Array Slot} (hl : lv_has ls 2 [(0, .ref (ad 48)), (1, .int v1)]) (hP : va_P D vwCl (GX cy ad tk sp nm tp kp cu se ur ab lo im sy un en ra li i2) s.heap) : W p l e ({ frames := 1, cells := 0, slots := 0, locals := 21 } : Room) s m args below meth c s.heap [] 0 0 (MQ below (QP (some (.int q))) args s 0 0 (fun _ => False)) (F0 m 0 ls []) := by
  obtain ⟨hx, hb, hml, hown, hts, hr, hlk⟩ := id C
  unfold X4_unitOf at h
  refine lv_aload_n hx hb dX4_unitOf_0 rfl (lv_at hl 0 rfl) ?_
  refine gX48_0 C hK hP w390 dX4_unitOf_1 ?_
  refine lv_iload_n hx hb dX4_unitOf_4 rfl (lv_at hl 1 rfl) ?_
  refine xat_i (rest := []) C hK hN hP eX49 (Nat.le_of_ble_eq_true rfl) w1020 hl.1 (Nat.le_of_ble_eq_true rfl) dX4_unitOf_5 ⟨Nat.le_of_ble_eq_true rfl, Nat.le_of_ble_eq_true rfl⟩ ⟨Nat.zero_le _, Nat.zero_le _⟩ ?_
  obtain rfl := h
  exact W.iret hx hb hr (fun t ht _ => ⟨rfl, ht⟩) (fun _ h9 => by cases h9) dX4_unitOf_8 hlk
theorem kX4_unitOf  {v1 : Int32} {q : Int32} (h : X4_unitOf li v1 = q) : Met l yX4_unitOf (.code yX4_unitOf cX4_unitOf 2 (some .int) :: WA) ({ frames := 1, cells := 0, slots := 0, locals := 21 } : Room) (va_Pc [.ref (ad 48), .int v1] (PR D cy (GX cy ad tk sp nm tp kp cu se ur ab lo im sy un en ra li i2))) (QP (some (.int q))) 0 0 (fun _ => False) :=
  met_of (by decide) (Nat.le_of_ble_eq_true rfl) (fun p e s m below meth c ls C hP hK hN hl => bX4_unitOf_0 C hK hN h hl hP)
def X4_fileOf (li : Tli) (v1 : Int32) : Int32 := (at_i 600 li.2.1 v1)
set_option maxRecDepth 20000 in
theorem bX4_fileOf_0 (C : Cx p s m args meth c cX4_fileOf 2 (some .int) RX4 (.code yX4_fileOf cX4_fileOf 2 (some .int))) (hK : va_K D vwCl (tysX cy) s) (hN : NW s)  {q : Int32}  {v1 : Int32} (h : X4_fileOf li v1 = q) {ls : Array Slot} (hl : lv_has ls 2 [(0, .ref (ad 48)), (1, .int v1)]) (hP : va_P D vwCl (GX cy ad tk sp nm tp kp cu se ur ab lo im sy un en ra li i2) s.heap) : W p l e ({ frames := 1, cells := 0, slots := 0, locals := 21 } : Room) s m args below meth c s.heap [] 0 0 (MQ below (QP (some (.int q))) args s 0 0 (fun _ => False)) (F0 m 0 ls []) := by
  obtain ⟨hx, hb, hml, hown, hts, hr, hlk⟩ := id C
  unfold X4_fileOf at h
  refine lv_aload_n hx hb dX4_fileOf_0 rfl (lv_at hl 0 rfl) ?_
  refine gX48_1 C hK hP w391 dX4_fileOf_1 ?_
  refine lv_iload_n hx hb dX4_fileOf_4 rfl (lv_at hl 1 rfl) ?_
  refine xat_i (rest := []) C hK hN hP eX50 (Nat.le_of_ble_eq_true rfl) w1020 hl.1 (Nat.le_of_ble_eq_true rfl) dX4_fileOf_5 ⟨Nat.le_of_ble_eq_true rfl, Nat.le_of_ble_eq_true rfl⟩ ⟨Nat.zero_le _, Nat.zero_le _⟩ ?_
  obtain rfl := h
  exact W.iret hx hb hr (fun t ht _ => ⟨rfl, ht⟩) (fun _ h9 => by cases h9) dX4_fileOf_8 hlk
theorem kX4_fileOf  {v1 : Int32} {q : Int32} (h : X4_fileOf li v1 = q) : Met l yX4_fileOf (.code yX4_fileOf cX4_fileOf 2 (some .int) :: WA) ({ frames := 1, cells := 0, slots := 0, locals := 21 } : Room) (va_Pc [.ref (ad 48), .int v1] (PR D cy (GX cy ad tk sp nm tp kp cu se ur ab lo im sy un en ra li i2))) (QP (some (.int q))) 0 0 (fun _ => False) :=
  met_of (by decide) (Nat.le_of_ble_eq_true rfl) (fun p e s m below meth c ls C hP hK hN hl => bX4_fileOf_0 C hK hN h hl hP)
def X4_lineOf (li : Tli) (v1 : Int32) : Int32 := (at_i 600 li.2.2.1 v1)
set_option maxRecDepth 20000 in
theorem bX4_lineOf_0 (C : Cx p s m args meth c cX4_lineOf 2 (some .int) RX4 (.code yX4_lineOf cX4_lineOf 2 (some .int))) (hK : va_K D vwCl (tysX cy) s) (hN : NW s)  {q : Int32}  {v1 : Int32} (h : X4_lineOf li v1 = q) {ls : Array Slot} (hl : lv_has ls 2 [(0, .ref (ad 48)), (1, .int v1)]) (hP : va_P D vwCl (GX cy ad tk sp nm tp kp cu se ur ab lo im sy un en ra li i2) s.heap) : W p l e ({ frames := 1, cells := 0, slots := 0, locals := 21 } : Room) s m args below meth c s.heap [] 0 0 (MQ below (QP (some (.int q))) args s 0 0 (fun _ => False)) (F0 m 0 ls []) := by
  obtain ⟨hx, hb, hml, hown, hts, hr, hlk⟩ := id C
  unfold X4_lineOf at h
  refine lv_aload_n hx hb dX4_lineOf_0 rfl (lv_at hl 0 rfl) ?_
  refine gX48_2 C hK hP w392 dX4_lineOf_1 ?_
  refine lv_iload_n hx hb dX4_lineOf_4 rfl (lv_at hl 1 rfl) ?_
  refine xat_i (rest := []) C hK hN hP eX51 (Nat.le_of_ble_eq_true rfl) w1020 hl.1 (Nat.le_of_ble_eq_true rfl) dX4_lineOf_5 ⟨Nat.le_of_ble_eq_true rfl, Nat.le_of_ble_eq_true rfl⟩ ⟨Nat.zero_le _, Nat.zero_le _⟩ ?_
  obtain rfl := h
  exact W.iret hx hb hr (fun t ht _ => ⟨rfl, ht⟩) (fun _ h9 => by cases h9) dX4_lineOf_8 hlk
theorem kX4_lineOf  {v1 : Int32} {q : Int32} (h : X4_lineOf li v1 = q) : Met l yX4_lineOf (.code yX4_lineOf cX4_lineOf 2 (some .int) :: WA) ({ frames := 1, cells := 0, slots := 0, locals := 21 } : Room) (va_Pc [.ref (ad 48), .int v1] (PR D cy (GX cy ad tk sp nm tp kp cu se ur ab lo im sy un en ra li i2))) (QP (some (.int q))) 0 0 (fun _ => False) :=
  met_of (by decide) (Nat.le_of_ble_eq_true rfl) (fun p e s m below meth c ls C hP hK hN hl => bX4_lineOf_0 C hK hN h hl hP)
def X4_endsAt (li : Tli) (v1 : Int32) : Int32 := (if (at_i 600 li.2.2.2.1 v1) = (1 : Int32) then (1 : Int32) else (0 : Int32))
set_option maxRecDepth 20000 in
theorem bX4_endsAt_0 (C : Cx p s m args meth c cX4_endsAt 2 (some .boolean) RX4 (.code yX4_endsAt cX4_endsAt 2 (some .boolean))) (hK : va_K D vwCl (tysX cy) s) (hN : NW s)  {q : Int32}  {v1 : Int32} (h : X4_endsAt li v1 = q) {ls : Array Slot} (hl : lv_has ls 2 [(0, .ref (ad 48)), (1, .int v1)]) (hP : va_P D vwCl (GX cy ad tk sp nm tp kp cu se ur ab lo im sy un en ra li i2) s.heap) : W p l e ({ frames := 1, cells := 0, slots := 0, locals := 21 } : Room) s m args below meth c s.heap [] 0 0 (MQ below (QP (some (.int q))) args s 0 0 (fun _ => False)) (F0 m 0 ls []) := by
  obtain ⟨hx, hb, hml, hown, hts, hr, hlk⟩ := id C
  unfold X4_endsAt at h
  refine lv_aload_n hx hb dX4_endsAt_0 rfl (lv_at hl 0 rfl) ?_
  refine gX48_3 C hK hP w393 dX4_endsAt_1 ?_
  refine lv_iload_n hx hb dX4_endsAt_4 rfl (lv_at hl 1 rfl) ?_
  refine xat_i (rest := []) C hK hN hP eX52 (Nat.le_of_ble_eq_true rfl) w1020 hl.1 (Nat.le_of_ble_eq_true rfl) dX4_endsAt_5 ⟨Nat.le_of_ble_eq_true rfl, Nat.le_of_ble_eq_true rfl⟩ ⟨Nat.zero_le _, Nat.zero_le _⟩ ?_
  refine lv_iconst (v := (1 : Int32)) hx hb dX4_endsAt_8 (by decide) ?_
  refine lv_icmp_ne (tgt := 16) hx hb dX4_endsAt_9 (by decide) (fun c1 => ?_) (fun c1 => ?_)
  · rw [if_neg c1] at h
    refine lv_iconst (v := (0 : Int32)) hx hb dX4_endsAt_16 (by decide) ?_
    obtain rfl := h
    exact W.zret (ty := .boolean) hx hb hr (by decide) (fun t ht _ => ⟨rfl, ht⟩) (fun _ h9 => by cases h9) dX4_endsAt_17 hlk
  · rw [if_pos c1] at h
    refine lv_iconst (v := (1 : Int32)) hx hb dX4_endsAt_12 (by decide) ?_
    refine lv_goto (tgt := 17) hx hb dX4_endsAt_13 (by decide) ?_
    obtain rfl := h
    exact W.zret (ty := .boolean) hx hb hr (by decide) (fun t ht _ => ⟨rfl, ht⟩) (fun _ h9 => by cases h9) dX4_endsAt_17 hlk
theorem kX4_endsAt  {v1 : Int32} {q : Int32} (h : X4_endsAt li v1 = q) : Met l yX4_endsAt (.code yX4_endsAt cX4_endsAt 2 (some .boolean) :: WA) ({ frames := 1, cells := 0, slots := 0, locals := 21 } : Room) (va_Pc [.ref (ad 48), .int v1] (PR D cy (GX cy ad tk sp nm tp kp cu se ur ab lo im sy un en ra li i2))) (QP (some (.int q))) 0 0 (fun _ => False) :=
  met_of (by decide) (Nat.le_of_ble_eq_true rfl) (fun p e s m below meth c ls C hP hK hN hl => bX4_endsAt_0 C hK hN h hl hP)
def X4_addressOf (li : Tli) (v1 : Int32) : Int64 := (at_l 600 li.2.2.2.2.1 v1)
set_option maxRecDepth 20000 in
theorem bX4_addressOf_0 (C : Cx p s m args meth c cX4_addressOf 2 (some .long) RX4 (.code yX4_addressOf cX4_addressOf 2 (some .long))) (hK : va_K D vwCl (tysX cy) s) (hN : NW s)  {q : Int64}  {v1 : Int32} (h : X4_addressOf li v1 = q) {ls : Array Slot} (hl : lv_has ls 2 [(0, .ref (ad 48)), (1, .int v1)]) (hP : va_P D vwCl (GX cy ad tk sp nm tp kp cu se ur ab lo im sy un en ra li i2) s.heap) : W p l e ({ frames := 1, cells := 0, slots := 0, locals := 21 } : Room) s m args below meth c s.heap [] 0 0 (MQ below (QP (some (.long q))) args s 0 0 (fun _ => False)) (F0 m 0 ls []) := by
  obtain ⟨hx, hb, hml, hown, hts, hr, hlk⟩ := id C
  unfold X4_addressOf at h
  refine lv_aload_n hx hb dX4_addressOf_0 rfl (lv_at hl 0 rfl) ?_
  refine gX48_4 C hK hP w394 dX4_addressOf_1 ?_
  refine lv_iload_n hx hb dX4_addressOf_4 rfl (lv_at hl 1 rfl) ?_
  refine xat_l (rest := []) C hK hN hP eX53 (Nat.le_of_ble_eq_true rfl) w1093 hl.1 (Nat.le_of_ble_eq_true rfl) dX4_addressOf_5 ⟨Nat.le_of_ble_eq_true rfl, Nat.le_of_ble_eq_true rfl⟩ ⟨Nat.zero_le _, Nat.zero_le _⟩ ?_
  obtain rfl := h
  exact W.lret hx hb hr (fun t ht _ => ⟨rfl, ht⟩) (fun _ h9 => by cases h9) dX4_addressOf_8 hlk
theorem kX4_addressOf  {v1 : Int32} {q : Int64} (h : X4_addressOf li v1 = q) : Met l yX4_addressOf (.code yX4_addressOf cX4_addressOf 2 (some .long) :: WA) ({ frames := 1, cells := 0, slots := 0, locals := 21 } : Room) (va_Pc [.ref (ad 48), .int v1] (PR D cy (GX cy ad tk sp nm tp kp cu se ur ab lo im sy un en ra li i2))) (QP (some (.long q))) 0 0 (fun _ => False) :=
  met_of (by decide) (Nat.le_of_ble_eq_true rfl) (fun p e s m below meth c ls C hP hK hN hl => bX4_addressOf_0 C hK hN h hl hP)
def X4_governing_80 (li : Tli) (k3 : Int32 → Int64 → Int32 → Option (Int32))  (v1 : Int32) (v2 : Int64) (v4 : Int32) : Option (Int32) := k3 v1 v2 (v4 + (1 : Int32))
set_option maxRecDepth 20000 in
theorem bX4_governing_80 (C : Cx p s m args meth c cX4_governing 6 (some .int) RX4 (.code yX4_governing cX4_governing 6 (some .int))) (hK : va_K D vwCl (tysX cy) s) (hN : NW s) {k3 : Int32 → Int64 → Int32 → Option (Int32)} {q : Int32} (hk3 : ∀  {v1 : Int32} {v2 : Int64} {v4 : Int32}, k3 v1 v2 v4 = some q → ∀ {ls : Array Slot}, lv_has ls 6 [(0, .ref (ad 48)), (1, .int v1), (2, .long v2), (4, .int v4)] → va_P D vwCl (GX cy ad tk sp nm tp kp cu se ur ab lo im sy un en ra li i2) s.heap → W p l e ({ frames := 2, cells := 0, slots := 0, locals := 42 } : Room) s m args below meth c s.heap [] 0 0 (MQ below (QP (some (.int q))) args s 0 0 (fun _ => False)) (F0 m 3 ls [])) {v1 : Int32} {v2 : Int64} {v4 : Int32} (h : X4_governing_80 li k3 v1 v2 v4 = some q) {ls : Array Slot} (hl : lv_has ls 6 [(0, .ref (ad 48)), (1, .int v1), (2, .long v2), (4, .int v4)]) (hP : va_P D vwCl (GX cy ad tk sp nm tp kp cu se ur ab lo im sy un en ra li i2) s.heap) : W p l e ({ frames := 2, cells := 0, slots := 0, locals := 42 } : Room) s m args below meth c s.heap [] 0 0 (MQ below (QP (some (.int q))) args s 0 0 (fun _ => False)) (F0 m 80 ls []) := by
  obtain ⟨hx, hb, hml, hown, hts, hr, hlk⟩ := id C
  unfold X4_governing_80 at h
  refine lv_iinc (v := (v4 + (1 : Int32))) (lv' := [(4, .int (v4 + (1 : Int32))), (0, .ref (ad 48)), (1, .int v1), (2, .long v2)]) hx hb dX4_governing_80 hl (k := 3) rfl rfl (by decide) rfl (fun ls hl => ?_)
  refine lv_goto (tgt := 3) hx hb dX4_governing_83 (by decide) ?_
  exact hk3 h (lv_sub hl [1, 2, 3, 0] rfl) hP
def X4_governing_46 (li : Tli) (k3 : Int32 → Int64 → Int32 → Option (Int32))  (v1 : Int32) (v2 : Int64) (v4 : Int32) (z0 : Int32) : Option (Int32) := (if z0 = 0 then X4_governing_80 li k3 v1 v2 v4 else (if v2 < (X4_addressOf li v4) then X4_governing_80 li k3 v1 v2 v4 else (if v2 < (X4_addressOf li (v4 + (1 : Int32))) then some v4 else X4_governing_80 li k3 v1 v2 v4)))
set_option maxRecDepth 20000 in
theorem bX4_governing_46 (C : Cx p s m args meth c cX4_governing 6 (some .int) RX4 (.code yX4_governing cX4_governing 6 (some .int))) (hK : va_K D vwCl (tysX cy) s) (hN : NW s) {k3 : Int32 → Int64 → Int32 → Option (Int32)} {q : Int32} (hk3 : ∀  {v1 : Int32} {v2 : Int64} {v4 : Int32}, k3 v1 v2 v4 = some q → ∀ {ls : Array Slot}, lv_has ls 6 [(0, .ref (ad 48)), (1, .int v1), (2, .long v2), (4, .int v4)] → va_P D vwCl (GX cy ad tk sp nm tp kp cu se ur ab lo im sy un en ra li i2) s.heap → W p l e ({ frames := 2, cells := 0, slots := 0, locals := 42 } : Room) s m args below meth c s.heap [] 0 0 (MQ below (QP (some (.int q))) args s 0 0 (fun _ => False)) (F0 m 3 ls [])) {v1 : Int32} {v2 : Int64} {v4 : Int32} {z0 : Int32} (h : X4_governing_46 li k3 v1 v2 v4 z0 = some q) {ls : Array Slot} (hl : lv_has ls 6 [(0, .ref (ad 48)), (1, .int v1), (2, .long v2), (4, .int v4)]) (hP : va_P D vwCl (GX cy ad tk sp nm tp kp cu se ur ab lo im sy un en ra li i2) s.heap) : W p l e ({ frames := 2, cells := 0, slots := 0, locals := 42 } : Room) s m args below meth c s.heap [] 0 0 (MQ below (QP (some (.int q))) args s 0 0 (fun _ => False)) (F0 m 46 ls [.int z0]) := by
  obtain ⟨hx, hb, hml, hown, hts, hr, hlk⟩ := id C
  unfold X4_governing_46 at h
  refine lv_istore (lv' := [(5, .int z0), (0, .ref (ad 48)), (1, .int v1), (2, .long v2), (4, .int v4)]) hx hb dX4_governing_46 hl (by decide) rfl (fun ls hl => ?_)
  refine lv_iload hx hb dX4_governing_48 (lv_at hl 0 rfl) ?_
  refine lv_if_eq (tgt := 80) hx hb dX4_governing_50 (by decide) (fun c1 => ?_) (fun c1 => ?_)
  · rw [if_pos c1] at h
    exact bX4_governing_80 C hK hN @hk3 h (lv_sub hl [1, 2, 3, 4] rfl) hP
  · rw [if_neg c1] at h
    refine lv_lload_n hx hb dX4_governing_53 rfl (lv_at hl 3 rfl) ?_
    refine lv_aload_n hx hb dX4_governing_54 rfl (lv_at hl 1 rfl) ?_
    refine lv_iload hx hb dX4_governing_55 (lv_at hl 4 rfl) ?_
    refine cPl (run_V (rest := [.long v2]) C (kX4_addressOf rfl) caX4_addressOf w1259 ⟨rfl, rfl, Nat.le_of_ble_eq_true rfl, Nat.le_of_ble_eq_true rfl⟩ hK hN hP (rX48 hK hP) rfl hl.1 rfl (Nat.le_of_ble_eq_true rfl) dX4_governing_57 ⟨Nat.zero_le _, Nat.zero_le _⟩) ?_
    refine lc_lt (tgt := 80) hx hb dX4_governing_60 dX4_governing_61 (by decide) (fun c2 => ?_) (fun c2 => ?_)
    · rw [if_pos c2] at h
      exact bX4_governing_80 C hK hN @hk3 h (lv_sub hl [1, 2, 3, 4] rfl) hP
    · rw [if_neg c2] at h
      refine lv_lload_n hx hb dX4_governing_64 rfl (lv_at hl 3 rfl) ?_
      refine lv_aload_n hx hb dX4_governing_65 rfl (lv_at hl 1 rfl) ?_
      refine lv_iload hx hb dX4_governing_66 (lv_at hl 4 rfl) ?_
      refine lv_iconst (v := (1 : Int32)) hx hb dX4_governing_68 (by decide) ?_
      refine lv_iadd hx hb dX4_governing_69 ?_
      refine cPl (run_V (rest := [.long v2]) C (kX4_addressOf rfl) caX4_addressOf w1259 ⟨rfl, rfl, Nat.le_of_ble_eq_true rfl, Nat.le_of_ble_eq_true rfl⟩ hK hN hP (rX48 hK hP) rfl hl.1 rfl (Nat.le_of_ble_eq_true rfl) dX4_governing_70 ⟨Nat.zero_le _, Nat.zero_le _⟩) ?_
      refine lc_ge (tgt := 80) hx hb dX4_governing_73 dX4_governing_74 (by decide) (fun c3 => ?_) (fun c3 => ?_)
      · rw [if_neg c3] at h
        exact bX4_governing_80 C hK hN @hk3 h (lv_sub hl [1, 2, 3, 4] rfl) hP
      · rw [if_pos c3] at h
        refine lv_iload hx hb dX4_governing_77 (lv_at hl 4 rfl) ?_
        obtain rfl := Option.some.inj h
        exact W.iret hx hb hr (fun t ht _ => ⟨rfl, ht⟩) (fun _ h9 => by cases h9) dX4_governing_79 hlk
def X4_governing_45 (li : Tli) (k3 : Int32 → Int64 → Int32 → Option (Int32))  (v1 : Int32) (v2 : Int64) (v4 : Int32) : Option (Int32) := X4_governing_46 li k3 v1 v2 v4 (0 : Int32)
set_option maxRecDepth 20000 in
theorem bX4_governing_45 (C : Cx p s m args meth c cX4_governing 6 (some .int) RX4 (.code yX4_governing cX4_governing 6 (some .int))) (hK : va_K D vwCl (tysX cy) s) (hN : NW s) {k3 : Int32 → Int64 → Int32 → Option (Int32)} {q : Int32} (hk3 : ∀  {v1 : Int32} {v2 : Int64} {v4 : Int32}, k3 v1 v2 v4 = some q → ∀ {ls : Array Slot}, lv_has ls 6 [(0, .ref (ad 48)), (1, .int v1), (2, .long v2), (4, .int v4)] → va_P D vwCl (GX cy ad tk sp nm tp kp cu se ur ab lo im sy un en ra li i2) s.heap → W p l e ({ frames := 2, cells := 0, slots := 0, locals := 42 } : Room) s m args below meth c s.heap [] 0 0 (MQ below (QP (some (.int q))) args s 0 0 (fun _ => False)) (F0 m 3 ls [])) {v1 : Int32} {v2 : Int64} {v4 : Int32} (h : X4_governing_45 li k3 v1 v2 v4 = some q) {ls : Array Slot} (hl : lv_has ls 6 [(0, .ref (ad 48)), (1, .int v1), (2, .long v2), (4, .int v4)]) (hP : va_P D vwCl (GX cy ad tk sp nm tp kp cu se ur ab lo im sy un en ra li i2) s.heap) : W p l e ({ frames := 2, cells := 0, slots := 0, locals := 42 } : Room) s m args below meth c s.heap [] 0 0 (MQ below (QP (some (.int q))) args s 0 0 (fun _ => False)) (F0 m 45 ls []) := by
  obtain ⟨hx, hb, hml, hown, hts, hr, hlk⟩ := id C
  unfold X4_governing_45 at h
  refine lv_iconst (v := (0 : Int32)) hx hb dX4_governing_45 (by decide) ?_
  exact bX4_governing_46 C hK hN @hk3 h (lv_sub hl [0, 1, 2, 3] rfl) hP
def X4_governing_3b (li : Tli)  (k3 : Int32 → Int64 → Int32 → Option (Int32))  (v1 : Int32) (v2 : Int64) (v4 : Int32) : Option (Int32) := (if v4 < (599 : Int32) then (if v4 < (li.2.2.2.2.2.1 - (1 : Int32)) then (if (X4_unitOf li v4) = v1 then (if (X4_endsAt li v4) = 0 then X4_governing_46 li k3 v1 v2 v4 (1 : Int32) else X4_governing_45 li k3 v1 v2 v4) else X4_governing_45 li k3 v1 v2 v4) else some (-1 : Int32)) else some (-1 : Int32))
def X4_governing_3 (li : Tli)  (n : Nat) (st : Int32 × Int64 × Int32) : Option (Int32) := lp (fun rec st => X4_governing_3b li  (fun a0 a1 a2 => rec (a0, a1, a2)) st.1 st.2.1 st.2.2) n st
set_option maxRecDepth 20000 in
theorem bX4_governing_3 (C : Cx p s m args meth c cX4_governing 6 (some .int) RX4 (.code yX4_governing cX4_governing 6 (some .int))) (hK : va_K D vwCl (tysX cy) s) (hN : NW s)  {q : Int32}  : ∀ (n : Nat)  {v1 : Int32} {v2 : Int64} {v4 : Int32}, X4_governing_3 li  n (v1, v2, v4) = some q → ∀ {ls : Array Slot}, lv_has ls 6 [(0, .ref (ad 48)), (1, .int v1), (2, .long v2), (4, .int v4)] → va_P D vwCl (GX cy ad tk sp nm tp kp cu se ur ab lo im sy un en ra li i2) s.heap → W p l e ({ frames := 2, cells := 0, slots := 0, locals := 42 } : Room) s m args below meth c s.heap [] 0 0 (MQ below (QP (some (.int q))) args s 0 0 (fun _ => False)) (F0 m 3 ls []) := by
  obtain ⟨hx, hb, hml, hown, hts, hr, hlk⟩ := id C
  intro n
  induction n with
  | zero =>
    intro v1 v2 v4 h ls hl hP
    have h : (none : Option (Int32)) = some q := h
    cases h
  | succ n ih =>
    intro v1 v2 v4 h ls hl hP
    have h : X4_governing_3b li  (fun a0 a1 a2 => X4_governing_3 li  n (a0, a1, a2)) v1 v2 v4 = some q := h
    unfold X4_governing_3b at h
    refine lv_iload hx hb dX4_governing_3 (lv_at hl 3 rfl) ?_
    refine lv_sipush (v := (599 : Int32)) hx hb dX4_governing_5 (by decide) ?_
    refine b_icmp_ge (tgt := 86) hx hb dX4_governing_8 (by decide) (fun c1 => ?_) (fun c1 => ?_)
    · rw [if_neg c1] at h
      refine lv_iconst (v := (-1 : Int32)) hx hb dX4_governing_86 (by decide) ?_
      obtain rfl := Option.some.inj h
      exact W.iret hx hb hr (fun t ht _ => ⟨rfl, ht⟩) (fun _ h9 => by cases h9) dX4_governing_87 hlk
    · rw [if_pos c1] at h
      refine lv_iload hx hb dX4_governing_11 (lv_at hl 3 rfl) ?_
      refine lv_aload_n hx hb dX4_governing_13 rfl (lv_at hl 0 rfl) ?_
      refine gX48_5 (v := li.2.2.2.2.2.1) C hK hP rfl w395 dX4_governing_14 ?_
      refine lv_iconst (v := (1 : Int32)) hx hb dX4_governing_17 (by decide) ?_
      refine lv_isub hx hb dX4_governing_18 ?_
      refine b_icmp_ge (tgt := 86) hx hb dX4_governing_19 (by decide) (fun c2 => ?_) (fun c2 => ?_)
      · rw [if_neg c2] at h
        refine lv_iconst (v := (-1 : Int32)) hx hb dX4_governing_86 (by decide) ?_
        obtain rfl := Option.some.inj h
        exact W.iret hx hb hr (fun t ht _ => ⟨rfl, ht⟩) (fun _ h9 => by cases h9) dX4_governing_87 hlk
      · rw [if_pos c2] at h
        refine lv_aload_n hx hb dX4_governing_22 rfl (lv_at hl 0 rfl) ?_
        refine lv_iload hx hb dX4_governing_23 (lv_at hl 3 rfl) ?_
        refine cPi (run_V (rest := []) C (kX4_unitOf rfl) caX4_unitOf w1257 ⟨rfl, rfl, Nat.le_of_ble_eq_true rfl, Nat.le_of_ble_eq_true rfl⟩ hK hN hP (rX48 hK hP) rfl hl.1 rfl (Nat.le_of_ble_eq_true rfl) dX4_governing_25 ⟨Nat.zero_le _, Nat.zero_le _⟩) ?_
        refine lv_iload_n hx hb dX4_governing_28 rfl (lv_at hl 1 rfl) ?_
        refine lv_icmp_ne (tgt := 45) hx hb dX4_governing_29 (by decide) (fun c3 => ?_) (fun c3 => ?_)
        · rw [if_neg c3] at h
          exact bX4_governing_45 C hK hN @ih h (lv_sub hl [0, 1, 2, 3] rfl) hP
        · rw [if_pos c3] at h
          refine lv_aload_n hx hb dX4_governing_32 rfl (lv_at hl 0 rfl) ?_
          refine lv_iload hx hb dX4_governing_33 (lv_at hl 3 rfl) ?_
          refine cPi (run_V (rest := []) C (kX4_endsAt rfl) caX4_endsAt w1258 ⟨rfl, rfl, Nat.le_of_ble_eq_true rfl, Nat.le_of_ble_eq_true rfl⟩ hK hN hP (rX48 hK hP) rfl hl.1 rfl (Nat.le_of_ble_eq_true rfl) dX4_governing_35 ⟨Nat.zero_le _, Nat.zero_le _⟩) ?_
          refine lv_if_ne (tgt := 45) hx hb dX4_governing_38 (by decide) (fun c4 => ?_) (fun c4 => ?_)
          · rw [if_neg c4] at h
            exact bX4_governing_45 C hK hN @ih h (lv_sub hl [0, 1, 2, 3] rfl) hP
          · rw [if_pos c4] at h
            refine lv_iconst (v := (1 : Int32)) hx hb dX4_governing_41 (by decide) ?_
            refine lv_goto (tgt := 46) hx hb dX4_governing_42 (by decide) ?_
            exact bX4_governing_46 C hK hN @ih h (lv_sub hl [0, 1, 2, 3] rfl) hP
def X4_governing (li : Tli) (v1 : Int32) (v2 : Int64) : Option (Int32) := X4_governing_3 li FU (v1, v2, (0 : Int32))
set_option maxRecDepth 20000 in
theorem bX4_governing_0 (C : Cx p s m args meth c cX4_governing 6 (some .int) RX4 (.code yX4_governing cX4_governing 6 (some .int))) (hK : va_K D vwCl (tysX cy) s) (hN : NW s)  {q : Int32}  {v1 : Int32} {v2 : Int64} (h : X4_governing li v1 v2 = some q) {ls : Array Slot} (hl : lv_has ls 6 [(0, .ref (ad 48)), (1, .int v1), (2, .long v2)]) (hP : va_P D vwCl (GX cy ad tk sp nm tp kp cu se ur ab lo im sy un en ra li i2) s.heap) : W p l e ({ frames := 2, cells := 0, slots := 0, locals := 42 } : Room) s m args below meth c s.heap [] 0 0 (MQ below (QP (some (.int q))) args s 0 0 (fun _ => False)) (F0 m 0 ls []) := by
  obtain ⟨hx, hb, hml, hown, hts, hr, hlk⟩ := id C
  unfold X4_governing at h
  refine lv_iconst (v := (0 : Int32)) hx hb dX4_governing_0 (by decide) ?_
  refine lv_istore (lv' := [(4, .int (0 : Int32)), (0, .ref (ad 48)), (1, .int v1), (2, .long v2)]) hx hb dX4_governing_1 hl (by decide) rfl (fun ls hl => ?_)
  exact bX4_governing_3 C hK hN FU h (lv_sub hl [1, 2, 3, 0] rfl) hP
theorem kX4_governing  {v1 : Int32} {v2 : Int64} {q : Int32} (h : X4_governing li v1 v2 = some q) : Met l yX4_governing (.code yX4_governing cX4_governing 6 (some .int) :: WA) ({ frames := 2, cells := 0, slots := 0, locals := 42 } : Room) (va_Pc [.ref (ad 48), .int v1, .long v2] (PR D cy (GX cy ad tk sp nm tp kp cu se ur ab lo im sy un en ra li i2))) (QP (some (.int q))) 0 0 (fun _ => False) :=
  met_of (by decide) (Nat.le_of_ble_eq_true rfl) (fun p e s m below meth c ls C hP hK hN hl => bX4_governing_0 C hK hN h hl hP)
def X5_forget (lo : Tlo)  : Tlo := (lo.1, (0 : Int32), (-1 : Int32), (-1 : Int32), lo.2.2.2.2)
set_option maxRecDepth 20000 in
theorem bX5_forget_0 (C : Cx p s m args meth c cX5_forget 1 none RX5 (.code yX5_forget cX5_forget 1 none)) (hI : Apart ad 89) (hK : va_K D vwCl (tysX cy) s) (hN : NW s)  {q : Tlo}   (h : X5_forget lo = q) {ls : Array Slot} (hl : lv_has ls 1 [(0, .ref (ad 19))]) {H : Heap} {locs : List Loc} (hP : va_P D vwCl (GX cy ad tk sp nm tp kp cu se ur ab lo im sy un en ra li i2) H) (hS : va_S (Ac ad 89) s.heap H locs) : W p l e ({ frames := 0, cells := 0, slots := 0, locals := 0 } : Room) s m args below meth c H locs 0 0 (MQ below (QR none D (GX cy ad tk sp nm tp kp cu se ur ab q im sy un en ra li i2) (Ac ad 89)) args s 0 0 (Ac ad 89)) (F0 m 0 ls []) := by
  obtain ⟨hx, hb, hml, hown, hts, hr, hlk⟩ := id C
  unfold X5_forget at h
  refine lv_aload_n hx hb dX5_forget_0 rfl (lv_at hl 0 rfl) ?_
  refine lv_iconst (v := (0 : Int32)) hx hb dX5_forget_1 (by decide) ?_
  refine pX19_1 (v := (0 : Int32)) C hI hK hP hS w251 dX5_forget_2 (fun H locs hP hS => ?_)
  have hP : va_P D vwCl (GX cy ad tk sp nm tp kp cu se ur ab (lo.1, (0 : Int32), lo.2.2.1, lo.2.2.2.1, lo.2.2.2.2) im sy un en ra li i2) H := hP
  refine lv_aload_n hx hb dX5_forget_5 rfl (lv_at hl 0 rfl) ?_
  refine lv_iconst (v := (-1 : Int32)) hx hb dX5_forget_6 (by decide) ?_
  refine pX19_2 (v := (-1 : Int32)) C hI hK hP hS w252 dX5_forget_7 (fun H locs hP hS => ?_)
  have hP : va_P D vwCl (GX cy ad tk sp nm tp kp cu se ur ab (lo.1, (0 : Int32), (-1 : Int32), lo.2.2.2.1, lo.2.2.2.2) im sy un en ra li i2) H := hP
  refine lv_aload_n hx hb dX5_forget_10 rfl (lv_at hl 0 rfl) ?_
  refine lv_iconst (v := (-1 : Int32)) hx hb dX5_forget_11 (by decide) ?_
  refine pX19_3 (v := (-1 : Int32)) C hI hK hP hS w253 dX5_forget_12 (fun H locs hP hS => ?_)
  have hP : va_P D vwCl (GX cy ad tk sp nm tp kp cu se ur ab (lo.1, (0 : Int32), (-1 : Int32), (-1 : Int32), lo.2.2.2.2) im sy un en ra li i2) H := hP
  obtain rfl := h
  exact W.vret hx hb hr (fun t ht _ => ⟨rfl, by rw [ht]; exact hP, hS.F ht⟩) hS.2.2 dX5_forget_15 hlk
theorem kX5_forget (hI : Apart ad 89)  {q : Tlo} (h : X5_forget lo = q) : Met l yX5_forget (.code yX5_forget cX5_forget 1 none :: WA) ({ frames := 0, cells := 0, slots := 0, locals := 0 } : Room) (va_Pc [.ref (ad 19)] (PR D cy (GX cy ad tk sp nm tp kp cu se ur ab lo im sy un en ra li i2))) (QR none D (GX cy ad tk sp nm tp kp cu se ur ab q im sy un en ra li i2) (Ac ad 89)) 0 0 (Ac ad 89) :=
  met_of (by decide) (Nat.le_of_ble_eq_true rfl) (fun p e s m below meth c ls C hP hK hN hl => bX5_forget_0 C hI hK hN h hl hP va_S.rf)
def X5_entryOf (lo : Tlo) (v1 : Int32) : Int32 := (if v1 < 0 then (-1 : Int32) else (if v1 < lo.2.1 then (at_i 24 lo.1 ((lo.2.1 - (1 : Int32)) - v1)) else (-1 : Int32)))
set_option maxRecDepth 20000 in
theorem bX5_entryOf_0 (C : Cx p s m args meth c cX5_entryOf 2 (some .int) RX5 (.code yX5_entryOf cX5_entryOf 2 (some .int))) (hK : va_K D vwCl (tysX cy) s) (hN : NW s)  {q : Int32}  {v1 : Int32} (h : X5_entryOf lo v1 = q) {ls : Array Slot} (hl : lv_has ls 2 [(0, .ref (ad 19)), (1, .int v1)]) (hP : va_P D vwCl (GX cy ad tk sp nm tp kp cu se ur ab lo im sy un en ra li i2) s.heap) : W p l e ({ frames := 1, cells := 0, slots := 0, locals := 21 } : Room) s m args below meth c s.heap [] 0 0 (MQ below (QP (some (.int q))) args s 0 0 (fun _ => False)) (F0 m 0 ls []) := by
  obtain ⟨hx, hb, hml, hown, hts, hr, hlk⟩ := id C
  unfold X5_entryOf at h
  refine lv_iload_n hx hb dX5_entryOf_0 rfl (lv_at hl 1 rfl) ?_
  refine lv_if_lt (tgt := 30) hx hb dX5_entryOf_1 (by decide) (fun c1 => ?_) (fun c1 => ?_)
  · rw [if_pos c1] at h
    refine lv_iconst (v := (-1 : Int32)) hx hb dX5_entryOf_30 (by decide) ?_
    obtain rfl := h
    exact W.iret hx hb hr (fun t ht _ => ⟨rfl, ht⟩) (fun _ h9 => by cases h9) dX5_entryOf_31 hlk
  · rw [if_neg c1] at h
    refine lv_iload_n hx hb dX5_entryOf_4 rfl (lv_at hl 1 rfl) ?_
    refine lv_aload_n hx hb dX5_entryOf_5 rfl (lv_at hl 0 rfl) ?_
    refine gX19_1 (v := lo.2.1) C hK hP rfl w251 dX5_entryOf_6 ?_
    refine b_icmp_ge (tgt := 30) hx hb dX5_entryOf_9 (by decide) (fun c2 => ?_) (fun c2 => ?_)
    · rw [if_neg c2] at h
      refine lv_iconst (v := (-1 : Int32)) hx hb dX5_entryOf_30 (by decide) ?_
      obtain rfl := h
      exact W.iret hx hb hr (fun t ht _ => ⟨rfl, ht⟩) (fun _ h9 => by cases h9) dX5_entryOf_31 hlk
    · rw [if_pos c2] at h
      refine lv_aload_n hx hb dX5_entryOf_12 rfl (lv_at hl 0 rfl) ?_
      refine gX19_0 C hK hP w250 dX5_entryOf_13 ?_
      refine lv_aload_n hx hb dX5_entryOf_16 rfl (lv_at hl 0 rfl) ?_
      refine gX19_1 (v := lo.2.1) C hK hP rfl w251 dX5_entryOf_17 ?_
      refine lv_iconst (v := (1 : Int32)) hx hb dX5_entryOf_20 (by decide) ?_
      refine lv_isub hx hb dX5_entryOf_21 ?_
      refine lv_iload_n hx hb dX5_entryOf_22 rfl (lv_at hl 1 rfl) ?_
      refine lv_isub hx hb dX5_entryOf_23 ?_
      refine xat_i (rest := []) C hK hN hP eX20 (Nat.le_of_ble_eq_true rfl) w1251 hl.1 (Nat.le_of_ble_eq_true rfl) dX5_entryOf_24 ⟨Nat.le_of_ble_eq_true rfl, Nat.le_of_ble_eq_true rfl⟩ ⟨Nat.zero_le _, Nat.zero_le _⟩ ?_
      refine lv_goto (tgt := 31) hx hb dX5_entryOf_27 (by decide) ?_
      obtain rfl := h
      exact W.iret hx hb hr (fun t ht _ => ⟨rfl, ht⟩) (fun _ h9 => by cases h9) dX5_entryOf_31 hlk
theorem kX5_entryOf  {v1 : Int32} {q : Int32} (h : X5_entryOf lo v1 = q) : Met l yX5_entryOf (.code yX5_entryOf cX5_entryOf 2 (some .int) :: WA) ({ frames := 1, cells := 0, slots := 0, locals := 21 } : Room) (va_Pc [.ref (ad 19), .int v1] (PR D cy (GX cy ad tk sp nm tp kp cu se ur ab lo im sy un en ra li i2))) (QP (some (.int q))) 0 0 (fun _ => False) :=
  met_of (by decide) (Nat.le_of_ble_eq_true rfl) (fun p e s m below meth c ls C hP hK hN hl => bX5_entryOf_0 C hK hN h hl hP)
def X8_holding_90 (sy : Tsy) (k5 : Int64 → Int32 → Int32 → Option (Int32))  (v1 : Int64) (v3 : Int32) (v4 : Int32) : Option (Int32) := k5 v1 v3 (v4 + (1 : Int32))
set_option maxRecDepth 20000 in
theorem bX8_holding_90 (C : Cx p s m args meth c cX8_holding 8 (some .int) RX8 (.code yX8_holding cX8_holding 8 (some .int))) (hK : va_K D vwCl (tysX cy) s) (hN : NW s) {k5 : Int64 → Int32 → Int32 → Option (Int32)} {q : Int32} (hk5 : ∀  {v1 : Int64} {v3 : Int32} {v4 : Int32}, k5 v1 v3 v4 = some q → ∀ {ls : Array Slot}, lv_has ls 8 [(0, .ref (ad 22)), (1, .long v1), (3, .int v3), (4, .int v4)] → va_P D vwCl (GX cy ad tk sp nm tp kp cu se ur ab lo im sy un en ra li i2) s.heap → W p l e ({ frames := 1, cells := 0, slots := 0, locals := 21 } : Room) s m args below meth c s.heap [] 0 0 (MQ below (QP (some (.int q))) args s 0 0 (fun _ => False)) (F0 m 5 ls [])) {v1 : Int64} {v3 : Int32} {v4 : Int32} (h : X8_holding_90 sy k5 v1 v3 v4 = some q) {ls : Array Slot} (hl : lv_has ls 8 [(0, .ref (ad 22)), (1, .long v1), (3, .int v3), (4, .int v4)]) (hP : va_P D vwCl (GX cy ad tk sp nm tp kp cu se ur ab lo im sy un en ra li i2) s.heap) : W p l e ({ frames := 1, cells := 0, slots := 0, locals := 21 } : Room) s m args below meth c s.heap [] 0 0 (MQ below (QP (some (.int q))) args s 0 0 (fun _ => False)) (F0 m 90 ls []) := by
  obtain ⟨hx, hb, hml, hown, hts, hr, hlk⟩ := id C
  unfold X8_holding_90 at h
  refine lv_iinc (v := (v4 + (1 : Int32))) (lv' := [(4, .int (v4 + (1 : Int32))), (0, .ref (ad 22)), (1, .long v1), (3, .int v3)]) hx hb dX8_holding_90 hl (k := 3) rfl rfl (by decide) rfl (fun ls hl => ?_)
  refine lv_goto (tgt := 5) hx hb dX8_holding_93 (by decide) ?_
  exact hk5 h (lv_sub hl [1, 2, 3, 0] rfl) hP
def X8_holding_87 (sy : Tsy) (k5 : Int64 → Int32 → Int32 → Option (Int32))  (v1 : Int64) (v4 : Int32) : Option (Int32) := X8_holding_90 sy k5 v1 v4 v4
set_option maxRecDepth 20000 in
theorem bX8_holding_87 (C : Cx p s m args meth c cX8_holding 8 (some .int) RX8 (.code yX8_holding cX8_holding 8 (some .int))) (hK : va_K D vwCl (tysX cy) s) (hN : NW s) {k5 : Int64 → Int32 → Int32 → Option (Int32)} {q : Int32} (hk5 : ∀  {v1 : Int64} {v3 : Int32} {v4 : Int32}, k5 v1 v3 v4 = some q → ∀ {ls : Array Slot}, lv_has ls 8 [(0, .ref (ad 22)), (1, .long v1), (3, .int v3), (4, .int v4)] → va_P D vwCl (GX cy ad tk sp nm tp kp cu se ur ab lo im sy un en ra li i2) s.heap → W p l e ({ frames := 1, cells := 0, slots := 0, locals := 21 } : Room) s m args below meth c s.heap [] 0 0 (MQ below (QP (some (.int q))) args s 0 0 (fun _ => False)) (F0 m 5 ls [])) {v1 : Int64} {v4 : Int32} (h : X8_holding_87 sy k5 v1 v4 = some q) {ls : Array Slot} (hl : lv_has ls 8 [(0, .ref (ad 22)), (1, .long v1), (4, .int v4)]) (hP : va_P D vwCl (GX cy ad tk sp nm tp kp cu se ur ab lo im sy un en ra li i2) s.heap) : W p l e ({ frames := 1, cells := 0, slots := 0, locals := 21 } : Room) s m args below meth c s.heap [] 0 0 (MQ below (QP (some (.int q))) args s 0 0 (fun _ => False)) (F0 m 87 ls []) := by
  obtain ⟨hx, hb, hml, hown, hts, hr, hlk⟩ := id C
  unfold X8_holding_87 at h
  refine lv_iload hx hb dX8_holding_87 (lv_at hl 2 rfl) ?_
  refine lv_istore_n (lv' := [(3, .int v4), (0, .ref (ad 22)), (1, .long v1), (4, .int v4)]) hx hb dX8_holding_89 rfl hl (by decide) rfl (fun ls hl => ?_)
  exact bX8_holding_90 C hK hN @hk5 h (lv_sub hl [1, 2, 0, 3] rfl) hP
def X8_holding_61 (sy : Tsy) (k5 : Int64 → Int32 → Int32 → Option (Int32))  (v1 : Int64) (v3 : Int32) (v4 : Int32) (v5 : Int64) (z0 : Int32) : Option (Int32) := (if z0 = 0 then X8_holding_90 sy k5 v1 v3 v4 else (if v3 = (-1 : Int32) then X8_holding_87 sy k5 v1 v4 else (if (at_l 100 sy.1 v3) < v5 then X8_holding_87 sy k5 v1 v4 else X8_holding_90 sy k5 v1 v3 v4)))
set_option maxRecDepth 20000 in
theorem bX8_holding_61 (C : Cx p s m args meth c cX8_holding 8 (some .int) RX8 (.code yX8_holding cX8_holding 8 (some .int))) (hK : va_K D vwCl (tysX cy) s) (hN : NW s) {k5 : Int64 → Int32 → Int32 → Option (Int32)} {q : Int32} (hk5 : ∀  {v1 : Int64} {v3 : Int32} {v4 : Int32}, k5 v1 v3 v4 = some q → ∀ {ls : Array Slot}, lv_has ls 8 [(0, .ref (ad 22)), (1, .long v1), (3, .int v3), (4, .int v4)] → va_P D vwCl (GX cy ad tk sp nm tp kp cu se ur ab lo im sy un en ra li i2) s.heap → W p l e ({ frames := 1, cells := 0, slots := 0, locals := 21 } : Room) s m args below meth c s.heap [] 0 0 (MQ below (QP (some (.int q))) args s 0 0 (fun _ => False)) (F0 m 5 ls [])) {v1 : Int64} {v3 : Int32} {v4 : Int32} {v5 : Int64} {z0 : Int32} (h : X8_holding_61 sy k5 v1 v3 v4 v5 z0 = some q) {ls : Array Slot} (hl : lv_has ls 8 [(0, .ref (ad 22)), (1, .long v1), (3, .int v3), (4, .int v4), (5, .long v5)]) (hP : va_P D vwCl (GX cy ad tk sp nm tp kp cu se ur ab lo im sy un en ra li i2) s.heap) : W p l e ({ frames := 1, cells := 0, slots := 0, locals := 21 } : Room) s m args below meth c s.heap [] 0 0 (MQ below (QP (some (.int q))) args s 0 0 (fun _ => False)) (F0 m 61 ls [.int z0]) := by
  obtain ⟨hx, hb, hml, hown, hts, hr, hlk⟩ := id C
  unfold X8_holding_61 at h
  refine lv_istore (lv' := [(7, .int z0), (0, .ref (ad 22)), (1, .long v1), (3, .int v3), (4, .int v4), (5, .long v5)]) hx hb dX8_holding_61 hl (by decide) rfl (fun ls hl => ?_)
  refine lv_iload hx hb dX8_holding_63 (lv_at hl 0 rfl) ?_
  refine lv_if_eq (tgt := 90) hx hb dX8_holding_65 (by decide) (fun c1 => ?_) (fun c1 => ?_)
  · rw [if_pos c1] at h
    exact bX8_holding_90 C hK hN @hk5 h (lv_sub hl [1, 2, 3, 4] rfl) hP
  · rw [if_neg c1] at h
    refine lv_iload_n hx hb dX8_holding_68 rfl (lv_at hl 3 rfl) ?_
    refine lv_iconst (v := (-1 : Int32)) hx hb dX8_holding_69 (by decide) ?_
    refine lv_icmp_eq (tgt := 87) hx hb dX8_holding_70 (by decide) (fun c2 => ?_) (fun c2 => ?_)
    · rw [if_pos c2] at h
      exact bX8_holding_87 C hK hN @hk5 h (lv_sub hl [1, 2, 4] rfl) hP
    · rw [if_neg c2] at h
      refine lv_lload hx hb dX8_holding_73 (lv_at hl 5 rfl) ?_
      refine lv_aload_n hx hb dX8_holding_75 rfl (lv_at hl 1 rfl) ?_
      refine gX22_0 C hK hP w278 dX8_holding_76 ?_
      refine lv_iload_n hx hb dX8_holding_79 rfl (lv_at hl 3 rfl) ?_
      refine xat_l (rest := [.long v5]) C hK hN hP eX23 (Nat.le_of_ble_eq_true rfl) w1268 hl.1 (Nat.le_of_ble_eq_true rfl) dX8_holding_80 ⟨Nat.le_of_ble_eq_true rfl, Nat.le_of_ble_eq_true rfl⟩ ⟨Nat.zero_le _, Nat.zero_le _⟩ ?_
      refine lc_le (tgt := 90) hx hb dX8_holding_83 dX8_holding_84 (by decide) (fun c3 => ?_) (fun c3 => ?_)
      · rw [if_neg c3] at h
        exact bX8_holding_90 C hK hN @hk5 h (lv_sub hl [1, 2, 3, 4] rfl) hP
      · rw [if_pos c3] at h
        exact bX8_holding_87 C hK hN @hk5 h (lv_sub hl [1, 2, 4] rfl) hP
def X8_holding_60 (sy : Tsy) (k5 : Int64 → Int32 → Int32 → Option (Int32))  (v1 : Int64) (v3 : Int32) (v4 : Int32) (v5 : Int64) : Option (Int32) := X8_holding_61 sy k5 v1 v3 v4 v5 (0 : Int32)
set_option maxRecDepth 20000 in
theorem bX8_holding_60 (C : Cx p s m args meth c cX8_holding 8 (some .int) RX8 (.code yX8_holding cX8_holding 8 (some .int))) (hK : va_K D vwCl (tysX cy) s) (hN : NW s) {k5 : Int64 → Int32 → Int32 → Option (Int32)} {q : Int32} (hk5 : ∀  {v1 : Int64} {v3 : Int32} {v4 : Int32}, k5 v1 v3 v4 = some q → ∀ {ls : Array Slot}, lv_has ls 8 [(0, .ref (ad 22)), (1, .long v1), (3, .int v3), (4, .int v4)] → va_P D vwCl (GX cy ad tk sp nm tp kp cu se ur ab lo im sy un en ra li i2) s.heap → W p l e ({ frames := 1, cells := 0, slots := 0, locals := 21 } : Room) s m args below meth c s.heap [] 0 0 (MQ below (QP (some (.int q))) args s 0 0 (fun _ => False)) (F0 m 5 ls [])) {v1 : Int64} {v3 : Int32} {v4 : Int32} {v5 : Int64} (h : X8_holding_60 sy k5 v1 v3 v4 v5 = some q) {ls : Array Slot} (hl : lv_has ls 8 [(0, .ref (ad 22)), (1, .long v1), (3, .int v3), (4, .int v4), (5, .long v5)]) (hP : va_P D vwCl (GX cy ad tk sp nm tp kp cu se ur ab lo im sy un en ra li i2) s.heap) : W p l e ({ frames := 1, cells := 0, slots := 0, locals := 21 } : Room) s m args below meth c s.heap [] 0 0 (MQ below (QP (some (.int q))) args s 0 0 (fun _ => False)) (F0 m 60 ls []) := by
  obtain ⟨hx, hb, hml, hown, hts, hr, hlk⟩ := id C
  unfold X8_holding_60 at h
  refine lv_iconst (v := (0 : Int32)) hx hb dX8_holding_60 (by decide) ?_
  exact bX8_holding_61 C hK hN @hk5 h (lv_sub hl [0, 1, 2, 3, 4] rfl) hP
def X8_holding_5b (sy : Tsy)  (k5 : Int64 → Int32 → Int32 → Option (Int32))  (v1 : Int64) (v3 : Int32) (v4 : Int32) : Option (Int32) := (if v4 < (100 : Int32) then (if v4 < sy.2.2.2.2 then (if v1 < (at_l 100 sy.1 v4) then X8_holding_60 sy k5 v1 v3 v4 (at_l 100 sy.1 v4) else (if v1 < ((at_l 100 sy.1 v4) + (at_l 100 sy.2.1 v4)) then X8_holding_61 sy k5 v1 v3 v4 (at_l 100 sy.1 v4) (1 : Int32) else X8_holding_60 sy k5 v1 v3 v4 (at_l 100 sy.1 v4))) else some v3) else some v3)
def X8_holding_5 (sy : Tsy)  (n : Nat) (st : Int64 × Int32 × Int32) : Option (Int32) := lp (fun rec st => X8_holding_5b sy  (fun a0 a1 a2 => rec (a0, a1, a2)) st.1 st.2.1 st.2.2) n st
set_option maxRecDepth 20000 in
theorem bX8_holding_5 (C : Cx p s m args meth c cX8_holding 8 (some .int) RX8 (.code yX8_holding cX8_holding 8 (some .int))) (hK : va_K D vwCl (tysX cy) s) (hN : NW s)  {q : Int32}  : ∀ (n : Nat)  {v1 : Int64} {v3 : Int32} {v4 : Int32}, X8_holding_5 sy  n (v1, v3, v4) = some q → ∀ {ls : Array Slot}, lv_has ls 8 [(0, .ref (ad 22)), (1, .long v1), (3, .int v3), (4, .int v4)] → va_P D vwCl (GX cy ad tk sp nm tp kp cu se ur ab lo im sy un en ra li i2) s.heap → W p l e ({ frames := 1, cells := 0, slots := 0, locals := 21 } : Room) s m args below meth c s.heap [] 0 0 (MQ below (QP (some (.int q))) args s 0 0 (fun _ => False)) (F0 m 5 ls []) := by
  obtain ⟨hx, hb, hml, hown, hts, hr, hlk⟩ := id C
  intro n
  induction n with
  | zero =>
    intro v1 v3 v4 h ls hl hP
    have h : (none : Option (Int32)) = some q := h
    cases h
  | succ n ih =>
    intro v1 v3 v4 h ls hl hP
    have h : X8_holding_5b sy  (fun a0 a1 a2 => X8_holding_5 sy  n (a0, a1, a2)) v1 v3 v4 = some q := h
    unfold X8_holding_5b at h
    refine lv_iload hx hb dX8_holding_5 (lv_at hl 3 rfl) ?_
    refine lv_bipush (v := (100 : Int32)) hx hb dX8_holding_7 (by decide) ?_
    refine b_icmp_ge (tgt := 96) hx hb dX8_holding_9 (by decide) (fun c1 => ?_) (fun c1 => ?_)
    · rw [if_neg c1] at h
      refine lv_iload_n hx hb dX8_holding_96 rfl (lv_at hl 2 rfl) ?_
      obtain rfl := Option.some.inj h
      exact W.iret hx hb hr (fun t ht _ => ⟨rfl, ht⟩) (fun _ h9 => by cases h9) dX8_holding_97 hlk
    · rw [if_pos c1] at h
      refine lv_iload hx hb dX8_holding_12 (lv_at hl 3 rfl) ?_
      refine lv_aload_n hx hb dX8_holding_14 rfl (lv_at hl 0 rfl) ?_
      refine gX22_4 (v := sy.2.2.2.2) C hK hP rfl w282 dX8_holding_15 ?_
      refine b_icmp_ge (tgt := 96) hx hb dX8_holding_18 (by decide) (fun c2 => ?_) (fun c2 => ?_)
      · rw [if_neg c2] at h
        refine lv_iload_n hx hb dX8_holding_96 rfl (lv_at hl 2 rfl) ?_
        obtain rfl := Option.some.inj h
        exact W.iret hx hb hr (fun t ht _ => ⟨rfl, ht⟩) (fun _ h9 => by cases h9) dX8_holding_97 hlk
      · rw [if_pos c2] at h
        refine lv_aload_n hx hb dX8_holding_21 rfl (lv_at hl 0 rfl) ?_
        refine gX22_0 C hK hP w278 dX8_holding_22 ?_
        refine lv_iload hx hb dX8_holding_25 (lv_at hl 3 rfl) ?_
        refine xat_l (rest := []) C hK hN hP eX23 (Nat.le_of_ble_eq_true rfl) w1268 hl.1 (Nat.le_of_ble_eq_true rfl) dX8_holding_27 ⟨Nat.le_of_ble_eq_true rfl, Nat.le_of_ble_eq_true rfl⟩ ⟨Nat.zero_le _, Nat.zero_le _⟩ ?_
        refine lv_lstore (lv' := [(5, .long (at_l 100 sy.1 v4)), (0, .ref (ad 22)), (1, .long v1), (3, .int v3), (4, .int v4)]) hx hb dX8_holding_30 hl (by decide) rfl (fun ls hl => ?_)
        refine lv_lload_n hx hb dX8_holding_32 rfl (lv_at hl 2 rfl) ?_
        refine lv_lload hx hb dX8_holding_33 (lv_at hl 0 rfl) ?_
        refine lc_lt (tgt := 60) hx hb dX8_holding_35 dX8_holding_36 (by decide) (fun c3 => ?_) (fun c3 => ?_)
        · rw [if_pos c3] at h
          exact bX8_holding_60 C hK hN @ih h (lv_sub hl [1, 2, 3, 4, 0] rfl) hP
        · rw [if_neg c3] at h
          refine lv_lload_n hx hb dX8_holding_39 rfl (lv_at hl 2 rfl) ?_
          refine lv_lload hx hb dX8_holding_40 (lv_at hl 0 rfl) ?_
          refine lv_aload_n hx hb dX8_holding_42 rfl (lv_at hl 1 rfl) ?_
          refine gX22_1 C hK hP w279 dX8_holding_43 ?_
          refine lv_iload hx hb dX8_holding_46 (lv_at hl 4 rfl) ?_
          refine xat_l (rest := [.long (at_l 100 sy.1 v4), .long v1]) C hK hN hP eX24 (Nat.le_of_ble_eq_true rfl) w1268 hl.1 (Nat.le_of_ble_eq_true rfl) dX8_holding_48 ⟨Nat.le_of_ble_eq_true rfl, Nat.le_of_ble_eq_true rfl⟩ ⟨Nat.zero_le _, Nat.zero_le _⟩ ?_
          refine lv_ladd hx hb dX8_holding_51 ?_
          refine lc_ge (tgt := 60) hx hb dX8_holding_52 dX8_holding_53 (by decide) (fun c4 => ?_) (fun c4 => ?_)
          · rw [if_neg c4] at h
            exact bX8_holding_60 C hK hN @ih h (lv_sub hl [1, 2, 3, 4, 0] rfl) hP
          · rw [if_pos c4] at h
            refine lv_iconst (v := (1 : Int32)) hx hb dX8_holding_56 (by decide) ?_
            refine lv_goto (tgt := 61) hx hb dX8_holding_57 (by decide) ?_
            exact bX8_holding_61 C hK hN @ih h (lv_sub hl [1, 2, 3, 4, 0] rfl) hP
def X8_holding (sy : Tsy) (v1 : Int64) : Option (Int32) := X8_holding_5 sy FU (v1, (-1 : Int32), (0 : Int32))
set_option maxRecDepth 20000 in
theorem bX8_holding_0 (C : Cx p s m args meth c cX8_holding 8 (some .int) RX8 (.code yX8_holding cX8_holding 8 (some .int))) (hK : va_K D vwCl (tysX cy) s) (hN : NW s)  {q : Int32}  {v1 : Int64} (h : X8_holding sy v1 = some q) {ls : Array Slot} (hl : lv_has ls 8 [(0, .ref (ad 22)), (1, .long v1)]) (hP : va_P D vwCl (GX cy ad tk sp nm tp kp cu se ur ab lo im sy un en ra li i2) s.heap) : W p l e ({ frames := 1, cells := 0, slots := 0, locals := 21 } : Room) s m args below meth c s.heap [] 0 0 (MQ below (QP (some (.int q))) args s 0 0 (fun _ => False)) (F0 m 0 ls []) := by
  obtain ⟨hx, hb, hml, hown, hts, hr, hlk⟩ := id C
  unfold X8_holding at h
  refine lv_iconst (v := (-1 : Int32)) hx hb dX8_holding_0 (by decide) ?_
  refine lv_istore_n (lv' := [(3, .int (-1 : Int32)), (0, .ref (ad 22)), (1, .long v1)]) hx hb dX8_holding_1 rfl hl (by decide) rfl (fun ls hl => ?_)
  refine lv_iconst (v := (0 : Int32)) hx hb dX8_holding_2 (by decide) ?_
  refine lv_istore (lv' := [(4, .int (0 : Int32)), (3, .int (-1 : Int32)), (0, .ref (ad 22)), (1, .long v1)]) hx hb dX8_holding_3 hl (by decide) rfl (fun ls hl => ?_)
  exact bX8_holding_5 C hK hN FU h (lv_sub hl [2, 3, 1, 0] rfl) hP
theorem kX8_holding  {v1 : Int64} {q : Int32} (h : X8_holding sy v1 = some q) : Met l yX8_holding (.code yX8_holding cX8_holding 8 (some .int) :: WA) ({ frames := 1, cells := 0, slots := 0, locals := 21 } : Room) (va_Pc [.ref (ad 22), .long v1] (PR D cy (GX cy ad tk sp nm tp kp cu se ur ab lo im sy un en ra li i2))) (QP (some (.int q))) 0 0 (fun _ => False) :=
  met_of (by decide) (Nat.le_of_ble_eq_true rfl) (fun p e s m below meth c ls C hP hK hN hl => bX8_holding_0 C hK hN h hl hP)
def X8_valueOf (sy : Tsy) (v1 : Int32) : Int64 := (at_l 100 sy.1 v1)
set_option maxRecDepth 20000 in
theorem bX8_valueOf_0 (C : Cx p s m args meth c cX8_valueOf 2 (some .long) RX8 (.code yX8_valueOf cX8_valueOf 2 (some .long))) (hK : va_K D vwCl (tysX cy) s) (hN : NW s)  {q : Int64}  {v1 : Int32} (h : X8_valueOf sy v1 = q) {ls : Array Slot} (hl : lv_has ls 2 [(0, .ref (ad 22)), (1, .int v1)]) (hP : va_P D vwCl (GX cy ad tk sp nm tp kp cu se ur ab lo im sy un en ra li i2) s.heap) : W p l e ({ frames := 1, cells := 0, slots := 0, locals := 21 } : Room) s m args below meth c s.heap [] 0 0 (MQ below (QP (some (.long q))) args s 0 0 (fun _ => False)) (F0 m 0 ls []) := by
  obtain ⟨hx, hb, hml, hown, hts, hr, hlk⟩ := id C
  unfold X8_valueOf at h
  refine lv_aload_n hx hb dX8_valueOf_0 rfl (lv_at hl 0 rfl) ?_
  refine gX22_0 C hK hP w278 dX8_valueOf_1 ?_
  refine lv_iload_n hx hb dX8_valueOf_4 rfl (lv_at hl 1 rfl) ?_
  refine xat_l (rest := []) C hK hN hP eX23 (Nat.le_of_ble_eq_true rfl) w1268 hl.1 (Nat.le_of_ble_eq_true rfl) dX8_valueOf_5 ⟨Nat.le_of_ble_eq_true rfl, Nat.le_of_ble_eq_true rfl⟩ ⟨Nat.zero_le _, Nat.zero_le _⟩ ?_
  obtain rfl := h
  exact W.lret hx hb hr (fun t ht _ => ⟨rfl, ht⟩) (fun _ h9 => by cases h9) dX8_valueOf_8 hlk
theorem kX8_valueOf  {v1 : Int32} {q : Int64} (h : X8_valueOf sy v1 = q) : Met l yX8_valueOf (.code yX8_valueOf cX8_valueOf 2 (some .long) :: WA) ({ frames := 1, cells := 0, slots := 0, locals := 21 } : Room) (va_Pc [.ref (ad 22), .int v1] (PR D cy (GX cy ad tk sp nm tp kp cu se ur ab lo im sy un en ra li i2))) (QP (some (.long q))) 0 0 (fun _ => False) :=
  met_of (by decide) (Nat.le_of_ble_eq_true rfl) (fun p e s m below meth c ls C hP hK hN hl => bX8_valueOf_0 C hK hN h hl hP)
def X5_seekSymbol (lo : Tlo) (sy : Tsy) (v2 : Int64) : Option (Tlo) := ((X8_holding sy v2).bind fun q1 => (if q1 = (-1 : Int32) then some (lo.1, lo.2.1, lo.2.2.1, q1, lo.2.2.2.2) else some (lo.1, lo.2.1, lo.2.2.1, q1, (((v2 - (X8_valueOf sy q1))).toInt32))))
set_option maxRecDepth 20000 in
theorem bX5_seekSymbol_0 (C : Cx p s m args meth c cX5_seekSymbol 4 none RX5 (.code yX5_seekSymbol cX5_seekSymbol 4 none)) (hI : Apart ad 89) (hK : va_K D vwCl (tysX cy) s) (hN : NW s)  {q : Tlo}  {v2 : Int64} (h : X5_seekSymbol lo sy v2 = some q) {ls : Array Slot} (hl : lv_has ls 4 [(0, .ref (ad 19)), (1, .ref (ad 22)), (2, .long v2)]) {H : Heap} {locs : List Loc} (hP : va_P D vwCl (GX cy ad tk sp nm tp kp cu se ur ab lo im sy un en ra li i2) H) (hS : va_S (Ac ad 89) s.heap H locs) : W p l e ({ frames := 2, cells := 0, slots := 0, locals := 48 } : Room) s m args below meth c H locs 0 0 (MQ below (QR none D (GX cy ad tk sp nm tp kp cu se ur ab q im sy un en ra li i2) (Ac ad 89)) args s 0 0 (Ac ad 89)) (F0 m 0 ls []) := by
  obtain ⟨hx, hb, hml, hown, hts, hr, hlk⟩ := id C
  unfold X5_seekSymbol at h
  refine lv_aload_n hx hb dX5_seekSymbol_0 rfl (lv_at hl 0 rfl) ?_
  refine lv_aload_n hx hb dX5_seekSymbol_1 rfl (lv_at hl 1 rfl) ?_
  refine lv_lload_n hx hb dX5_seekSymbol_2 rfl (lv_at hl 2 rfl) ?_
  obtain ⟨q1, h2, h⟩ := bnd h
  refine cPi (run_V (rest := [.ref (ad 19)]) C (kX8_holding h2) caX8_holding w1264 ⟨rfl, rfl, Nat.le_of_ble_eq_true rfl, Nat.le_of_ble_eq_true rfl⟩ hK hN hP (rX22 hK hP) rfl hl.1 rfl (Nat.le_of_ble_eq_true rfl) dX5_seekSymbol_3 ⟨Nat.zero_le _, Nat.zero_le _⟩) ?_
  refine pX19_3 (v := q1) C hI hK hP hS w253 dX5_seekSymbol_6 (fun H locs hP hS => ?_)
  have hP : va_P D vwCl (GX cy ad tk sp nm tp kp cu se ur ab (lo.1, lo.2.1, lo.2.2.1, q1, lo.2.2.2.2) im sy un en ra li i2) H := hP
  refine lv_aload_n hx hb dX5_seekSymbol_9 rfl (lv_at hl 0 rfl) ?_
  refine gX19_3 (v := q1) C hK hP rfl w253 dX5_seekSymbol_10 ?_
  refine lv_iconst (v := (-1 : Int32)) hx hb dX5_seekSymbol_13 (by decide) ?_
  refine lv_icmp_eq (tgt := 32) hx hb dX5_seekSymbol_14 (by decide) (fun c3 => ?_) (fun c3 => ?_)
  · rw [if_pos c3] at h
    obtain rfl := Option.some.inj h
    exact W.vret hx hb hr (fun t ht _ => ⟨rfl, by rw [ht]; exact hP, hS.F ht⟩) hS.2.2 dX5_seekSymbol_32 hlk
  · rw [if_neg c3] at h
    refine lv_aload_n hx hb dX5_seekSymbol_17 rfl (lv_at hl 0 rfl) ?_
    refine lv_lload_n hx hb dX5_seekSymbol_18 rfl (lv_at hl 2 rfl) ?_
    refine lv_aload_n hx hb dX5_seekSymbol_19 rfl (lv_at hl 1 rfl) ?_
    refine lv_aload_n hx hb dX5_seekSymbol_20 rfl (lv_at hl 0 rfl) ?_
    refine gX19_3 (v := q1) C hK hP rfl w253 dX5_seekSymbol_21 ?_
    refine cPl (run_V (rest := [.long v2, .ref (ad 19)]) C (kX8_valueOf rfl) caX8_valueOf w1269 ⟨rfl, rfl, Nat.le_of_ble_eq_true rfl, Nat.le_of_ble_eq_true rfl⟩ hK hN hP (rX22 hK hP) rfl hl.1 rfl (Nat.le_of_ble_eq_true rfl) dX5_seekSymbol_24 ⟨Nat.zero_le _, Nat.zero_le _⟩) ?_
    refine lv_lsub hx hb dX5_seekSymbol_27 ?_
    refine lv_l2i (v := (((v2 - (X8_valueOf sy q1))).toInt32)) hx hb dX5_seekSymbol_28 rfl ?_
    refine pX19_4 (v := (((v2 - (X8_valueOf sy q1))).toInt32)) C hI hK hP hS w254 dX5_seekSymbol_29 (fun H locs hP hS => ?_)
    have hP : va_P D vwCl (GX cy ad tk sp nm tp kp cu se ur ab (lo.1, lo.2.1, lo.2.2.1, q1, (((v2 - (X8_valueOf sy q1))).toInt32)) im sy un en ra li i2) H := hP
    obtain rfl := Option.some.inj h
    exact W.vret hx hb hr (fun t ht _ => ⟨rfl, by rw [ht]; exact hP, hS.F ht⟩) hS.2.2 dX5_seekSymbol_32 hlk
theorem kX5_seekSymbol (hI : Apart ad 89) {v2 : Int64} {q : Tlo} (h : X5_seekSymbol lo sy v2 = some q) : Met l yX5_seekSymbol (.code yX5_seekSymbol cX5_seekSymbol 4 none :: WA) ({ frames := 2, cells := 0, slots := 0, locals := 48 } : Room) (va_Pc [.ref (ad 19), .ref (ad 22), .long v2] (PR D cy (GX cy ad tk sp nm tp kp cu se ur ab lo im sy un en ra li i2))) (QR none D (GX cy ad tk sp nm tp kp cu se ur ab q im sy un en ra li i2) (Ac ad 89)) 0 0 (Ac ad 89) :=
  met_of (by decide) (Nat.le_of_ble_eq_true rfl) (fun p e s m below meth c ls C hP hK hN hl => bX5_seekSymbol_0 C hI hK hN h hl hP va_S.rf)
end
