section
variable {t adK adV : Nat → Nat} {k : Nat}
variable {p : Program} {l : Launch} {e : Env} {s : State} {m : MethodId} {args : Array Value} {below : List Frame} {meth : Method} {c : Code} {D : va_G} {cy : Nat → ClassId} {ad : Nat → Nat}
variable {tk : Nat} {sp : Nat} {nm : Tnm} {tp : Ttp} {kp : Tkp} {cu : Tcu} {se : Tse} {ur : Tur} {ab : Tab} {lo : Tlo} {im : Tim} {sy : Tsy} {un : Tun} {en : Ten} {ra : Tra} {li : Tli} {i2 : Ti2}
def X5_seek_66 (sy : Tsy) (en : Ten) (ra : Tra) (li : Tli) (k14 : Tlo → Int64 → Int32 → Int32 → Option (Int32 × Tlo)) (lo : Tlo) (v2 : Int64) (v4 : Int32) (v5 : Int32) : Option (Int32 × Tlo) := ((X3_childHolding en ra v4 v2).bind fun q1 => k14 lo v2 q1 (v5 + (1 : Int32)))
set_option maxRecDepth 20000 in
theorem bX5_seek_66 (C : Cx p s m args meth c cX5_seek 6 (some .int) RX5 (.code yX5_seek cX5_seek 6 (some .int))) (hI : Apart ad 89) (hK : va_K D vwCl (tysX cy) s) (hN : NW s) {k14 : Tlo → Int64 → Int32 → Int32 → Option (Int32 × Tlo)} {q : Int32 × Tlo} (hk14 : ∀ {lo : Tlo} {v2 : Int64} {v4 : Int32} {v5 : Int32}, k14 lo v2 v4 v5 = some q → ∀ {ls : Array Slot}, lv_has ls 6 [(0, .ref (ad 19)), (1, .ref (ad 21)), (2, .long v2), (4, .int v4), (5, .int v5)] → ∀ {H : Heap} {locs : List Loc}, va_P D vwCl (GX cy ad tk sp nm tp kp cu se ur ab lo im sy un en ra li i2) H → va_S (Ac ad 89) s.heap H locs → W p l e ({ frames := 4, cells := 0, slots := 0, locals := 96 } : Room) s m args below meth c H locs 0 0 (MQ below (QR (some (.int q.1)) D (GX cy ad tk sp nm tp kp cu se ur ab q.2 im sy un en ra li i2) (Ac ad 89)) args s 0 0 (Ac ad 89)) (F0 m 14 ls [])) {v2 : Int64} {v4 : Int32} {v5 : Int32} (h : X5_seek_66 sy en ra li k14 lo v2 v4 v5 = some q) {ls : Array Slot} (hl : lv_has ls 6 [(0, .ref (ad 19)), (1, .ref (ad 21)), (2, .long v2), (4, .int v4), (5, .int v5)]) {H : Heap} {locs : List Loc} (hP : va_P D vwCl (GX cy ad tk sp nm tp kp cu se ur ab lo im sy un en ra li i2) H) (hS : va_S (Ac ad 89) s.heap H locs) : W p l e ({ frames := 4, cells := 0, slots := 0, locals := 96 } : Room) s m args below meth c H locs 0 0 (MQ below (QR (some (.int q.1)) D (GX cy ad tk sp nm tp kp cu se ur ab q.2 im sy un en ra li i2) (Ac ad 89)) args s 0 0 (Ac ad 89)) (F0 m 66 ls []) := by
  obtain ⟨hx, hb, hml, hown, hts, hr, hlk⟩ := id C
  unfold X5_seek_66 at h
  refine lv_aload_n hx hb dX5_seek_66 rfl (lv_at hl 1 rfl) ?_
  refine lv_iload hx hb dX5_seek_67 (lv_at hl 3 rfl) ?_
  refine lv_lload_n hx hb dX5_seek_69 rfl (lv_at hl 2 rfl) ?_
  obtain ⟨q1, h2, h⟩ := bnd h
  refine cPi (run_V (rest := []) C (kX3_childHolding h2) caX3_childHolding w1240 ⟨rfl, rfl, Nat.le_of_ble_eq_true rfl, Nat.le_of_ble_eq_true rfl⟩ hK hN hP (rX21 hK hP) rfl hl.1 rfl (Nat.le_of_ble_eq_true rfl) dX5_seek_70 ⟨Nat.zero_le _, Nat.zero_le _⟩) ?_
  refine lv_istore (lv' := [(4, .int q1), (0, .ref (ad 19)), (1, .ref (ad 21)), (2, .long v2), (5, .int v5)]) hx hb dX5_seek_73 hl (by decide) rfl (fun ls hl => ?_)
  refine lv_iinc (v := (v5 + (1 : Int32))) (lv' := [(5, .int (v5 + (1 : Int32))), (4, .int q1), (0, .ref (ad 19)), (1, .ref (ad 21)), (2, .long v2)]) hx hb dX5_seek_75 hl (k := 4) rfl rfl (by decide) rfl (fun ls hl => ?_)
  refine lv_goto (tgt := 14) hx hb dX5_seek_78 (by decide) ?_
  exact hk14 h (lv_sub hl [2, 3, 4, 1, 0] rfl) hP hS
def X5_seek_81 (sy : Tsy) (en : Ten) (ra : Tra) (li : Tli)  (lo : Tlo) (v2 : Int64) : Option (Int32 × Tlo) := (if 0 < lo.2.1 then ((X4_governing li (X2_unitOf en (X5_entryOf lo (0 : Int32))) v2).bind fun q4 => some (lo.2.1, (lo.1, lo.2.1, q4, lo.2.2.2.1, lo.2.2.2.2))) else ((X5_seekSymbol lo sy v2).bind fun q2 => some (q2.2.1, q2)))
set_option maxRecDepth 20000 in
theorem bX5_seek_81 (C : Cx p s m args meth c cX5_seek 6 (some .int) RX5 (.code yX5_seek cX5_seek 6 (some .int))) (hI : Apart ad 89) (hK : va_K D vwCl (tysX cy) s) (hN : NW s)  {q : Int32 × Tlo}  {v2 : Int64} (h : X5_seek_81 sy en ra li lo v2 = some q) {ls : Array Slot} (hl : lv_has ls 6 [(0, .ref (ad 19)), (1, .ref (ad 21)), (2, .long v2)]) {H : Heap} {locs : List Loc} (hP : va_P D vwCl (GX cy ad tk sp nm tp kp cu se ur ab lo im sy un en ra li i2) H) (hS : va_S (Ac ad 89) s.heap H locs) : W p l e ({ frames := 4, cells := 0, slots := 0, locals := 96 } : Room) s m args below meth c H locs 0 0 (MQ below (QR (some (.int q.1)) D (GX cy ad tk sp nm tp kp cu se ur ab q.2 im sy un en ra li i2) (Ac ad 89)) args s 0 0 (Ac ad 89)) (F0 m 81 ls []) := by
  obtain ⟨hx, hb, hml, hown, hts, hr, hlk⟩ := id C
  unfold X5_seek_81 at h
  refine lv_aload_n hx hb dX5_seek_81 rfl (lv_at hl 0 rfl) ?_
  refine gX19_1 (v := lo.2.1) C hK hP rfl w251 dX5_seek_82 ?_
  refine b_if_le (tgt := 115) hx hb dX5_seek_85 (by decide) (fun c1 => ?_) (fun c1 => ?_)
  · rw [if_neg c1] at h
    refine lv_aload_n hx hb dX5_seek_115 rfl (lv_at hl 0 rfl) ?_
    refine lv_aload_n hx hb dX5_seek_116 rfl (lv_at hl 1 rfl) ?_
    refine gX21_0N C hK hP hN w449 dX5_seek_117 ?_
    refine lv_lload_n hx hb dX5_seek_120 rfl (lv_at hl 2 rfl) ?_
    obtain ⟨q2, h3, h⟩ := bnd h
    refine cRv (run_V (rest := []) C (kX5_seekSymbol hI h3) caX5_seekSymbol w1260 ⟨rfl, rfl, Nat.le_of_ble_eq_true rfl, Nat.le_of_ble_eq_true rfl⟩ hK hN hP (rX19 hK hP) rfl hl.1 rfl (Nat.le_of_ble_eq_true rfl) dX5_seek_121 ⟨Nat.zero_le _, Nat.zero_le _⟩) hS (fun H locs hP hS => ?_)
    have hP : va_P D vwCl (GX cy ad tk sp nm tp kp cu se ur ab q2 im sy un en ra li i2) H := hP
    refine lv_aload_n hx hb dX5_seek_124 rfl (lv_at hl 0 rfl) ?_
    refine gX19_1 (v := q2.2.1) C hK hP rfl w251 dX5_seek_125 ?_
    obtain rfl := Option.some.inj h
    exact W.iret hx hb hr (fun t ht _ => ⟨rfl, by rw [ht]; exact hP, hS.F ht⟩) hS.2.2 dX5_seek_128 hlk
  · rw [if_pos c1] at h
    refine lv_aload_n hx hb dX5_seek_88 rfl (lv_at hl 0 rfl) ?_
    refine lv_aload_n hx hb dX5_seek_89 rfl (lv_at hl 1 rfl) ?_
    refine gX21_4N C hK hP hN w466 dX5_seek_90 ?_
    refine lv_aload_n hx hb dX5_seek_93 rfl (lv_at hl 1 rfl) ?_
    refine gX21_2N C hK hP hN w461 dX5_seek_94 ?_
    refine lv_aload_n hx hb dX5_seek_97 rfl (lv_at hl 0 rfl) ?_
    refine lv_iconst (v := (0 : Int32)) hx hb dX5_seek_98 (by decide) ?_
    refine cPi (run_V (rest := [.ref (ad 34), .ref (ad 48), .ref (ad 19)]) C (kX5_entryOf rfl) caX5_entryOf w1247 ⟨rfl, rfl, Nat.le_of_ble_eq_true rfl, Nat.le_of_ble_eq_true rfl⟩ hK hN hP (rX19 hK hP) rfl hl.1 rfl (Nat.le_of_ble_eq_true rfl) dX5_seek_99 ⟨Nat.zero_le _, Nat.zero_le _⟩) ?_
    refine cPi (run_V (rest := [.ref (ad 48), .ref (ad 19)]) C (kX2_unitOf rfl) caX2_unitOf w1252 ⟨rfl, rfl, Nat.le_of_ble_eq_true rfl, Nat.le_of_ble_eq_true rfl⟩ hK hN hP (rX34 hK hP) rfl hl.1 rfl (Nat.le_of_ble_eq_true rfl) dX5_seek_102 ⟨Nat.zero_le _, Nat.zero_le _⟩) ?_
    refine lv_lload_n hx hb dX5_seek_105 rfl (lv_at hl 2 rfl) ?_
    obtain ⟨q4, h5, h⟩ := bnd h
    refine cPi (run_V (rest := [.ref (ad 19)]) C (kX4_governing h5) caX4_governing w1253 ⟨rfl, rfl, Nat.le_of_ble_eq_true rfl, Nat.le_of_ble_eq_true rfl⟩ hK hN hP (rX48 hK hP) rfl hl.1 rfl (Nat.le_of_ble_eq_true rfl) dX5_seek_106 ⟨Nat.zero_le _, Nat.zero_le _⟩) ?_
    refine pX19_2 (v := q4) C hI hK hP hS w252 dX5_seek_109 (fun H locs hP hS => ?_)
    have hP : va_P D vwCl (GX cy ad tk sp nm tp kp cu se ur ab (lo.1, lo.2.1, q4, lo.2.2.2.1, lo.2.2.2.2) im sy un en ra li i2) H := hP
    refine lv_goto (tgt := 124) hx hb dX5_seek_112 (by decide) ?_
    refine lv_aload_n hx hb dX5_seek_124 rfl (lv_at hl 0 rfl) ?_
    refine gX19_1 (v := lo.2.1) C hK hP rfl w251 dX5_seek_125 ?_
    obtain rfl := Option.some.inj h
    exact W.iret hx hb hr (fun t ht _ => ⟨rfl, by rw [ht]; exact hP, hS.F ht⟩) hS.2.2 dX5_seek_128 hlk
def X5_seek_14b (sy : Tsy) (en : Ten) (ra : Tra) (li : Tli)  (k14 : Tlo → Int64 → Int32 → Int32 → Option (Int32 × Tlo)) (lo : Tlo) (v2 : Int64) (v4 : Int32) (v5 : Int32) : Option (Int32 × Tlo) := (if v5 < (24 : Int32) then (if v4 = (-1 : Int32) then X5_seek_81 sy en ra li lo v2 else (if (X2_tagOf en v4) = (11 : Int64) then X5_seek_66 sy en ra li k14 lo v2 v4 v5 else X5_seek_66 sy en ra li k14 ((put_i 24 lo.1 lo.2.1 v4), (lo.2.1 + (1 : Int32)), lo.2.2.1, lo.2.2.2.1, lo.2.2.2.2) v2 v4 v5)) else X5_seek_81 sy en ra li lo v2)
def X5_seek_14 (sy : Tsy) (en : Ten) (ra : Tra) (li : Tli)  (n : Nat) (st : Tlo × Int64 × Int32 × Int32) : Option (Int32 × Tlo) := lp (fun rec st => X5_seek_14b sy en ra li  (fun a0 a1 a2 a3 => rec (a0, a1, a2, a3)) st.1 st.2.1 st.2.2.1 st.2.2.2) n st
set_option maxRecDepth 20000 in
theorem bX5_seek_14 (C : Cx p s m args meth c cX5_seek 6 (some .int) RX5 (.code yX5_seek cX5_seek 6 (some .int))) (hI : Apart ad 89) (hK : va_K D vwCl (tysX cy) s) (hN : NW s)  {q : Int32 × Tlo}  : ∀ (n : Nat) {lo : Tlo} {v2 : Int64} {v4 : Int32} {v5 : Int32}, X5_seek_14 sy en ra li  n (lo, v2, v4, v5) = some q → ∀ {ls : Array Slot}, lv_has ls 6 [(0, .ref (ad 19)), (1, .ref (ad 21)), (2, .long v2), (4, .int v4), (5, .int v5)] → ∀ {H : Heap} {locs : List Loc}, va_P D vwCl (GX cy ad tk sp nm tp kp cu se ur ab lo im sy un en ra li i2) H → va_S (Ac ad 89) s.heap H locs → W p l e ({ frames := 4, cells := 0, slots := 0, locals := 96 } : Room) s m args below meth c H locs 0 0 (MQ below (QR (some (.int q.1)) D (GX cy ad tk sp nm tp kp cu se ur ab q.2 im sy un en ra li i2) (Ac ad 89)) args s 0 0 (Ac ad 89)) (F0 m 14 ls []) := by
  obtain ⟨hx, hb, hml, hown, hts, hr, hlk⟩ := id C
  intro n
  induction n with
  | zero =>
    intro lo v2 v4 v5 h ls hl H locs hP hS
    have h : (none : Option (Int32 × Tlo)) = some q := h
    cases h
  | succ n ih =>
    intro lo v2 v4 v5 h ls hl H locs hP hS
    have h : X5_seek_14b sy en ra li  (fun a0 a1 a2 a3 => X5_seek_14 sy en ra li  n (a0, a1, a2, a3)) lo v2 v4 v5 = some q := h
    unfold X5_seek_14b at h
    refine lv_iload hx hb dX5_seek_14 (lv_at hl 4 rfl) ?_
    refine lv_bipush (v := (24 : Int32)) hx hb dX5_seek_16 (by decide) ?_
    refine b_icmp_ge (tgt := 81) hx hb dX5_seek_18 (by decide) (fun c1 => ?_) (fun c1 => ?_)
    · rw [if_neg c1] at h
      exact bX5_seek_81 C hI hK hN h (lv_sub hl [0, 1, 2] rfl) hP hS
    · rw [if_pos c1] at h
      refine lv_iload hx hb dX5_seek_21 (lv_at hl 3 rfl) ?_
      refine lv_iconst (v := (-1 : Int32)) hx hb dX5_seek_23 (by decide) ?_
      refine lv_icmp_eq (tgt := 81) hx hb dX5_seek_24 (by decide) (fun c2 => ?_) (fun c2 => ?_)
      · rw [if_pos c2] at h
        exact bX5_seek_81 C hI hK hN h (lv_sub hl [0, 1, 2] rfl) hP hS
      · rw [if_neg c2] at h
        refine lv_aload_n hx hb dX5_seek_27 rfl (lv_at hl 1 rfl) ?_
        refine gX21_2N C hK hP hN w461 dX5_seek_28 ?_
        refine lv_iload hx hb dX5_seek_31 (lv_at hl 3 rfl) ?_
        refine cPl (run_V (rest := []) C (kX2_tagOf rfl) caX2_tagOf w1237 ⟨rfl, rfl, Nat.le_of_ble_eq_true rfl, Nat.le_of_ble_eq_true rfl⟩ hK hN hP (rX34 hK hP) rfl hl.1 rfl (Nat.le_of_ble_eq_true rfl) dX5_seek_33 ⟨Nat.zero_le _, Nat.zero_le _⟩) ?_
        refine lv_ldc2 (v := (11 : Int64)) hx hb hown (hts _ (List.mem_cons_of_mem _ w1238)) dX5_seek_36 ?_
        refine lc_eq (tgt := 66) hx hb dX5_seek_39 dX5_seek_40 (by decide) (fun c3 => ?_) (fun c3 => ?_)
        · rw [if_pos c3] at h
          exact bX5_seek_66 C hI hK hN @ih h (lv_sub hl [0, 1, 2, 3, 4] rfl) hP hS
        · rw [if_neg c3] at h
          refine lv_aload_n hx hb dX5_seek_43 rfl (lv_at hl 0 rfl) ?_
          refine gX19_0 C hK hP w250 dX5_seek_44 ?_
          refine lv_aload_n hx hb dX5_seek_47 rfl (lv_at hl 0 rfl) ?_
          refine gX19_1 (v := lo.2.1) C hK hP rfl w251 dX5_seek_48 ?_
          refine lv_iload hx hb dX5_seek_51 (lv_at hl 3 rfl) ?_
          refine xput_i (rest := []) C hK hN hP (GX_D hI) hS eX20 (Nat.le_of_ble_eq_true rfl) w1239 hl.1 (Nat.le_of_ble_eq_true rfl) dX5_seek_53 ⟨Nat.le_of_ble_eq_true rfl, Nat.le_of_ble_eq_true rfl⟩ ⟨Nat.zero_le _, Nat.zero_le _⟩ (fun H locs hP hS => ?_)
          have hP : va_P D vwCl (GX cy ad tk sp nm tp kp cu se ur ab ((put_i 24 lo.1 lo.2.1 v4), lo.2.1, lo.2.2.1, lo.2.2.2.1, lo.2.2.2.2) im sy un en ra li i2) H := hP
          refine lv_aload_n hx hb dX5_seek_56 rfl (lv_at hl 0 rfl) ?_
          refine lv_dup hx hb dX5_seek_57 rfl ?_
          refine gX19_1 (v := lo.2.1) C hK hP rfl w251 dX5_seek_58 ?_
          refine lv_iconst (v := (1 : Int32)) hx hb dX5_seek_61 (by decide) ?_
          refine lv_iadd hx hb dX5_seek_62 ?_
          refine pX19_1 (v := (lo.2.1 + (1 : Int32))) C hI hK hP hS w251 dX5_seek_63 (fun H locs hP hS => ?_)
          have hP : va_P D vwCl (GX cy ad tk sp nm tp kp cu se ur ab ((put_i 24 lo.1 lo.2.1 v4), (lo.2.1 + (1 : Int32)), lo.2.2.1, lo.2.2.2.1, lo.2.2.2.2) im sy un en ra li i2) H := hP
          exact bX5_seek_66 C hI hK hN @ih h (lv_sub hl [0, 1, 2, 3, 4] rfl) hP hS
def X5_seek (lo : Tlo) (sy : Tsy) (en : Ten) (ra : Tra) (li : Tli) (v2 : Int64) : Option (Int32 × Tlo) := (letq (X5_forget lo) fun q1 => ((X3_functionHolding en ra v2).bind fun q3 => X5_seek_14 sy en ra li FU (q1, v2, q3, (0 : Int32))))
set_option maxRecDepth 20000 in
theorem bX5_seek_0 (C : Cx p s m args meth c cX5_seek 6 (some .int) RX5 (.code yX5_seek cX5_seek 6 (some .int))) (hI : Apart ad 89) (hK : va_K D vwCl (tysX cy) s) (hN : NW s)  {q : Int32 × Tlo}  {v2 : Int64} (h : X5_seek lo sy en ra li v2 = some q) {ls : Array Slot} (hl : lv_has ls 6 [(0, .ref (ad 19)), (1, .ref (ad 21)), (2, .long v2)]) {H : Heap} {locs : List Loc} (hP : va_P D vwCl (GX cy ad tk sp nm tp kp cu se ur ab lo im sy un en ra li i2) H) (hS : va_S (Ac ad 89) s.heap H locs) : W p l e ({ frames := 4, cells := 0, slots := 0, locals := 96 } : Room) s m args below meth c H locs 0 0 (MQ below (QR (some (.int q.1)) D (GX cy ad tk sp nm tp kp cu se ur ab q.2 im sy un en ra li i2) (Ac ad 89)) args s 0 0 (Ac ad 89)) (F0 m 0 ls []) := by
  obtain ⟨hx, hb, hml, hown, hts, hr, hlk⟩ := id C
  unfold X5_seek at h
  refine lv_aload_n hx hb dX5_seek_0 rfl (lv_at hl 0 rfl) ?_
  obtain ⟨q1, h2, h⟩ := lets h
  refine cRv (run_V (rest := []) C (kX5_forget hI h2) caX5_forget w1228 ⟨rfl, rfl, Nat.le_of_ble_eq_true rfl, Nat.le_of_ble_eq_true rfl⟩ hK hN hP (rX19 hK hP) rfl hl.1 rfl (Nat.le_of_ble_eq_true rfl) dX5_seek_1 ⟨Nat.zero_le _, Nat.zero_le _⟩) hS (fun H locs hP hS => ?_)
  have hP : va_P D vwCl (GX cy ad tk sp nm tp kp cu se ur ab q1 im sy un en ra li i2) H := hP
  refine lv_aload_n hx hb dX5_seek_4 rfl (lv_at hl 1 rfl) ?_
  refine lv_lload_n hx hb dX5_seek_5 rfl (lv_at hl 2 rfl) ?_
  obtain ⟨q3, h4, h⟩ := bnd h
  refine cPi (run_V (rest := []) C (kX3_functionHolding h4) caX3_functionHolding w1229 ⟨rfl, rfl, Nat.le_of_ble_eq_true rfl, Nat.le_of_ble_eq_true rfl⟩ hK hN hP (rX21 hK hP) rfl hl.1 rfl (Nat.le_of_ble_eq_true rfl) dX5_seek_6 ⟨Nat.zero_le _, Nat.zero_le _⟩) ?_
  refine lv_istore (lv' := [(4, .int q3), (0, .ref (ad 19)), (1, .ref (ad 21)), (2, .long v2)]) hx hb dX5_seek_9 hl (by decide) rfl (fun ls hl => ?_)
  refine lv_iconst (v := (0 : Int32)) hx hb dX5_seek_11 (by decide) ?_
  refine lv_istore (lv' := [(5, .int (0 : Int32)), (4, .int q3), (0, .ref (ad 19)), (1, .ref (ad 21)), (2, .long v2)]) hx hb dX5_seek_12 hl (by decide) rfl (fun ls hl => ?_)
  exact bX5_seek_14 C hI hK hN FU h (lv_sub hl [2, 3, 4, 1, 0] rfl) hP hS
theorem kX5_seek (hI : Apart ad 89) {v2 : Int64} {q : Int32 × Tlo} (h : X5_seek lo sy en ra li v2 = some q) : Met l yX5_seek (.code yX5_seek cX5_seek 6 (some .int) :: WA) ({ frames := 4, cells := 0, slots := 0, locals := 96 } : Room) (va_Pc [.ref (ad 19), .ref (ad 21), .long v2] (PR D cy (GX cy ad tk sp nm tp kp cu se ur ab lo im sy un en ra li i2))) (QR (some (.int q.1)) D (GX cy ad tk sp nm tp kp cu se ur ab q.2 im sy un en ra li i2) (Ac ad 89)) 0 0 (Ac ad 89) :=
  met_of (by decide) (Nat.le_of_ble_eq_true rfl) (fun p e s m below meth c ls C hP hK hN hl => bX5_seek_0 C hI hK hN h hl hP va_S.rf)
def X5_fileNumberOf (lo : Tlo) (en : Ten) (li : Tli) (v2 : Int32) : Int32 := (if 0 < v2 then (((X2_valueOr en (X5_entryOf lo (v2 - (1 : Int32))) (7 : Int32) (0 : Int64))).toInt32) else (if lo.2.2.1 = (-1 : Int32) then (0 : Int32) else (X4_fileOf li lo.2.2.1)))
set_option maxRecDepth 20000 in
theorem bX5_fileNumberOf_0 (C : Cx p s m args meth c cX5_fileNumberOf 3 (some .int) RX5 (.code yX5_fileNumberOf cX5_fileNumberOf 3 (some .int))) (hK : va_K D vwCl (tysX cy) s) (hN : NW s)  {q : Int32}  {v2 : Int32} (h : X5_fileNumberOf lo en li v2 = q) {ls : Array Slot} (hl : lv_has ls 3 [(0, .ref (ad 19)), (1, .ref (ad 21)), (2, .int v2)]) (hP : va_P D vwCl (GX cy ad tk sp nm tp kp cu se ur ab lo im sy un en ra li i2) s.heap) : W p l e ({ frames := 3, cells := 0, slots := 0, locals := 67 } : Room) s m args below meth c s.heap [] 0 0 (MQ below (QP (some (.int q))) args s 0 0 (fun _ => False)) (F0 m 0 ls []) := by
  obtain ⟨hx, hb, hml, hown, hts, hr, hlk⟩ := id C
  unfold X5_fileNumberOf at h
  refine lv_iload_n hx hb dX5_fileNumberOf_0 rfl (lv_at hl 2 rfl) ?_
  refine b_if_le (tgt := 23) hx hb dX5_fileNumberOf_1 (by decide) (fun c1 => ?_) (fun c1 => ?_)
  · rw [if_neg c1] at h
    refine lv_aload_n hx hb dX5_fileNumberOf_23 rfl (lv_at hl 0 rfl) ?_
    refine gX19_2 (v := lo.2.2.1) C hK hP rfl w252 dX5_fileNumberOf_24 ?_
    refine lv_iconst (v := (-1 : Int32)) hx hb dX5_fileNumberOf_27 (by decide) ?_
    refine lv_icmp_ne (tgt := 35) hx hb dX5_fileNumberOf_28 (by decide) (fun c2 => ?_) (fun c2 => ?_)
    · rw [if_neg c2] at h
      refine lv_aload_n hx hb dX5_fileNumberOf_35 rfl (lv_at hl 1 rfl) ?_
      refine gX21_4N C hK hP hN w466 dX5_fileNumberOf_36 ?_
      refine lv_aload_n hx hb dX5_fileNumberOf_39 rfl (lv_at hl 0 rfl) ?_
      refine gX19_2 (v := lo.2.2.1) C hK hP rfl w252 dX5_fileNumberOf_40 ?_
      refine cPi (run_V (rest := []) C (kX4_fileOf rfl) caX4_fileOf w1283 ⟨rfl, rfl, Nat.le_of_ble_eq_true rfl, Nat.le_of_ble_eq_true rfl⟩ hK hN hP (rX48 hK hP) rfl hl.1 rfl (Nat.le_of_ble_eq_true rfl) dX5_fileNumberOf_43 ⟨Nat.zero_le _, Nat.zero_le _⟩) ?_
      obtain rfl := h
      exact W.iret hx hb hr (fun t ht _ => ⟨rfl, ht⟩) (fun _ h9 => by cases h9) dX5_fileNumberOf_46 hlk
    · rw [if_pos c2] at h
      refine lv_iconst (v := (0 : Int32)) hx hb dX5_fileNumberOf_31 (by decide) ?_
      refine lv_goto (tgt := 46) hx hb dX5_fileNumberOf_32 (by decide) ?_
      obtain rfl := h
      exact W.iret hx hb hr (fun t ht _ => ⟨rfl, ht⟩) (fun _ h9 => by cases h9) dX5_fileNumberOf_46 hlk
  · rw [if_pos c1] at h
    refine lv_aload_n hx hb dX5_fileNumberOf_4 rfl (lv_at hl 1 rfl) ?_
    refine gX21_2N C hK hP hN w461 dX5_fileNumberOf_5 ?_
    refine lv_aload_n hx hb dX5_fileNumberOf_8 rfl (lv_at hl 0 rfl) ?_
    refine lv_iload_n hx hb dX5_fileNumberOf_9 rfl (lv_at hl 2 rfl) ?_
    refine lv_iconst (v := (1 : Int32)) hx hb dX5_fileNumberOf_10 (by decide) ?_
    refine lv_isub hx hb dX5_fileNumberOf_11 ?_
    refine cPi (run_V (rest := [.ref (ad 34)]) C (kX5_entryOf rfl) caX5_entryOf w1247 ⟨rfl, rfl, Nat.le_of_ble_eq_true rfl, Nat.le_of_ble_eq_true rfl⟩ hK hN hP (rX19 hK hP) rfl hl.1 rfl (Nat.le_of_ble_eq_true rfl) dX5_fileNumberOf_12 ⟨Nat.zero_le _, Nat.zero_le _⟩) ?_
    refine lv_bipush (v := (7 : Int32)) hx hb dX5_fileNumberOf_15 (by decide) ?_
    refine lv_lconst (v := (0 : Int64)) hx hb dX5_fileNumberOf_17 (by decide) ?_
    refine cPl (run_V (rest := []) C (kX2_valueOr rfl) caX2_valueOr w1282 ⟨rfl, rfl, Nat.le_of_ble_eq_true rfl, Nat.le_of_ble_eq_true rfl⟩ hK hN hP (rX34 hK hP) rfl hl.1 rfl (Nat.le_of_ble_eq_true rfl) dX5_fileNumberOf_18 ⟨Nat.zero_le _, Nat.zero_le _⟩) ?_
    refine lv_l2i (v := (((X2_valueOr en (X5_entryOf lo (v2 - (1 : Int32))) (7 : Int32) (0 : Int64))).toInt32)) hx hb dX5_fileNumberOf_21 rfl ?_
    obtain rfl := h
    exact W.iret hx hb hr (fun t ht _ => ⟨rfl, ht⟩) (fun _ h9 => by cases h9) dX5_fileNumberOf_22 hlk
theorem kX5_fileNumberOf  {v2 : Int32} {q : Int32} (h : X5_fileNumberOf lo en li v2 = q) : Met l yX5_fileNumberOf (.code yX5_fileNumberOf cX5_fileNumberOf 3 (some .int) :: WA) ({ frames := 3, cells := 0, slots := 0, locals := 67 } : Room) (va_Pc [.ref (ad 19), .ref (ad 21), .int v2] (PR D cy (GX cy ad tk sp nm tp kp cu se ur ab lo im sy un en ra li i2))) (QP (some (.int q))) 0 0 (fun _ => False) :=
  met_of (by decide) (Nat.le_of_ble_eq_true rfl) (fun p e s m below meth c ls C hP hK hN hl => bX5_fileNumberOf_0 C hK hN h hl hP)
def X5_lineNumberOf (lo : Tlo) (en : Ten) (li : Tli) (v2 : Int32) : Int32 := (if 0 < v2 then (((X2_valueOr en (X5_entryOf lo (v2 - (1 : Int32))) (8 : Int32) (0 : Int64))).toInt32) else (if lo.2.2.1 = (-1 : Int32) then (0 : Int32) else (X4_lineOf li lo.2.2.1)))
set_option maxRecDepth 20000 in
theorem bX5_lineNumberOf_0 (C : Cx p s m args meth c cX5_lineNumberOf 3 (some .int) RX5 (.code yX5_lineNumberOf cX5_lineNumberOf 3 (some .int))) (hK : va_K D vwCl (tysX cy) s) (hN : NW s)  {q : Int32}  {v2 : Int32} (h : X5_lineNumberOf lo en li v2 = q) {ls : Array Slot} (hl : lv_has ls 3 [(0, .ref (ad 19)), (1, .ref (ad 21)), (2, .int v2)]) (hP : va_P D vwCl (GX cy ad tk sp nm tp kp cu se ur ab lo im sy un en ra li i2) s.heap) : W p l e ({ frames := 3, cells := 0, slots := 0, locals := 67 } : Room) s m args below meth c s.heap [] 0 0 (MQ below (QP (some (.int q))) args s 0 0 (fun _ => False)) (F0 m 0 ls []) := by
  obtain ⟨hx, hb, hml, hown, hts, hr, hlk⟩ := id C
  unfold X5_lineNumberOf at h
  refine lv_iload_n hx hb dX5_lineNumberOf_0 rfl (lv_at hl 2 rfl) ?_
  refine b_if_le (tgt := 23) hx hb dX5_lineNumberOf_1 (by decide) (fun c1 => ?_) (fun c1 => ?_)
  · rw [if_neg c1] at h
    refine lv_aload_n hx hb dX5_lineNumberOf_23 rfl (lv_at hl 0 rfl) ?_
    refine gX19_2 (v := lo.2.2.1) C hK hP rfl w252 dX5_lineNumberOf_24 ?_
    refine lv_iconst (v := (-1 : Int32)) hx hb dX5_lineNumberOf_27 (by decide) ?_
    refine lv_icmp_ne (tgt := 35) hx hb dX5_lineNumberOf_28 (by decide) (fun c2 => ?_) (fun c2 => ?_)
    · rw [if_neg c2] at h
      refine lv_aload_n hx hb dX5_lineNumberOf_35 rfl (lv_at hl 1 rfl) ?_
      refine gX21_4N C hK hP hN w466 dX5_lineNumberOf_36 ?_
      refine lv_aload_n hx hb dX5_lineNumberOf_39 rfl (lv_at hl 0 rfl) ?_
      refine gX19_2 (v := lo.2.2.1) C hK hP rfl w252 dX5_lineNumberOf_40 ?_
      refine cPi (run_V (rest := []) C (kX4_lineOf rfl) caX4_lineOf w1288 ⟨rfl, rfl, Nat.le_of_ble_eq_true rfl, Nat.le_of_ble_eq_true rfl⟩ hK hN hP (rX48 hK hP) rfl hl.1 rfl (Nat.le_of_ble_eq_true rfl) dX5_lineNumberOf_43 ⟨Nat.zero_le _, Nat.zero_le _⟩) ?_
      obtain rfl := h
      exact W.iret hx hb hr (fun t ht _ => ⟨rfl, ht⟩) (fun _ h9 => by cases h9) dX5_lineNumberOf_46 hlk
    · rw [if_pos c2] at h
      refine lv_iconst (v := (0 : Int32)) hx hb dX5_lineNumberOf_31 (by decide) ?_
      refine lv_goto (tgt := 46) hx hb dX5_lineNumberOf_32 (by decide) ?_
      obtain rfl := h
      exact W.iret hx hb hr (fun t ht _ => ⟨rfl, ht⟩) (fun _ h9 => by cases h9) dX5_lineNumberOf_46 hlk
  · rw [if_pos c1] at h
    refine lv_aload_n hx hb dX5_lineNumberOf_4 rfl (lv_at hl 1 rfl) ?_
    refine gX21_2N C hK hP hN w461 dX5_lineNumberOf_5 ?_
    refine lv_aload_n hx hb dX5_lineNumberOf_8 rfl (lv_at hl 0 rfl) ?_
    refine lv_iload_n hx hb dX5_lineNumberOf_9 rfl (lv_at hl 2 rfl) ?_
    refine lv_iconst (v := (1 : Int32)) hx hb dX5_lineNumberOf_10 (by decide) ?_
    refine lv_isub hx hb dX5_lineNumberOf_11 ?_
    refine cPi (run_V (rest := [.ref (ad 34)]) C (kX5_entryOf rfl) caX5_entryOf w1247 ⟨rfl, rfl, Nat.le_of_ble_eq_true rfl, Nat.le_of_ble_eq_true rfl⟩ hK hN hP (rX19 hK hP) rfl hl.1 rfl (Nat.le_of_ble_eq_true rfl) dX5_lineNumberOf_12 ⟨Nat.zero_le _, Nat.zero_le _⟩) ?_
    refine lv_bipush (v := (8 : Int32)) hx hb dX5_lineNumberOf_15 (by decide) ?_
    refine lv_lconst (v := (0 : Int64)) hx hb dX5_lineNumberOf_17 (by decide) ?_
    refine cPl (run_V (rest := []) C (kX2_valueOr rfl) caX2_valueOr w1282 ⟨rfl, rfl, Nat.le_of_ble_eq_true rfl, Nat.le_of_ble_eq_true rfl⟩ hK hN hP (rX34 hK hP) rfl hl.1 rfl (Nat.le_of_ble_eq_true rfl) dX5_lineNumberOf_18 ⟨Nat.zero_le _, Nat.zero_le _⟩) ?_
    refine lv_l2i (v := (((X2_valueOr en (X5_entryOf lo (v2 - (1 : Int32))) (8 : Int32) (0 : Int64))).toInt32)) hx hb dX5_lineNumberOf_21 rfl ?_
    obtain rfl := h
    exact W.iret hx hb hr (fun t ht _ => ⟨rfl, ht⟩) (fun _ h9 => by cases h9) dX5_lineNumberOf_22 hlk
theorem kX5_lineNumberOf  {v2 : Int32} {q : Int32} (h : X5_lineNumberOf lo en li v2 = q) : Met l yX5_lineNumberOf (.code yX5_lineNumberOf cX5_lineNumberOf 3 (some .int) :: WA) ({ frames := 3, cells := 0, slots := 0, locals := 67 } : Room) (va_Pc [.ref (ad 19), .ref (ad 21), .int v2] (PR D cy (GX cy ad tk sp nm tp kp cu se ur ab lo im sy un en ra li i2))) (QP (some (.int q))) 0 0 (fun _ => False) :=
  met_of (by decide) (Nat.le_of_ble_eq_true rfl) (fun p e s m below meth c ls C hP hK hN hl => bX5_lineNumberOf_0 C hK hN h hl hP)
def X10_fileOf (un : Tun) (v1 : Int32) (v2 : Int32) : Int32 := (if v1 < 0 then (-1 : Int32) else (if v1 < un.2.2.2.2.2.2.1 then (if v2 < 0 then (-1 : Int32) else (if v2 < (at_i 20 un.2.2.2.1 v1) then ((at_i 20 un.2.2.1 v1) + v2) else (-1 : Int32))) else (-1 : Int32)))
set_option maxRecDepth 20000 in
theorem bX10_fileOf_0 (C : Cx p s m args meth c cX10_fileOf 3 (some .int) RX10 (.code yX10_fileOf cX10_fileOf 3 (some .int))) (hK : va_K D vwCl (tysX cy) s) (hN : NW s)  {q : Int32}  {v1 : Int32} {v2 : Int32} (h : X10_fileOf un v1 v2 = q) {ls : Array Slot} (hl : lv_has ls 3 [(0, .ref (ad 27)), (1, .int v1), (2, .int v2)]) (hP : va_P D vwCl (GX cy ad tk sp nm tp kp cu se ur ab lo im sy un en ra li i2) s.heap) : W p l e ({ frames := 1, cells := 0, slots := 0, locals := 21 } : Room) s m args below meth c s.heap [] 0 0 (MQ below (QP (some (.int q))) args s 0 0 (fun _ => False)) (F0 m 0 ls []) := by
  obtain ⟨hx, hb, hml, hown, hts, hr, hlk⟩ := id C
  unfold X10_fileOf at h
  refine lv_iload_n hx hb dX10_fileOf_0 rfl (lv_at hl 1 rfl) ?_
  refine lv_if_lt (tgt := 28) hx hb dX10_fileOf_1 (by decide) (fun c1 => ?_) (fun c1 => ?_)
  · rw [if_pos c1] at h
    refine lv_iconst (v := (-1 : Int32)) hx hb dX10_fileOf_28 (by decide) ?_
    obtain rfl := h
    exact W.iret hx hb hr (fun t ht _ => ⟨rfl, ht⟩) (fun _ h9 => by cases h9) dX10_fileOf_29 hlk
  · rw [if_neg c1] at h
    refine lv_iload_n hx hb dX10_fileOf_4 rfl (lv_at hl 1 rfl) ?_
    refine lv_aload_n hx hb dX10_fileOf_5 rfl (lv_at hl 0 rfl) ?_
    refine gX27_6 (v := un.2.2.2.2.2.2.1) C hK hP rfl w306 dX10_fileOf_6 ?_
    refine b_icmp_ge (tgt := 28) hx hb dX10_fileOf_9 (by decide) (fun c2 => ?_) (fun c2 => ?_)
    · rw [if_neg c2] at h
      refine lv_iconst (v := (-1 : Int32)) hx hb dX10_fileOf_28 (by decide) ?_
      obtain rfl := h
      exact W.iret hx hb hr (fun t ht _ => ⟨rfl, ht⟩) (fun _ h9 => by cases h9) dX10_fileOf_29 hlk
    · rw [if_pos c2] at h
      refine lv_iload_n hx hb dX10_fileOf_12 rfl (lv_at hl 2 rfl) ?_
      refine lv_if_lt (tgt := 28) hx hb dX10_fileOf_13 (by decide) (fun c3 => ?_) (fun c3 => ?_)
      · rw [if_pos c3] at h
        refine lv_iconst (v := (-1 : Int32)) hx hb dX10_fileOf_28 (by decide) ?_
        obtain rfl := h
        exact W.iret hx hb hr (fun t ht _ => ⟨rfl, ht⟩) (fun _ h9 => by cases h9) dX10_fileOf_29 hlk
      · rw [if_neg c3] at h
        refine lv_iload_n hx hb dX10_fileOf_16 rfl (lv_at hl 2 rfl) ?_
        refine lv_aload_n hx hb dX10_fileOf_17 rfl (lv_at hl 0 rfl) ?_
        refine gX27_3 C hK hP w303 dX10_fileOf_18 ?_
        refine lv_iload_n hx hb dX10_fileOf_21 rfl (lv_at hl 1 rfl) ?_
        refine xat_i (rest := [.int v2]) C hK hN hP eX31 (Nat.le_of_ble_eq_true rfl) w963 hl.1 (Nat.le_of_ble_eq_true rfl) dX10_fileOf_22 ⟨Nat.le_of_ble_eq_true rfl, Nat.le_of_ble_eq_true rfl⟩ ⟨Nat.zero_le _, Nat.zero_le _⟩ ?_
        refine lv_icmp_lt (tgt := 30) hx hb dX10_fileOf_25 (by decide) (fun c4 => ?_) (fun c4 => ?_)
        · rw [if_pos c4] at h
          refine lv_aload_n hx hb dX10_fileOf_30 rfl (lv_at hl 0 rfl) ?_
          refine gX27_2 C hK hP w302 dX10_fileOf_31 ?_
          refine lv_iload_n hx hb dX10_fileOf_34 rfl (lv_at hl 1 rfl) ?_
          refine xat_i (rest := []) C hK hN hP eX30 (Nat.le_of_ble_eq_true rfl) w963 hl.1 (Nat.le_of_ble_eq_true rfl) dX10_fileOf_35 ⟨Nat.le_of_ble_eq_true rfl, Nat.le_of_ble_eq_true rfl⟩ ⟨Nat.zero_le _, Nat.zero_le _⟩ ?_
          refine lv_iload_n hx hb dX10_fileOf_38 rfl (lv_at hl 2 rfl) ?_
          refine lv_iadd hx hb dX10_fileOf_39 ?_
          obtain rfl := h
          exact W.iret hx hb hr (fun t ht _ => ⟨rfl, ht⟩) (fun _ h9 => by cases h9) dX10_fileOf_40 hlk
        · rw [if_neg c4] at h
          refine lv_iconst (v := (-1 : Int32)) hx hb dX10_fileOf_28 (by decide) ?_
          obtain rfl := h
          exact W.iret hx hb hr (fun t ht _ => ⟨rfl, ht⟩) (fun _ h9 => by cases h9) dX10_fileOf_29 hlk
theorem kX10_fileOf  {v1 : Int32} {v2 : Int32} {q : Int32} (h : X10_fileOf un v1 v2 = q) : Met l yX10_fileOf (.code yX10_fileOf cX10_fileOf 3 (some .int) :: WA) ({ frames := 1, cells := 0, slots := 0, locals := 21 } : Room) (va_Pc [.ref (ad 27), .int v1, .int v2] (PR D cy (GX cy ad tk sp nm tp kp cu se ur ab lo im sy un en ra li i2))) (QP (some (.int q))) 0 0 (fun _ => False) :=
  met_of (by decide) (Nat.le_of_ble_eq_true rfl) (fun p e s m below meth c ls C hP hK hN hl => bX10_fileOf_0 C hK hN h hl hP)
def X5_fileOf (lo : Tlo) (un : Tun) (en : Ten) (li : Tli) (v2 : Int32) : Int32 := (if (X5_entryOf lo v2) = (-1 : Int32) then (-1 : Int32) else (X10_fileOf un (X2_unitOf en (X5_entryOf lo v2)) (X5_fileNumberOf lo en li v2)))
set_option maxRecDepth 20000 in
theorem bX5_fileOf_0 (C : Cx p s m args meth c cX5_fileOf 4 (some .int) RX5 (.code yX5_fileOf cX5_fileOf 4 (some .int))) (hK : va_K D vwCl (tysX cy) s) (hN : NW s)  {q : Int32}  {v2 : Int32} (h : X5_fileOf lo un en li v2 = q) {ls : Array Slot} (hl : lv_has ls 4 [(0, .ref (ad 19)), (1, .ref (ad 21)), (2, .int v2)]) (hP : va_P D vwCl (GX cy ad tk sp nm tp kp cu se ur ab lo im sy un en ra li i2) s.heap) : W p l e ({ frames := 4, cells := 0, slots := 0, locals := 89 } : Room) s m args below meth c s.heap [] 0 0 (MQ below (QP (some (.int q))) args s 0 0 (fun _ => False)) (F0 m 0 ls []) := by
  obtain ⟨hx, hb, hml, hown, hts, hr, hlk⟩ := id C
  unfold X5_fileOf at h
  refine lv_aload_n hx hb dX5_fileOf_0 rfl (lv_at hl 0 rfl) ?_
  refine lv_iload_n hx hb dX5_fileOf_1 rfl (lv_at hl 2 rfl) ?_
  refine cPi (run_V (rest := []) C (kX5_entryOf rfl) caX5_entryOf w1247 ⟨rfl, rfl, Nat.le_of_ble_eq_true rfl, Nat.le_of_ble_eq_true rfl⟩ hK hN hP (rX19 hK hP) rfl hl.1 rfl (Nat.le_of_ble_eq_true rfl) dX5_fileOf_2 ⟨Nat.zero_le _, Nat.zero_le _⟩) ?_
  refine lv_istore_n (lv' := [(3, .int (X5_entryOf lo v2)), (0, .ref (ad 19)), (1, .ref (ad 21)), (2, .int v2)]) hx hb dX5_fileOf_5 rfl hl (by decide) rfl (fun ls hl => ?_)
  refine lv_iload_n hx hb dX5_fileOf_6 rfl (lv_at hl 0 rfl) ?_
  refine lv_iconst (v := (-1 : Int32)) hx hb dX5_fileOf_7 (by decide) ?_
  refine lv_icmp_ne (tgt := 13) hx hb dX5_fileOf_8 (by decide) (fun c1 => ?_) (fun c1 => ?_)
  · rw [if_neg c1] at h
    refine lv_aload_n hx hb dX5_fileOf_13 rfl (lv_at hl 2 rfl) ?_
    refine gX21_1N C hK hP hN w455 dX5_fileOf_14 ?_
    refine lv_aload_n hx hb dX5_fileOf_17 rfl (lv_at hl 2 rfl) ?_
    refine gX21_2N C hK hP hN w461 dX5_fileOf_18 ?_
    refine lv_iload_n hx hb dX5_fileOf_21 rfl (lv_at hl 0 rfl) ?_
    refine cPi (run_V (rest := [.ref (ad 27)]) C (kX2_unitOf rfl) caX2_unitOf w1252 ⟨rfl, rfl, Nat.le_of_ble_eq_true rfl, Nat.le_of_ble_eq_true rfl⟩ hK hN hP (rX34 hK hP) rfl hl.1 rfl (Nat.le_of_ble_eq_true rfl) dX5_fileOf_22 ⟨Nat.zero_le _, Nat.zero_le _⟩) ?_
    refine lv_aload_n hx hb dX5_fileOf_25 rfl (lv_at hl 1 rfl) ?_
    refine lv_aload_n hx hb dX5_fileOf_26 rfl (lv_at hl 2 rfl) ?_
    refine lv_iload_n hx hb dX5_fileOf_27 rfl (lv_at hl 3 rfl) ?_
    refine cPi (run_V (rest := [.int (X2_unitOf en (X5_entryOf lo v2)), .ref (ad 27)]) C (kX5_fileNumberOf rfl) caX5_fileNumberOf w1293 ⟨rfl, rfl, Nat.le_of_ble_eq_true rfl, Nat.le_of_ble_eq_true rfl⟩ hK hN hP (rX19 hK hP) rfl hl.1 rfl (Nat.le_of_ble_eq_true rfl) dX5_fileOf_28 ⟨Nat.zero_le _, Nat.zero_le _⟩) ?_
    refine cPi (run_V (rest := []) C (kX10_fileOf rfl) caX10_fileOf w1294 ⟨rfl, rfl, Nat.le_of_ble_eq_true rfl, Nat.le_of_ble_eq_true rfl⟩ hK hN hP (rX27 hK hP) rfl hl.1 rfl (Nat.le_of_ble_eq_true rfl) dX5_fileOf_31 ⟨Nat.zero_le _, Nat.zero_le _⟩) ?_
    obtain rfl := h
    exact W.iret hx hb hr (fun t ht _ => ⟨rfl, ht⟩) (fun _ h9 => by cases h9) dX5_fileOf_34 hlk
  · rw [if_pos c1] at h
    refine lv_iconst (v := (-1 : Int32)) hx hb dX5_fileOf_11 (by decide) ?_
    obtain rfl := h
    exact W.iret hx hb hr (fun t ht _ => ⟨rfl, ht⟩) (fun _ h9 => by cases h9) dX5_fileOf_12 hlk
theorem kX5_fileOf  {v2 : Int32} {q : Int32} (h : X5_fileOf lo un en li v2 = q) : Met l yX5_fileOf (.code yX5_fileOf cX5_fileOf 4 (some .int) :: WA) ({ frames := 4, cells := 0, slots := 0, locals := 89 } : Room) (va_Pc [.ref (ad 19), .ref (ad 21), .int v2] (PR D cy (GX cy ad tk sp nm tp kp cu se ur ab lo im sy un en ra li i2))) (QP (some (.int q))) 0 0 (fun _ => False) :=
  met_of (by decide) (Nat.le_of_ble_eq_true rfl) (fun p e s m below meth c ls C hP hK hN hl => bX5_fileOf_0 C hK hN h hl hP)
def X5_symbolFound (lo : Tlo)  : Int32 := lo.2.2.2.1
set_option maxRecDepth 20000 in
theorem bX5_symbolFound_0 (C : Cx p s m args meth c cX5_symbolFound 1 (some .int) RX5 (.code yX5_symbolFound cX5_symbolFound 1 (some .int))) (hK : va_K D vwCl (tysX cy) s) (hN : NW s)  {q : Int32}   (h : X5_symbolFound lo = q) {ls : Array Slot} (hl : lv_has ls 1 [(0, .ref (ad 19))]) (hP : va_P D vwCl (GX cy ad tk sp nm tp kp cu se ur ab lo im sy un en ra li i2) s.heap) : W p l e ({ frames := 0, cells := 0, slots := 0, locals := 0 } : Room) s m args below meth c s.heap [] 0 0 (MQ below (QP (some (.int q))) args s 0 0 (fun _ => False)) (F0 m 0 ls []) := by
  obtain ⟨hx, hb, hml, hown, hts, hr, hlk⟩ := id C
  unfold X5_symbolFound at h
  refine lv_aload_n hx hb dX5_symbolFound_0 rfl (lv_at hl 0 rfl) ?_
  refine gX19_3 (v := lo.2.2.2.1) C hK hP rfl w253 dX5_symbolFound_1 ?_
  obtain rfl := h
  exact W.iret hx hb hr (fun t ht _ => ⟨rfl, ht⟩) (fun _ h9 => by cases h9) dX5_symbolFound_4 hlk
theorem kX5_symbolFound   {q : Int32} (h : X5_symbolFound lo = q) : Met l yX5_symbolFound (.code yX5_symbolFound cX5_symbolFound 1 (some .int) :: WA) ({ frames := 0, cells := 0, slots := 0, locals := 0 } : Room) (va_Pc [.ref (ad 19)] (PR D cy (GX cy ad tk sp nm tp kp cu se ur ab lo im sy un en ra li i2))) (QP (some (.int q))) 0 0 (fun _ => False) :=
  met_of (by decide) (Nat.le_of_ble_eq_true rfl) (fun p e s m below meth c ls C hP hK hN hl => bX5_symbolFound_0 C hK hN h hl hP)
def X5_aboveSymbol (lo : Tlo)  : Int32 := lo.2.2.2.2
set_option maxRecDepth 20000 in
theorem bX5_aboveSymbol_0 (C : Cx p s m args meth c cX5_aboveSymbol 1 (some .int) RX5 (.code yX5_aboveSymbol cX5_aboveSymbol 1 (some .int))) (hK : va_K D vwCl (tysX cy) s) (hN : NW s)  {q : Int32}   (h : X5_aboveSymbol lo = q) {ls : Array Slot} (hl : lv_has ls 1 [(0, .ref (ad 19))]) (hP : va_P D vwCl (GX cy ad tk sp nm tp kp cu se ur ab lo im sy un en ra li i2) s.heap) : W p l e ({ frames := 0, cells := 0, slots := 0, locals := 0 } : Room) s m args below meth c s.heap [] 0 0 (MQ below (QP (some (.int q))) args s 0 0 (fun _ => False)) (F0 m 0 ls []) := by
  obtain ⟨hx, hb, hml, hown, hts, hr, hlk⟩ := id C
  unfold X5_aboveSymbol at h
  refine lv_aload_n hx hb dX5_aboveSymbol_0 rfl (lv_at hl 0 rfl) ?_
  refine gX19_4 (v := lo.2.2.2.2) C hK hP rfl w254 dX5_aboveSymbol_1 ?_
  obtain rfl := h
  exact W.iret hx hb hr (fun t ht _ => ⟨rfl, ht⟩) (fun _ h9 => by cases h9) dX5_aboveSymbol_4 hlk
theorem kX5_aboveSymbol   {q : Int32} (h : X5_aboveSymbol lo = q) : Met l yX5_aboveSymbol (.code yX5_aboveSymbol cX5_aboveSymbol 1 (some .int) :: WA) ({ frames := 0, cells := 0, slots := 0, locals := 0 } : Room) (va_Pc [.ref (ad 19)] (PR D cy (GX cy ad tk sp nm tp kp cu se ur ab lo im sy un en ra li i2))) (QP (some (.int q))) 0 0 (fun _ => False) :=
  met_of (by decide) (Nat.le_of_ble_eq_true rfl) (fun p e s m below meth c ls C hP hK hN hl => bX5_aboveSymbol_0 C hK hN h hl hP)
def X11_above  (v0 : Int64) (v2 : Int64) : Int64 := (if (v0 + v2) < v0 then (-1 : Int64) else (v0 + v2))
set_option maxRecDepth 20000 in
theorem bX11_above_0 (C : Cx p s m args meth c cX11_above 6 (some .long) RX11 (.code yX11_above cX11_above 6 (some .long))) (hK : va_K D vwCl (tysX cy) s) (hN : NW s)  {q : Int64}  {v0 : Int64} {v2 : Int64} (h : X11_above v0 v2 = q) {ls : Array Slot} (hl : lv_has ls 6 [(0, .long v0), (2, .long v2)]) (hP : va_P D vwCl (GX cy ad tk sp nm tp kp cu se ur ab lo im sy un en ra li i2) s.heap) : W p l e ({ frames := 0, cells := 0, slots := 0, locals := 0 } : Room) s m args below meth c s.heap [] 0 0 (MQ below (QP (some (.long q))) args s 0 0 (fun _ => False)) (F0 m 0 ls []) := by
  obtain ⟨hx, hb, hml, hown, hts, hr, hlk⟩ := id C
  unfold X11_above at h
  refine lv_lload_n hx hb dX11_above_0 rfl (lv_at hl 0 rfl) ?_
  refine lv_lload_n hx hb dX11_above_1 rfl (lv_at hl 1 rfl) ?_
  refine lv_ladd hx hb dX11_above_2 ?_
  refine lv_lstore (lv' := [(4, .long (v0 + v2)), (0, .long v0), (2, .long v2)]) hx hb dX11_above_3 hl (by decide) rfl (fun ls hl => ?_)
  refine lv_lload hx hb dX11_above_5 (lv_at hl 0 rfl) ?_
  refine lv_lload_n hx hb dX11_above_7 rfl (lv_at hl 1 rfl) ?_
  refine lc_ge (tgt := 18) hx hb dX11_above_8 dX11_above_9 (by decide) (fun c1 => ?_) (fun c1 => ?_)
  · rw [if_neg c1] at h
    refine lv_lload hx hb dX11_above_18 (lv_at hl 0 rfl) ?_
    obtain rfl := h
    exact W.lret hx hb hr (fun t ht _ => ⟨rfl, ht⟩) (fun _ h9 => by cases h9) dX11_above_20 hlk
  · rw [if_pos c1] at h
    refine lv_ldc2 (v := (-1 : Int64)) hx hb hown (hts _ (List.mem_cons_of_mem _ w782)) dX11_above_12 ?_
    refine lv_goto (tgt := 20) hx hb dX11_above_15 (by decide) ?_
    obtain rfl := h
    exact W.lret hx hb hr (fun t ht _ => ⟨rfl, ht⟩) (fun _ h9 => by cases h9) dX11_above_20 hlk
theorem kX11_above  {v0 : Int64} {v2 : Int64} {q : Int64} (h : X11_above v0 v2 = q) : Met l yX11_above (.code yX11_above cX11_above 6 (some .long) :: WA) ({ frames := 0, cells := 0, slots := 0, locals := 0 } : Room) (va_Pc [.long v0, .long v2] (PR D cy (GX cy ad tk sp nm tp kp cu se ur ab lo im sy un en ra li i2))) (QP (some (.long q))) 0 0 (fun _ => False) :=
  met_of (by decide) (Nat.le_of_ble_eq_true rfl) (fun p e s m below meth c ls C hP hK hN hl => bX11_above_0 C hK hN h hl hP)
def X6_add_37   (cu : Tcu) (ra : Tra) (v2 : Int64) (v4 : Int64) : Tcu × Tra := (if (X1_sound cu) = 0 then (cu, ra) else (cu, ((put_l 200 ra.1 ra.2.2.1 v2), (put_l 200 ra.2.1 ra.2.2.1 v4), (ra.2.2.1 + (1 : Int32)), ra.2.2.2)))
set_option maxRecDepth 20000 in
theorem bX6_add_37 (C : Cx p s m args meth c cX6_add 7 none RX6 (.code yX6_add cX6_add 7 none)) (hI : Apart ad 89) (hK : va_K D vwCl (tysX cy) s) (hN : NW s)  {q : Tcu × Tra}  {v2 : Int64} {v4 : Int64} (h : X6_add_37 cu ra v2 v4 = q) {ls : Array Slot} (hl : lv_has ls 7 [(0, .ref (ad 45)), (1, .ref (ad 3)), (2, .long v2), (4, .long v4)]) {H : Heap} {locs : List Loc} (hP : va_P D vwCl (GX cy ad tk sp nm tp kp cu se ur ab lo im sy un en ra li i2) H) (hS : va_S (Ac ad 89) s.heap H locs) : W p l e ({ frames := 1, cells := 0, slots := 0, locals := 23 } : Room) s m args below meth c H locs 0 0 (MQ below (QR none D (GX cy ad tk sp nm tp kp q.1 se ur ab lo im sy un en q.2 li i2) (Ac ad 89)) args s 0 0 (Ac ad 89)) (F0 m 37 ls []) := by
  obtain ⟨hx, hb, hml, hown, hts, hr, hlk⟩ := id C
  unfold X6_add_37 at h
  refine lv_aload_n hx hb dX6_add_37 rfl (lv_at hl 1 rfl) ?_
  refine cPi (run_V (rest := []) C (kX1_sound rfl) caX1_sound w942 ⟨rfl, rfl, Nat.le_of_ble_eq_true rfl, Nat.le_of_ble_eq_true rfl⟩ hK hN hP (rX3 hK hP) rfl hl.1 rfl (Nat.le_of_ble_eq_true rfl) dX6_add_38 ⟨Nat.zero_le _, Nat.zero_le _⟩) ?_
  refine lv_if_ne (tgt := 45) hx hb dX6_add_41 (by decide) (fun c1 => ?_) (fun c1 => ?_)
  · rw [if_neg c1] at h
    refine lv_aload_n hx hb dX6_add_45 rfl (lv_at hl 0 rfl) ?_
    refine gX45_0 C hK hP w371 dX6_add_46 ?_
    refine lv_aload_n hx hb dX6_add_49 rfl (lv_at hl 0 rfl) ?_
    refine gX45_2 (v := ra.2.2.1) C hK hP rfl w373 dX6_add_50 ?_
    refine lv_lload_n hx hb dX6_add_53 rfl (lv_at hl 2 rfl) ?_
    refine xput_l (rest := []) C hK hN hP (GX_D hI) hS eX46 (Nat.le_of_ble_eq_true rfl) w951 hl.1 (Nat.le_of_ble_eq_true rfl) dX6_add_54 ⟨Nat.le_of_ble_eq_true rfl, Nat.le_of_ble_eq_true rfl⟩ ⟨Nat.zero_le _, Nat.zero_le _⟩ (fun H locs hP hS => ?_)
    have hP : va_P D vwCl (GX cy ad tk sp nm tp kp cu se ur ab lo im sy un en ((put_l 200 ra.1 ra.2.2.1 v2), ra.2.1, ra.2.2.1, ra.2.2.2) li i2) H := hP
    refine lv_aload_n hx hb dX6_add_57 rfl (lv_at hl 0 rfl) ?_
    refine gX45_1 C hK hP w372 dX6_add_58 ?_
    refine lv_aload_n hx hb dX6_add_61 rfl (lv_at hl 0 rfl) ?_
    refine gX45_2 (v := ra.2.2.1) C hK hP rfl w373 dX6_add_62 ?_
    refine lv_lload hx hb dX6_add_65 (lv_at hl 3 rfl) ?_
    refine xput_l (rest := []) C hK hN hP (GX_D hI) hS eX47 (Nat.le_of_ble_eq_true rfl) w951 hl.1 (Nat.le_of_ble_eq_true rfl) dX6_add_67 ⟨Nat.le_of_ble_eq_true rfl, Nat.le_of_ble_eq_true rfl⟩ ⟨Nat.zero_le _, Nat.zero_le _⟩ (fun H locs hP hS => ?_)
    have hP : va_P D vwCl (GX cy ad tk sp nm tp kp cu se ur ab lo im sy un en ((put_l 200 ra.1 ra.2.2.1 v2), (put_l 200 ra.2.1 ra.2.2.1 v4), ra.2.2.1, ra.2.2.2) li i2) H := hP
    refine lv_aload_n hx hb dX6_add_70 rfl (lv_at hl 0 rfl) ?_
    refine lv_dup hx hb dX6_add_71 rfl ?_
    refine gX45_2 (v := ra.2.2.1) C hK hP rfl w373 dX6_add_72 ?_
    refine lv_iconst (v := (1 : Int32)) hx hb dX6_add_75 (by decide) ?_
    refine lv_iadd hx hb dX6_add_76 ?_
    refine pX45_2 (v := (ra.2.2.1 + (1 : Int32))) C hI hK hP hS w373 dX6_add_77 (fun H locs hP hS => ?_)
    have hP : va_P D vwCl (GX cy ad tk sp nm tp kp cu se ur ab lo im sy un en ((put_l 200 ra.1 ra.2.2.1 v2), (put_l 200 ra.2.1 ra.2.2.1 v4), (ra.2.2.1 + (1 : Int32)), ra.2.2.2) li i2) H := hP
    obtain rfl := h
    exact W.vret hx hb hr (fun t ht _ => ⟨rfl, by rw [ht]; exact hP, hS.F ht⟩) hS.2.2 dX6_add_80 hlk
  · rw [if_pos c1] at h
    obtain rfl := h
    exact W.vret hx hb hr (fun t ht _ => ⟨rfl, by rw [ht]; exact hP, hS.F ht⟩) hS.2.2 dX6_add_44 hlk
def X6_add_20   (cu : Tcu) (ra : Tra) (v2 : Int64) (v4 : Int64) (v6 : Int32) : Tcu × Tra := (if ra.2.2.1 < (200 : Int32) then X6_add_37 cu ra v2 v4 else (letq (X1_refuse cu (4 : Int32) v6) fun q2 => X6_add_37 q2 ra v2 v4))
set_option maxRecDepth 20000 in
theorem bX6_add_20 (C : Cx p s m args meth c cX6_add 7 none RX6 (.code yX6_add cX6_add 7 none)) (hI : Apart ad 89) (hK : va_K D vwCl (tysX cy) s) (hN : NW s)  {q : Tcu × Tra}  {v2 : Int64} {v4 : Int64} {v6 : Int32} (h : X6_add_20 cu ra v2 v4 v6 = q) {ls : Array Slot} (hl : lv_has ls 7 [(0, .ref (ad 45)), (1, .ref (ad 3)), (2, .long v2), (4, .long v4), (6, .int v6)]) {H : Heap} {locs : List Loc} (hP : va_P D vwCl (GX cy ad tk sp nm tp kp cu se ur ab lo im sy un en ra li i2) H) (hS : va_S (Ac ad 89) s.heap H locs) : W p l e ({ frames := 1, cells := 0, slots := 0, locals := 23 } : Room) s m args below meth c H locs 0 0 (MQ below (QR none D (GX cy ad tk sp nm tp kp q.1 se ur ab lo im sy un en q.2 li i2) (Ac ad 89)) args s 0 0 (Ac ad 89)) (F0 m 20 ls []) := by
  obtain ⟨hx, hb, hml, hown, hts, hr, hlk⟩ := id C
  unfold X6_add_20 at h
  refine lv_aload_n hx hb dX6_add_20 rfl (lv_at hl 0 rfl) ?_
  refine gX45_2 (v := ra.2.2.1) C hK hP rfl w373 dX6_add_21 ?_
  refine lv_sipush (v := (200 : Int32)) hx hb dX6_add_24 (by decide) ?_
  refine lv_icmp_lt (tgt := 37) hx hb dX6_add_27 (by decide) (fun c1 => ?_) (fun c1 => ?_)
  · rw [if_pos c1] at h
    exact bX6_add_37 C hI hK hN h (lv_sub hl [0, 1, 2, 3] rfl) hP hS
  · rw [if_neg c1] at h
    refine lv_aload_n hx hb dX6_add_30 rfl (lv_at hl 1 rfl) ?_
    refine lv_iconst (v := (4 : Int32)) hx hb dX6_add_31 (by decide) ?_
    refine lv_iload hx hb dX6_add_32 (lv_at hl 4 rfl) ?_
    obtain ⟨q2, h3, h⟩ := lets h
    refine cRv (run_V (rest := []) C (kX1_refuse hI h3) caX1_refuse w950 ⟨rfl, rfl, Nat.le_of_ble_eq_true rfl, Nat.le_of_ble_eq_true rfl⟩ hK hN hP (rX3 hK hP) rfl hl.1 rfl (Nat.le_of_ble_eq_true rfl) dX6_add_34 ⟨Nat.zero_le _, Nat.zero_le _⟩) hS (fun H locs hP hS => ?_)
    have hP : va_P D vwCl (GX cy ad tk sp nm tp kp q2 se ur ab lo im sy un en ra li i2) H := hP
    exact bX6_add_37 C hI hK hN h (lv_sub hl [0, 1, 2, 3] rfl) hP hS
def X6_add_13   (cu : Tcu) (ra : Tra) (v2 : Int64) (v4 : Int64) (v6 : Int32) : Tcu × Tra := (letq (X1_refuse cu (2 : Int32) v6) fun q1 => X6_add_20 q1 ra v2 v4 v6)
set_option maxRecDepth 20000 in
theorem bX6_add_13 (C : Cx p s m args meth c cX6_add 7 none RX6 (.code yX6_add cX6_add 7 none)) (hI : Apart ad 89) (hK : va_K D vwCl (tysX cy) s) (hN : NW s)  {q : Tcu × Tra}  {v2 : Int64} {v4 : Int64} {v6 : Int32} (h : X6_add_13 cu ra v2 v4 v6 = q) {ls : Array Slot} (hl : lv_has ls 7 [(0, .ref (ad 45)), (1, .ref (ad 3)), (2, .long v2), (4, .long v4), (6, .int v6)]) {H : Heap} {locs : List Loc} (hP : va_P D vwCl (GX cy ad tk sp nm tp kp cu se ur ab lo im sy un en ra li i2) H) (hS : va_S (Ac ad 89) s.heap H locs) : W p l e ({ frames := 1, cells := 0, slots := 0, locals := 23 } : Room) s m args below meth c H locs 0 0 (MQ below (QR none D (GX cy ad tk sp nm tp kp q.1 se ur ab lo im sy un en q.2 li i2) (Ac ad 89)) args s 0 0 (Ac ad 89)) (F0 m 13 ls []) := by
  obtain ⟨hx, hb, hml, hown, hts, hr, hlk⟩ := id C
  unfold X6_add_13 at h
  refine lv_aload_n hx hb dX6_add_13 rfl (lv_at hl 1 rfl) ?_
  refine lv_iconst (v := (2 : Int32)) hx hb dX6_add_14 (by decide) ?_
  refine lv_iload hx hb dX6_add_15 (lv_at hl 4 rfl) ?_
  obtain ⟨q1, h2, h⟩ := lets h
  refine cRv (run_V (rest := []) C (kX1_refuse hI h2) caX1_refuse w950 ⟨rfl, rfl, Nat.le_of_ble_eq_true rfl, Nat.le_of_ble_eq_true rfl⟩ hK hN hP (rX3 hK hP) rfl hl.1 rfl (Nat.le_of_ble_eq_true rfl) dX6_add_17 ⟨Nat.zero_le _, Nat.zero_le _⟩) hS (fun H locs hP hS => ?_)
  have hP : va_P D vwCl (GX cy ad tk sp nm tp kp q1 se ur ab lo im sy un en ra li i2) H := hP
  exact bX6_add_20 C hI hK hN h (lv_sub hl [0, 1, 2, 3, 4] rfl) hP hS
def X6_add (cu : Tcu) (ra : Tra) (v2 : Int64) (v4 : Int64) (v6 : Int32) : Tcu × Tra := (if v2 < (0 : Int64) then X6_add_13 cu ra v2 v4 v6 else (if v4 < v2 then X6_add_13 cu ra v2 v4 v6 else X6_add_20 cu ra v2 v4 v6))
set_option maxRecDepth 20000 in
theorem bX6_add_0 (C : Cx p s m args meth c cX6_add 7 none RX6 (.code yX6_add cX6_add 7 none)) (hI : Apart ad 89) (hK : va_K D vwCl (tysX cy) s) (hN : NW s)  {q : Tcu × Tra}  {v2 : Int64} {v4 : Int64} {v6 : Int32} (h : X6_add cu ra v2 v4 v6 = q) {ls : Array Slot} (hl : lv_has ls 7 [(0, .ref (ad 45)), (1, .ref (ad 3)), (2, .long v2), (4, .long v4), (6, .int v6)]) {H : Heap} {locs : List Loc} (hP : va_P D vwCl (GX cy ad tk sp nm tp kp cu se ur ab lo im sy un en ra li i2) H) (hS : va_S (Ac ad 89) s.heap H locs) : W p l e ({ frames := 1, cells := 0, slots := 0, locals := 23 } : Room) s m args below meth c H locs 0 0 (MQ below (QR none D (GX cy ad tk sp nm tp kp q.1 se ur ab lo im sy un en q.2 li i2) (Ac ad 89)) args s 0 0 (Ac ad 89)) (F0 m 0 ls []) := by
  obtain ⟨hx, hb, hml, hown, hts, hr, hlk⟩ := id C
  unfold X6_add at h
  refine lv_lload_n hx hb dX6_add_0 rfl (lv_at hl 2 rfl) ?_
  refine lv_lconst (v := (0 : Int64)) hx hb dX6_add_1 (by decide) ?_
  refine lc_lt (tgt := 13) hx hb dX6_add_2 dX6_add_3 (by decide) (fun c1 => ?_) (fun c1 => ?_)
  · rw [if_pos c1] at h
    exact bX6_add_13 C hI hK hN h (lv_sub hl [0, 1, 2, 3, 4] rfl) hP hS
  · rw [if_neg c1] at h
    refine lv_lload hx hb dX6_add_6 (lv_at hl 3 rfl) ?_
    refine lv_lload_n hx hb dX6_add_8 rfl (lv_at hl 2 rfl) ?_
    refine lc_ge (tgt := 20) hx hb dX6_add_9 dX6_add_10 (by decide) (fun c2 => ?_) (fun c2 => ?_)
    · rw [if_neg c2] at h
      exact bX6_add_20 C hI hK hN h (lv_sub hl [0, 1, 2, 3, 4] rfl) hP hS
    · rw [if_pos c2] at h
      exact bX6_add_13 C hI hK hN h (lv_sub hl [0, 1, 2, 3, 4] rfl) hP hS
theorem kX6_add (hI : Apart ad 89) {v2 : Int64} {v4 : Int64} {v6 : Int32} {q : Tcu × Tra} (h : X6_add cu ra v2 v4 v6 = q) : Met l yX6_add (.code yX6_add cX6_add 7 none :: WA) ({ frames := 1, cells := 0, slots := 0, locals := 23 } : Room) (va_Pc [.ref (ad 45), .ref (ad 3), .long v2, .long v4, .int v6] (PR D cy (GX cy ad tk sp nm tp kp cu se ur ab lo im sy un en ra li i2))) (QR none D (GX cy ad tk sp nm tp kp q.1 se ur ab lo im sy un en q.2 li i2) (Ac ad 89)) 0 0 (Ac ad 89) :=
  met_of (by decide) (Nat.le_of_ble_eq_true rfl) (fun p e s m below meth c ls C hP hK hN hl => bX6_add_0 C hI hK hN h hl hP va_S.rf)
def X6_readRow (tp : Ttp) (cu : Tcu) (ra : Tra)  : Option (Int32 × Tcu × Tra) := ((X1_number tp cu (1 : Int32)).bind fun q1 => (if ((q1.1).toInt32) = (0 : Int32) then some ((0 : Int32), q1.2, ra) else (if ((q1.1).toInt32) = (4 : Int32) then ((X1_uleb tp q1.2).bind fun q5 => ((X1_uleb tp q5.2).bind fun q7 => (letq (X6_add q7.2 ra (X11_above ra.2.2.2 q5.1) (X11_above ra.2.2.2 q7.1) (X1_place cu)) fun q9 => some ((1 : Int32), q9.1, q9.2)))) else (if ((q1.1).toInt32) = (5 : Int32) then ((X1_number tp q1.2 (8 : Int32)).bind fun q12 => (if q12.1 < (0 : Int64) then (letq (X1_refuse q12.2 (2 : Int32) (X1_place cu)) fun q15 => some ((1 : Int32), q15, (ra.1, ra.2.1, ra.2.2.1, q12.1))) else some ((1 : Int32), q12.2, (ra.1, ra.2.1, ra.2.2.1, q12.1)))) else (if ((q1.1).toInt32) = (6 : Int32) then ((X1_number tp q1.2 (8 : Int32)).bind fun q18 => ((X1_number tp q18.2 (8 : Int32)).bind fun q20 => (letq (X6_add q20.2 ra q18.1 q20.1 (X1_place cu)) fun q22 => some ((1 : Int32), q22.1, q22.2)))) else (if ((q1.1).toInt32) = (7 : Int32) then ((X1_number tp q1.2 (8 : Int32)).bind fun q25 => ((X1_uleb tp q25.2).bind fun q27 => (letq (X6_add q27.2 ra q25.1 (X11_above q25.1 q27.1) (X1_place cu)) fun q29 => some ((1 : Int32), q29.1, q29.2)))) else (letq (X1_refuse q1.2 (2 : Int32) (X1_place cu)) fun q31 => some ((0 : Int32), q31, ra))))))))
set_option maxRecDepth 20000 in
theorem bX6_readRow_0 (C : Cx p s m args meth c cX6_readRow 6 (some .boolean) RX6 (.code yX6_readRow cX6_readRow 6 (some .boolean))) (hI : Apart ad 89) (hK : va_K D vwCl (tysX cy) s) (hN : NW s)  {q : Int32 × Tcu × Tra}   (h : X6_readRow tp cu ra = some q) {ls : Array Slot} (hl : lv_has ls 6 [(0, .ref (ad 45)), (1, .ref (ad 3))]) {H : Heap} {locs : List Loc} (hP : va_P D vwCl (GX cy ad tk sp nm tp kp cu se ur ab lo im sy un en ra li i2) H) (hS : va_S (Ac ad 89) s.heap H locs) : W p l e ({ frames := 2, cells := 0, slots := 0, locals := 51 } : Room) s m args below meth c H locs 0 0 (MQ below (QR (some (.int q.1)) D (GX cy ad tk sp nm tp kp q.2.1 se ur ab lo im sy un en q.2.2 li i2) (Ac ad 89)) args s 0 0 (Ac ad 89)) (F0 m 0 ls []) := by
  obtain ⟨hx, hb, hml, hown, hts, hr, hlk⟩ := id C
  unfold X6_readRow at h
  refine lv_aload_n hx hb dX6_readRow_0 rfl (lv_at hl 1 rfl) ?_
  refine cPi (run_V (rest := []) C (kX1_place rfl) caX1_place w976 ⟨rfl, rfl, Nat.le_of_ble_eq_true rfl, Nat.le_of_ble_eq_true rfl⟩ hK hN hP (rX3 hK hP) rfl hl.1 rfl (Nat.le_of_ble_eq_true rfl) dX6_readRow_1 ⟨Nat.zero_le _, Nat.zero_le _⟩) ?_
  refine lv_istore_n (lv' := [(2, .int (X1_place cu)), (0, .ref (ad 45)), (1, .ref (ad 3))]) hx hb dX6_readRow_4 rfl hl (by decide) rfl (fun ls hl => ?_)
  refine lv_aload_n hx hb dX6_readRow_5 rfl (lv_at hl 2 rfl) ?_
  refine lv_iconst (v := (1 : Int32)) hx hb dX6_readRow_6 (by decide) ?_
  obtain ⟨q1, h2, h⟩ := bnd h
  refine cRl (run_V (rest := []) C (kX1_number hI h2) caX1_number w977 ⟨rfl, rfl, Nat.le_of_ble_eq_true rfl, Nat.le_of_ble_eq_true rfl⟩ hK hN hP (rX3 hK hP) rfl hl.1 rfl (Nat.le_of_ble_eq_true rfl) dX6_readRow_7 ⟨Nat.zero_le _, Nat.zero_le _⟩) hS (fun H locs hP hS => ?_)
  have hP : va_P D vwCl (GX cy ad tk sp nm tp kp q1.2 se ur ab lo im sy un en ra li i2) H := hP
  refine lv_l2i (v := ((q1.1).toInt32)) hx hb dX6_readRow_10 rfl ?_
  refine lv_istore_n (lv' := [(3, .int ((q1.1).toInt32)), (2, .int (X1_place cu)), (0, .ref (ad 45)), (1, .ref (ad 3))]) hx hb dX6_readRow_11 rfl hl (by decide) rfl (fun ls hl => ?_)
  refine lv_iload_n hx hb dX6_readRow_12 rfl (lv_at hl 0 rfl) ?_
  by_cases c3 : ((q1.1).toInt32) = (0 : Int32)
  · rw [if_pos c3] at h
    rw [c3]
    refine lv_tableIn (off := 47) (tgt := 60) hx hb dX6_readRow_13 (by decide) (by decide) (by decide) (by decide) ?_
    refine lv_iconst (v := (0 : Int32)) hx hb dX6_readRow_60 (by decide) ?_
    obtain rfl := Option.some.inj h
    exact W.zret (ty := .boolean) hx hb hr (by decide) (fun t ht _ => ⟨rfl, by rw [ht]; exact hP, hS.F ht⟩) hS.2.2 dX6_readRow_61 hlk
  rw [if_neg c3] at h
  by_cases c4 : ((q1.1).toInt32) = (4 : Int32)
  · rw [if_pos c4] at h
    rw [c4]
    refine lv_tableIn (off := 49) (tgt := 62) hx hb dX6_readRow_13 (by decide) (by decide) (by decide) (by decide) ?_
    refine lv_aload_n hx hb dX6_readRow_62 rfl (lv_at hl 2 rfl) ?_
    refine gX45_3 (v := ra.2.2.2) C hK hP rfl w374 dX6_readRow_63 ?_
    refine lv_aload_n hx hb dX6_readRow_66 rfl (lv_at hl 3 rfl) ?_
    obtain ⟨q5, h6, h⟩ := bnd h
    refine cRl (run_V (rest := [.long ra.2.2.2]) C (kX1_uleb hI h6) caX1_uleb w978 ⟨rfl, rfl, Nat.le_of_ble_eq_true rfl, Nat.le_of_ble_eq_true rfl⟩ hK hN hP (rX3 hK hP) rfl hl.1 rfl (Nat.le_of_ble_eq_true rfl) dX6_readRow_67 ⟨Nat.zero_le _, Nat.zero_le _⟩) hS (fun H locs hP hS => ?_)
    have hP : va_P D vwCl (GX cy ad tk sp nm tp kp q5.2 se ur ab lo im sy un en ra li i2) H := hP
    refine cPl (run_SN (rest := []) C (kX11_above rfl) caX11_above (hN.use w952 rfl) ⟨rfl, rfl, Nat.le_of_ble_eq_true rfl, Nat.le_of_ble_eq_true rfl⟩ hK hN hP rfl hl.1 rfl (Nat.le_of_ble_eq_true rfl) dX6_readRow_70 ⟨Nat.zero_le _, Nat.zero_le _⟩) ?_
    refine lv_lstore (lv' := [(4, .long (X11_above ra.2.2.2 q5.1)), (3, .int ((q1.1).toInt32)), (2, .int (X1_place cu)), (0, .ref (ad 45)), (1, .ref (ad 3))]) hx hb dX6_readRow_73 hl (by decide) rfl (fun ls hl => ?_)
    refine lv_aload_n hx hb dX6_readRow_75 rfl (lv_at hl 3 rfl) ?_
    refine lv_aload_n hx hb dX6_readRow_76 rfl (lv_at hl 4 rfl) ?_
    refine lv_lload hx hb dX6_readRow_77 (lv_at hl 0 rfl) ?_
    refine lv_aload_n hx hb dX6_readRow_79 rfl (lv_at hl 3 rfl) ?_
    refine gX45_3 (v := ra.2.2.2) C hK hP rfl w374 dX6_readRow_80 ?_
    refine lv_aload_n hx hb dX6_readRow_83 rfl (lv_at hl 4 rfl) ?_
    obtain ⟨q7, h8, h⟩ := bnd h
    refine cRl (run_V (rest := [.long ra.2.2.2, .long (X11_above ra.2.2.2 q5.1), .ref (ad 3), .ref (ad 45)]) C (kX1_uleb hI h8) caX1_uleb w978 ⟨rfl, rfl, Nat.le_of_ble_eq_true rfl, Nat.le_of_ble_eq_true rfl⟩ hK hN hP (rX3 hK hP) rfl hl.1 rfl (Nat.le_of_ble_eq_true rfl) dX6_readRow_84 ⟨Nat.zero_le _, Nat.zero_le _⟩) hS (fun H locs hP hS => ?_)
    have hP : va_P D vwCl (GX cy ad tk sp nm tp kp q7.2 se ur ab lo im sy un en ra li i2) H := hP
    refine cPl (run_SN (rest := [.long (X11_above ra.2.2.2 q5.1), .ref (ad 3), .ref (ad 45)]) C (kX11_above rfl) caX11_above (hN.use w952 rfl) ⟨rfl, rfl, Nat.le_of_ble_eq_true rfl, Nat.le_of_ble_eq_true rfl⟩ hK hN hP rfl hl.1 rfl (Nat.le_of_ble_eq_true rfl) dX6_readRow_87 ⟨Nat.zero_le _, Nat.zero_le _⟩) ?_
    refine lv_iload_n hx hb dX6_readRow_90 rfl (lv_at hl 2 rfl) ?_
    obtain ⟨q9, h10, h⟩ := lets h
    refine cRv (run_V (rest := []) C (kX6_add hI h10) caX6_add w946 ⟨rfl, rfl, Nat.le_of_ble_eq_true rfl, Nat.le_of_ble_eq_true rfl⟩ hK hN hP (rX45 hK hP) rfl hl.1 rfl (Nat.le_of_ble_eq_true rfl) dX6_readRow_91 ⟨Nat.zero_le _, Nat.zero_le _⟩) hS (fun H locs hP hS => ?_)
    have hP : va_P D vwCl (GX cy ad tk sp nm tp kp q9.1 se ur ab lo im sy un en q9.2 li i2) H := hP
    refine lv_iconst (v := (1 : Int32)) hx hb dX6_readRow_94 (by decide) ?_
    obtain rfl := Option.some.inj h
    exact W.zret (ty := .boolean) hx hb hr (by decide) (fun t ht _ => ⟨rfl, by rw [ht]; exact hP, hS.F ht⟩) hS.2.2 dX6_readRow_95 hlk
  rw [if_neg c4] at h
  by_cases c11 : ((q1.1).toInt32) = (5 : Int32)
  · rw [if_pos c11] at h
    rw [c11]
    refine lv_tableIn (off := 83) (tgt := 96) hx hb dX6_readRow_13 (by decide) (by decide) (by decide) (by decide) ?_
    refine lv_aload_n hx hb dX6_readRow_96 rfl (lv_at hl 2 rfl) ?_
    refine lv_aload_n hx hb dX6_readRow_97 rfl (lv_at hl 3 rfl) ?_
    refine lv_bipush (v := (8 : Int32)) hx hb dX6_readRow_98 (by decide) ?_
    obtain ⟨q12, h13, h⟩ := bnd h
    refine cRl (run_V (rest := [.ref (ad 45)]) C (kX1_number hI h13) caX1_number w977 ⟨rfl, rfl, Nat.le_of_ble_eq_true rfl, Nat.le_of_ble_eq_true rfl⟩ hK hN hP (rX3 hK hP) rfl hl.1 rfl (Nat.le_of_ble_eq_true rfl) dX6_readRow_100 ⟨Nat.zero_le _, Nat.zero_le _⟩) hS (fun H locs hP hS => ?_)
    have hP : va_P D vwCl (GX cy ad tk sp nm tp kp q12.2 se ur ab lo im sy un en ra li i2) H := hP
    refine pX45_3 (v := q12.1) C hI hK hP hS w374 dX6_readRow_103 (fun H locs hP hS => ?_)
    have hP : va_P D vwCl (GX cy ad tk sp nm tp kp q12.2 se ur ab lo im sy un en (ra.1, ra.2.1, ra.2.2.1, q12.1) li i2) H := hP
    refine lv_aload_n hx hb dX6_readRow_106 rfl (lv_at hl 2 rfl) ?_
    refine gX45_3 (v := q12.1) C hK hP rfl w374 dX6_readRow_107 ?_
    refine lv_lconst (v := (0 : Int64)) hx hb dX6_readRow_110 (by decide) ?_
    refine lc_ge (tgt := 121) hx hb dX6_readRow_111 dX6_readRow_112 (by decide) (fun c14 => ?_) (fun c14 => ?_)
    · rw [if_neg c14] at h
      refine lv_iconst (v := (1 : Int32)) hx hb dX6_readRow_121 (by decide) ?_
      obtain rfl := Option.some.inj h
      exact W.zret (ty := .boolean) hx hb hr (by decide) (fun t ht _ => ⟨rfl, by rw [ht]; exact hP, hS.F ht⟩) hS.2.2 dX6_readRow_122 hlk
    · rw [if_pos c14] at h
      refine lv_aload_n hx hb dX6_readRow_115 rfl (lv_at hl 3 rfl) ?_
      refine lv_iconst (v := (2 : Int32)) hx hb dX6_readRow_116 (by decide) ?_
      refine lv_iload_n hx hb dX6_readRow_117 rfl (lv_at hl 1 rfl) ?_
      obtain ⟨q15, h16, h⟩ := lets h
      refine cRv (run_V (rest := []) C (kX1_refuse hI h16) caX1_refuse w950 ⟨rfl, rfl, Nat.le_of_ble_eq_true rfl, Nat.le_of_ble_eq_true rfl⟩ hK hN hP (rX3 hK hP) rfl hl.1 rfl (Nat.le_of_ble_eq_true rfl) dX6_readRow_118 ⟨Nat.zero_le _, Nat.zero_le _⟩) hS (fun H locs hP hS => ?_)
      have hP : va_P D vwCl (GX cy ad tk sp nm tp kp q15 se ur ab lo im sy un en (ra.1, ra.2.1, ra.2.2.1, q12.1) li i2) H := hP
      refine lv_iconst (v := (1 : Int32)) hx hb dX6_readRow_121 (by decide) ?_
      obtain rfl := Option.some.inj h
      exact W.zret (ty := .boolean) hx hb hr (by decide) (fun t ht _ => ⟨rfl, by rw [ht]; exact hP, hS.F ht⟩) hS.2.2 dX6_readRow_122 hlk
  rw [if_neg c11] at h
  by_cases c17 : ((q1.1).toInt32) = (6 : Int32)
  · rw [if_pos c17] at h
    rw [c17]
    refine lv_tableIn (off := 110) (tgt := 123) hx hb dX6_readRow_13 (by decide) (by decide) (by decide) (by decide) ?_
    refine lv_aload_n hx hb dX6_readRow_123 rfl (lv_at hl 3 rfl) ?_
    refine lv_bipush (v := (8 : Int32)) hx hb dX6_readRow_124 (by decide) ?_
    obtain ⟨q18, h19, h⟩ := bnd h
    refine cRl (run_V (rest := []) C (kX1_number hI h19) caX1_number w977 ⟨rfl, rfl, Nat.le_of_ble_eq_true rfl, Nat.le_of_ble_eq_true rfl⟩ hK hN hP (rX3 hK hP) rfl hl.1 rfl (Nat.le_of_ble_eq_true rfl) dX6_readRow_126 ⟨Nat.zero_le _, Nat.zero_le _⟩) hS (fun H locs hP hS => ?_)
    have hP : va_P D vwCl (GX cy ad tk sp nm tp kp q18.2 se ur ab lo im sy un en ra li i2) H := hP
    refine lv_lstore (lv' := [(4, .long q18.1), (3, .int ((q1.1).toInt32)), (2, .int (X1_place cu)), (0, .ref (ad 45)), (1, .ref (ad 3))]) hx hb dX6_readRow_129 hl (by decide) rfl (fun ls hl => ?_)
    refine lv_aload_n hx hb dX6_readRow_131 rfl (lv_at hl 3 rfl) ?_
    refine lv_aload_n hx hb dX6_readRow_132 rfl (lv_at hl 4 rfl) ?_
    refine lv_lload hx hb dX6_readRow_133 (lv_at hl 0 rfl) ?_
    refine lv_aload_n hx hb dX6_readRow_135 rfl (lv_at hl 4 rfl) ?_
    refine lv_bipush (v := (8 : Int32)) hx hb dX6_readRow_136 (by decide) ?_
    obtain ⟨q20, h21, h⟩ := bnd h
    refine cRl (run_V (rest := [.long q18.1, .ref (ad 3), .ref (ad 45)]) C (kX1_number hI h21) caX1_number w977 ⟨rfl, rfl, Nat.le_of_ble_eq_true rfl, Nat.le_of_ble_eq_true rfl⟩ hK hN hP (rX3 hK hP) rfl hl.1 rfl (Nat.le_of_ble_eq_true rfl) dX6_readRow_138 ⟨Nat.zero_le _, Nat.zero_le _⟩) hS (fun H locs hP hS => ?_)
    have hP : va_P D vwCl (GX cy ad tk sp nm tp kp q20.2 se ur ab lo im sy un en ra li i2) H := hP
    refine lv_iload_n hx hb dX6_readRow_141 rfl (lv_at hl 2 rfl) ?_
    obtain ⟨q22, h23, h⟩ := lets h
    refine cRv (run_V (rest := []) C (kX6_add hI h23) caX6_add w946 ⟨rfl, rfl, Nat.le_of_ble_eq_true rfl, Nat.le_of_ble_eq_true rfl⟩ hK hN hP (rX45 hK hP) rfl hl.1 rfl (Nat.le_of_ble_eq_true rfl) dX6_readRow_142 ⟨Nat.zero_le _, Nat.zero_le _⟩) hS (fun H locs hP hS => ?_)
    have hP : va_P D vwCl (GX cy ad tk sp nm tp kp q22.1 se ur ab lo im sy un en q22.2 li i2) H := hP
    refine lv_iconst (v := (1 : Int32)) hx hb dX6_readRow_145 (by decide) ?_
    obtain rfl := Option.some.inj h
    exact W.zret (ty := .boolean) hx hb hr (by decide) (fun t ht _ => ⟨rfl, by rw [ht]; exact hP, hS.F ht⟩) hS.2.2 dX6_readRow_146 hlk
  rw [if_neg c17] at h
  by_cases c24 : ((q1.1).toInt32) = (7 : Int32)
  · rw [if_pos c24] at h
    rw [c24]
    refine lv_tableIn (off := 134) (tgt := 147) hx hb dX6_readRow_13 (by decide) (by decide) (by decide) (by decide) ?_
    refine lv_aload_n hx hb dX6_readRow_147 rfl (lv_at hl 3 rfl) ?_
    refine lv_bipush (v := (8 : Int32)) hx hb dX6_readRow_148 (by decide) ?_
    obtain ⟨q25, h26, h⟩ := bnd h
    refine cRl (run_V (rest := []) C (kX1_number hI h26) caX1_number w977 ⟨rfl, rfl, Nat.le_of_ble_eq_true rfl, Nat.le_of_ble_eq_true rfl⟩ hK hN hP (rX3 hK hP) rfl hl.1 rfl (Nat.le_of_ble_eq_true rfl) dX6_readRow_150 ⟨Nat.zero_le _, Nat.zero_le _⟩) hS (fun H locs hP hS => ?_)
    have hP : va_P D vwCl (GX cy ad tk sp nm tp kp q25.2 se ur ab lo im sy un en ra li i2) H := hP
    refine lv_lstore (lv' := [(4, .long q25.1), (3, .int ((q1.1).toInt32)), (2, .int (X1_place cu)), (0, .ref (ad 45)), (1, .ref (ad 3))]) hx hb dX6_readRow_153 hl (by decide) rfl (fun ls hl => ?_)
    refine lv_aload_n hx hb dX6_readRow_155 rfl (lv_at hl 3 rfl) ?_
    refine lv_aload_n hx hb dX6_readRow_156 rfl (lv_at hl 4 rfl) ?_
    refine lv_lload hx hb dX6_readRow_157 (lv_at hl 0 rfl) ?_
    refine lv_lload hx hb dX6_readRow_159 (lv_at hl 0 rfl) ?_
    refine lv_aload_n hx hb dX6_readRow_161 rfl (lv_at hl 4 rfl) ?_
    obtain ⟨q27, h28, h⟩ := bnd h
    refine cRl (run_V (rest := [.long q25.1, .long q25.1, .ref (ad 3), .ref (ad 45)]) C (kX1_uleb hI h28) caX1_uleb w978 ⟨rfl, rfl, Nat.le_of_ble_eq_true rfl, Nat.le_of_ble_eq_true rfl⟩ hK hN hP (rX3 hK hP) rfl hl.1 rfl (Nat.le_of_ble_eq_true rfl) dX6_readRow_162 ⟨Nat.zero_le _, Nat.zero_le _⟩) hS (fun H locs hP hS => ?_)
    have hP : va_P D vwCl (GX cy ad tk sp nm tp kp q27.2 se ur ab lo im sy un en ra li i2) H := hP
    refine cPl (run_SN (rest := [.long q25.1, .ref (ad 3), .ref (ad 45)]) C (kX11_above rfl) caX11_above (hN.use w952 rfl) ⟨rfl, rfl, Nat.le_of_ble_eq_true rfl, Nat.le_of_ble_eq_true rfl⟩ hK hN hP rfl hl.1 rfl (Nat.le_of_ble_eq_true rfl) dX6_readRow_165 ⟨Nat.zero_le _, Nat.zero_le _⟩) ?_
    refine lv_iload_n hx hb dX6_readRow_168 rfl (lv_at hl 2 rfl) ?_
    obtain ⟨q29, h30, h⟩ := lets h
    refine cRv (run_V (rest := []) C (kX6_add hI h30) caX6_add w946 ⟨rfl, rfl, Nat.le_of_ble_eq_true rfl, Nat.le_of_ble_eq_true rfl⟩ hK hN hP (rX45 hK hP) rfl hl.1 rfl (Nat.le_of_ble_eq_true rfl) dX6_readRow_169 ⟨Nat.zero_le _, Nat.zero_le _⟩) hS (fun H locs hP hS => ?_)
    have hP : va_P D vwCl (GX cy ad tk sp nm tp kp q29.1 se ur ab lo im sy un en q29.2 li i2) H := hP
    refine lv_iconst (v := (1 : Int32)) hx hb dX6_readRow_172 (by decide) ?_
    obtain rfl := Option.some.inj h
    exact W.zret (ty := .boolean) hx hb hr (by decide) (fun t ht _ => ⟨rfl, by rw [ht]; exact hP, hS.F ht⟩) hS.2.2 dX6_readRow_173 hlk
  rw [if_neg c24] at h
  refine tsw_d (tgt := 174) hx hb dX6_readRow_13 [(0 : Int32), (4 : Int32), (5 : Int32), (6 : Int32), (7 : Int32)] (by simp only [List.mem_cons, List.not_mem_nil, or_false]; rintro _ (rfl | rfl | rfl | rfl | rfl) <;> assumption) (by decide +kernel) (by decide) ?_
  refine lv_aload_n hx hb dX6_readRow_174 rfl (lv_at hl 3 rfl) ?_
  refine lv_iconst (v := (2 : Int32)) hx hb dX6_readRow_175 (by decide) ?_
  refine lv_iload_n hx hb dX6_readRow_176 rfl (lv_at hl 1 rfl) ?_
  obtain ⟨q31, h32, h⟩ := lets h
  refine cRv (run_V (rest := []) C (kX1_refuse hI h32) caX1_refuse w950 ⟨rfl, rfl, Nat.le_of_ble_eq_true rfl, Nat.le_of_ble_eq_true rfl⟩ hK hN hP (rX3 hK hP) rfl hl.1 rfl (Nat.le_of_ble_eq_true rfl) dX6_readRow_177 ⟨Nat.zero_le _, Nat.zero_le _⟩) hS (fun H locs hP hS => ?_)
  have hP : va_P D vwCl (GX cy ad tk sp nm tp kp q31 se ur ab lo im sy un en ra li i2) H := hP
  refine lv_iconst (v := (0 : Int32)) hx hb dX6_readRow_180 (by decide) ?_
  obtain rfl := Option.some.inj h
  exact W.zret (ty := .boolean) hx hb hr (by decide) (fun t ht _ => ⟨rfl, by rw [ht]; exact hP, hS.F ht⟩) hS.2.2 dX6_readRow_181 hlk
theorem kX6_readRow (hI : Apart ad 89)  {q : Int32 × Tcu × Tra} (h : X6_readRow tp cu ra = some q) : Met l yX6_readRow (.code yX6_readRow cX6_readRow 6 (some .boolean) :: WA) ({ frames := 2, cells := 0, slots := 0, locals := 51 } : Room) (va_Pc [.ref (ad 45), .ref (ad 3)] (PR D cy (GX cy ad tk sp nm tp kp cu se ur ab lo im sy un en ra li i2))) (QR (some (.int q.1)) D (GX cy ad tk sp nm tp kp q.2.1 se ur ab lo im sy un en q.2.2 li i2) (Ac ad 89)) 0 0 (Ac ad 89) :=
  met_of (by decide) (Nat.le_of_ble_eq_true rfl) (fun p e s m below meth c ls C hP hK hN hl => bX6_readRow_0 C hI hK hN h hl hP va_S.rf)
def X6_readList_43b (tp : Ttp) (se : Tse)  (k43 : Tcu → Tra → Int32 → Int32 → Option (Tcu × Tra)) (cu : Tcu) (ra : Tra) (v6 : Int32) (v7 : Int32) : Option (Tcu × Tra) := (if v7 < (8000 : Int32) then (if v6 = 0 then some (cu, ra) else (if (X1_sound cu) = 0 then some (cu, ra) else ((X6_readRow tp cu ra).bind fun q4 => k43 q4.2.1 q4.2.2 q4.1 (v7 + (1 : Int32))))) else some (cu, ra))
def X6_readList_43 (tp : Ttp) (se : Tse)  (n : Nat) (st : Tcu × Tra × Int32 × Int32) : Option (Tcu × Tra) := lp (fun rec st => X6_readList_43b tp se  (fun a0 a1 a2 a3 => rec (a0, a1, a2, a3)) st.1 st.2.1 st.2.2.1 st.2.2.2) n st
set_option maxRecDepth 20000 in
theorem bX6_readList_43 (C : Cx p s m args meth c cX6_readList 8 none RX6 (.code yX6_readList cX6_readList 8 none)) (hI : Apart ad 89) (hK : va_K D vwCl (tysX cy) s) (hN : NW s)  {q : Tcu × Tra}  : ∀ (n : Nat) {cu : Tcu} {ra : Tra} {v6 : Int32} {v7 : Int32}, X6_readList_43 tp se  n (cu, ra, v6, v7) = some q → ∀ {ls : Array Slot}, lv_has ls 8 [(0, .ref (ad 45)), (1, .ref (ad 3)), (6, .int v6), (7, .int v7)] → ∀ {H : Heap} {locs : List Loc}, va_P D vwCl (GX cy ad tk sp nm tp kp cu se ur ab lo im sy un en ra li i2) H → va_S (Ac ad 89) s.heap H locs → W p l e ({ frames := 3, cells := 0, slots := 0, locals := 76 } : Room) s m args below meth c H locs 0 0 (MQ below (QR none D (GX cy ad tk sp nm tp kp q.1 se ur ab lo im sy un en q.2 li i2) (Ac ad 89)) args s 0 0 (Ac ad 89)) (F0 m 43 ls []) := by
  obtain ⟨hx, hb, hml, hown, hts, hr, hlk⟩ := id C
  intro n
  induction n with
  | zero =>
    intro cu ra v6 v7 h ls hl H locs hP hS
    have h : (none : Option (Tcu × Tra)) = some q := h
    cases h
  | succ n ih =>
    intro cu ra v6 v7 h ls hl H locs hP hS
    have h : X6_readList_43b tp se  (fun a0 a1 a2 a3 => X6_readList_43 tp se  n (a0, a1, a2, a3)) cu ra v6 v7 = some q := h
    unfold X6_readList_43b at h
    refine lv_iload hx hb dX6_readList_43 (lv_at hl 3 rfl) ?_
    refine lv_sipush (v := (8000 : Int32)) hx hb dX6_readList_45 (by decide) ?_
    refine b_icmp_ge (tgt := 76) hx hb dX6_readList_48 (by decide) (fun c1 => ?_) (fun c1 => ?_)
    · rw [if_neg c1] at h
      obtain rfl := Option.some.inj h
      exact W.vret hx hb hr (fun t ht _ => ⟨rfl, by rw [ht]; exact hP, hS.F ht⟩) hS.2.2 dX6_readList_76 hlk
    · rw [if_pos c1] at h
      refine lv_iload hx hb dX6_readList_51 (lv_at hl 2 rfl) ?_
      refine lv_if_eq (tgt := 76) hx hb dX6_readList_53 (by decide) (fun c2 => ?_) (fun c2 => ?_)
      · rw [if_pos c2] at h
        obtain rfl := Option.some.inj h
        exact W.vret hx hb hr (fun t ht _ => ⟨rfl, by rw [ht]; exact hP, hS.F ht⟩) hS.2.2 dX6_readList_76 hlk
      · rw [if_neg c2] at h
        refine lv_aload_n hx hb dX6_readList_56 rfl (lv_at hl 1 rfl) ?_
        refine cPi (run_V (rest := []) C (kX1_sound rfl) caX1_sound w942 ⟨rfl, rfl, Nat.le_of_ble_eq_true rfl, Nat.le_of_ble_eq_true rfl⟩ hK hN hP (rX3 hK hP) rfl hl.1 rfl (Nat.le_of_ble_eq_true rfl) dX6_readList_57 ⟨Nat.zero_le _, Nat.zero_le _⟩) ?_
        refine lv_if_eq (tgt := 76) hx hb dX6_readList_60 (by decide) (fun c3 => ?_) (fun c3 => ?_)
        · rw [if_pos c3] at h
          obtain rfl := Option.some.inj h
          exact W.vret hx hb hr (fun t ht _ => ⟨rfl, by rw [ht]; exact hP, hS.F ht⟩) hS.2.2 dX6_readList_76 hlk
        · rw [if_neg c3] at h
          refine lv_aload_n hx hb dX6_readList_63 rfl (lv_at hl 0 rfl) ?_
          refine lv_aload_n hx hb dX6_readList_64 rfl (lv_at hl 1 rfl) ?_
          obtain ⟨q4, h5, h⟩ := bnd h
          refine cRi (run_V (rest := []) C (kX6_readRow hI h5) caX6_readRow w972 ⟨rfl, rfl, Nat.le_of_ble_eq_true rfl, Nat.le_of_ble_eq_true rfl⟩ hK hN hP (rX45 hK hP) rfl hl.1 rfl (Nat.le_of_ble_eq_true rfl) dX6_readList_65 ⟨Nat.zero_le _, Nat.zero_le _⟩) hS (fun H locs hP hS => ?_)
          have hP : va_P D vwCl (GX cy ad tk sp nm tp kp q4.2.1 se ur ab lo im sy un en q4.2.2 li i2) H := hP
          refine lv_istore (lv' := [(6, .int q4.1), (0, .ref (ad 45)), (1, .ref (ad 3)), (7, .int v7)]) hx hb dX6_readList_68 hl (by decide) rfl (fun ls hl => ?_)
          refine lv_iinc (v := (v7 + (1 : Int32))) (lv' := [(7, .int (v7 + (1 : Int32))), (6, .int q4.1), (0, .ref (ad 45)), (1, .ref (ad 3))]) hx hb dX6_readList_70 hl (k := 3) rfl rfl (by decide) rfl (fun ls hl => ?_)
          refine lv_goto (tgt := 43) hx hb dX6_readList_73 (by decide) ?_
          exact ih h (lv_sub hl [2, 3, 1, 0] rfl) hP hS
def X6_readList (tp : Ttp) (cu : Tcu) (se : Tse) (ra : Tra) (v3 : Int64) (v5 : Int32) : Option (Tcu × Tra) := (if (X7_isIn se (6 : Int32) v3) = 0 then (letq (X1_refuse cu (3 : Int32) v5) fun q4 => some (q4, ra)) else (letq (X1_within cu ((X7_beginOf se (6 : Int32)) + ((v3).toInt32)) (X7_stopOf se (6 : Int32))) fun q2 => X6_readList_43 tp se FU (q2, ra, (1 : Int32), (0 : Int32))))
set_option maxRecDepth 20000 in
theorem bX6_readList_0 (C : Cx p s m args meth c cX6_readList 8 none RX6 (.code yX6_readList cX6_readList 8 none)) (hI : Apart ad 89) (hK : va_K D vwCl (tysX cy) s) (hN : NW s)  {q : Tcu × Tra}  {v3 : Int64} {v5 : Int32} (h : X6_readList tp cu se ra v3 v5 = some q) {ls : Array Slot} (hl : lv_has ls 8 [(0, .ref (ad 45)), (1, .ref (ad 3)), (2, .ref (ad 4)), (3, .long v3), (5, .int v5)]) {H : Heap} {locs : List Loc} (hP : va_P D vwCl (GX cy ad tk sp nm tp kp cu se ur ab lo im sy un en ra li i2) H) (hS : va_S (Ac ad 89) s.heap H locs) : W p l e ({ frames := 3, cells := 0, slots := 0, locals := 76 } : Room) s m args below meth c H locs 0 0 (MQ below (QR none D (GX cy ad tk sp nm tp kp q.1 se ur ab lo im sy un en q.2 li i2) (Ac ad 89)) args s 0 0 (Ac ad 89)) (F0 m 0 ls []) := by
  obtain ⟨hx, hb, hml, hown, hts, hr, hlk⟩ := id C
  unfold X6_readList at h
  refine lv_aload_n hx hb dX6_readList_0 rfl (lv_at hl 2 rfl) ?_
  refine lv_bipush (v := (6 : Int32)) hx hb dX6_readList_1 (by decide) ?_
  refine lv_lload_n hx hb dX6_readList_3 rfl (lv_at hl 3 rfl) ?_
  refine cPi (run_V (rest := []) C (kX7_isIn rfl) caX7_isIn w968 ⟨rfl, rfl, Nat.le_of_ble_eq_true rfl, Nat.le_of_ble_eq_true rfl⟩ hK hN hP (rX4 hK hP) rfl hl.1 rfl (Nat.le_of_ble_eq_true rfl) dX6_readList_4 ⟨Nat.zero_le _, Nat.zero_le _⟩) ?_
  refine lv_if_ne (tgt := 18) hx hb dX6_readList_7 (by decide) (fun c1 => ?_) (fun c1 => ?_)
  · rw [if_neg c1] at h
    refine lv_aload_n hx hb dX6_readList_18 rfl (lv_at hl 1 rfl) ?_
    refine lv_aload_n hx hb dX6_readList_19 rfl (lv_at hl 2 rfl) ?_
    refine lv_bipush (v := (6 : Int32)) hx hb dX6_readList_20 (by decide) ?_
    refine cPi (run_V (rest := [.ref (ad 3)]) C (kX7_beginOf rfl) caX7_beginOf w969 ⟨rfl, rfl, Nat.le_of_ble_eq_true rfl, Nat.le_of_ble_eq_true rfl⟩ hK hN hP (rX4 hK hP) rfl hl.1 rfl (Nat.le_of_ble_eq_true rfl) dX6_readList_22 ⟨Nat.zero_le _, Nat.zero_le _⟩) ?_
    refine lv_lload_n hx hb dX6_readList_25 rfl (lv_at hl 3 rfl) ?_
    refine lv_l2i (v := ((v3).toInt32)) hx hb dX6_readList_26 rfl ?_
    refine lv_iadd hx hb dX6_readList_27 ?_
    refine lv_aload_n hx hb dX6_readList_28 rfl (lv_at hl 2 rfl) ?_
    refine lv_bipush (v := (6 : Int32)) hx hb dX6_readList_29 (by decide) ?_
    refine cPi (run_V (rest := [.int ((X7_beginOf se (6 : Int32)) + ((v3).toInt32)), .ref (ad 3)]) C (kX7_stopOf rfl) caX7_stopOf w970 ⟨rfl, rfl, Nat.le_of_ble_eq_true rfl, Nat.le_of_ble_eq_true rfl⟩ hK hN hP (rX4 hK hP) rfl hl.1 rfl (Nat.le_of_ble_eq_true rfl) dX6_readList_31 ⟨Nat.zero_le _, Nat.zero_le _⟩) ?_
    obtain ⟨q2, h3, h⟩ := lets h
    refine cRv (run_V (rest := []) C (kX1_within hI h3) caX1_within w971 ⟨rfl, rfl, Nat.le_of_ble_eq_true rfl, Nat.le_of_ble_eq_true rfl⟩ hK hN hP (rX3 hK hP) rfl hl.1 rfl (Nat.le_of_ble_eq_true rfl) dX6_readList_34 ⟨Nat.zero_le _, Nat.zero_le _⟩) hS (fun H locs hP hS => ?_)
    have hP : va_P D vwCl (GX cy ad tk sp nm tp kp q2 se ur ab lo im sy un en ra li i2) H := hP
    refine lv_iconst (v := (1 : Int32)) hx hb dX6_readList_37 (by decide) ?_
    refine lv_istore (lv' := [(6, .int (1 : Int32)), (0, .ref (ad 45)), (1, .ref (ad 3)), (2, .ref (ad 4)), (3, .long v3), (5, .int v5)]) hx hb dX6_readList_38 hl (by decide) rfl (fun ls hl => ?_)
    refine lv_iconst (v := (0 : Int32)) hx hb dX6_readList_40 (by decide) ?_
    refine lv_istore (lv' := [(7, .int (0 : Int32)), (6, .int (1 : Int32)), (0, .ref (ad 45)), (1, .ref (ad 3)), (2, .ref (ad 4)), (3, .long v3), (5, .int v5)]) hx hb dX6_readList_41 hl (by decide) rfl (fun ls hl => ?_)
    exact bX6_readList_43 C hI hK hN FU h (lv_sub hl [2, 3, 1, 0] rfl) hP hS
  · rw [if_pos c1] at h
    refine lv_aload_n hx hb dX6_readList_10 rfl (lv_at hl 1 rfl) ?_
    refine lv_iconst (v := (3 : Int32)) hx hb dX6_readList_11 (by decide) ?_
    refine lv_iload hx hb dX6_readList_12 (lv_at hl 4 rfl) ?_
    obtain ⟨q4, h5, h⟩ := lets h
    refine cRv (run_V (rest := []) C (kX1_refuse hI h5) caX1_refuse w950 ⟨rfl, rfl, Nat.le_of_ble_eq_true rfl, Nat.le_of_ble_eq_true rfl⟩ hK hN hP (rX3 hK hP) rfl hl.1 rfl (Nat.le_of_ble_eq_true rfl) dX6_readList_14 ⟨Nat.zero_le _, Nat.zero_le _⟩) hS (fun H locs hP hS => ?_)
    have hP : va_P D vwCl (GX cy ad tk sp nm tp kp q4 se ur ab lo im sy un en ra li i2) H := hP
    obtain rfl := Option.some.inj h
    exact W.vret hx hb hr (fun t ht _ => ⟨rfl, by rw [ht]; exact hP, hS.F ht⟩) hS.2.2 dX6_readList_17 hlk
theorem kX6_readList (hI : Apart ad 89) {v3 : Int64} {v5 : Int32} {q : Tcu × Tra} (h : X6_readList tp cu se ra v3 v5 = some q) : Met l yX6_readList (.code yX6_readList cX6_readList 8 none :: WA) ({ frames := 3, cells := 0, slots := 0, locals := 76 } : Room) (va_Pc [.ref (ad 45), .ref (ad 3), .ref (ad 4), .long v3, .int v5] (PR D cy (GX cy ad tk sp nm tp kp cu se ur ab lo im sy un en ra li i2))) (QR none D (GX cy ad tk sp nm tp kp q.1 se ur ab lo im sy un en q.2 li i2) (Ac ad 89)) 0 0 (Ac ad 89) :=
  met_of (by decide) (Nat.le_of_ble_eq_true rfl) (fun p e s m below meth c ls C hP hK hN hl => bX6_readList_0 C hI hK hN h hl hP va_S.rf)
def X6_readAll_219 (tp : Ttp) (se : Tse) (un : Tun) (k14 : Tcu → Ten → Tra → Int32 → Option (Tcu × Ten × Tra)) (cu : Tcu) (en : Ten) (ra : Tra) (v5 : Int32) (v6 : Int32) : Option (Tcu × Ten × Tra) := (letq (X2_setRanges en v5 v6 (ra.2.2.1 - v6)) fun q1 => k14 cu q1 ra (v5 + (1 : Int32)))
set_option maxRecDepth 20000 in
theorem bX6_readAll_219 (C : Cx p s m args meth c cX6_readAll 11 none RX6 (.code yX6_readAll cX6_readAll 11 none)) (hI : Apart ad 89) (hK : va_K D vwCl (tysX cy) s) (hN : NW s) {k14 : Tcu → Ten → Tra → Int32 → Option (Tcu × Ten × Tra)} {q : Tcu × Ten × Tra} (hk14 : ∀ {cu : Tcu} {en : Ten} {ra : Tra} {v5 : Int32}, k14 cu en ra v5 = some q → ∀ {ls : Array Slot}, lv_has ls 11 [(0, .ref (ad 45)), (1, .ref (ad 3)), (2, .ref (ad 4)), (3, .ref (ad 21)), (4, .ref (ad 34)), (5, .int v5)] → ∀ {H : Heap} {locs : List Loc}, va_P D vwCl (GX cy ad tk sp nm tp kp cu se ur ab lo im sy un en ra li i2) H → va_S (Ac ad 89) s.heap H locs → W p l e ({ frames := 4, cells := 0, slots := 0, locals := 103 } : Room) s m args below meth c H locs 0 0 (MQ below (QR none D (GX cy ad tk sp nm tp kp q.1 se ur ab lo im sy un q.2.1 q.2.2 li i2) (Ac ad 89)) args s 0 0 (Ac ad 89)) (F0 m 14 ls [])) {v5 : Int32} {v6 : Int32} (h : X6_readAll_219 tp se un k14 cu en ra v5 v6 = some q) {ls : Array Slot} (hl : lv_has ls 11 [(0, .ref (ad 45)), (1, .ref (ad 3)), (2, .ref (ad 4)), (3, .ref (ad 21)), (4, .ref (ad 34)), (5, .int v5), (6, .int v6)]) {H : Heap} {locs : List Loc} (hP : va_P D vwCl (GX cy ad tk sp nm tp kp cu se ur ab lo im sy un en ra li i2) H) (hS : va_S (Ac ad 89) s.heap H locs) : W p l e ({ frames := 4, cells := 0, slots := 0, locals := 103 } : Room) s m args below meth c H locs 0 0 (MQ below (QR none D (GX cy ad tk sp nm tp kp q.1 se ur ab lo im sy un q.2.1 q.2.2 li i2) (Ac ad 89)) args s 0 0 (Ac ad 89)) (F0 m 219 ls []) := by
  obtain ⟨hx, hb, hml, hown, hts, hr, hlk⟩ := id C
  unfold X6_readAll_219 at h
  refine lv_aload hx hb dX6_readAll_219 (lv_at hl 4 rfl) ?_
  refine lv_iload hx hb dX6_readAll_221 (lv_at hl 5 rfl) ?_
  refine lv_iload hx hb dX6_readAll_223 (lv_at hl 6 rfl) ?_
  refine lv_aload_n hx hb dX6_readAll_225 rfl (lv_at hl 0 rfl) ?_
  refine gX45_2 (v := ra.2.2.1) C hK hP rfl w373 dX6_readAll_226 ?_
  refine lv_iload hx hb dX6_readAll_229 (lv_at hl 6 rfl) ?_
  refine lv_isub hx hb dX6_readAll_231 ?_
  obtain ⟨q1, h2, h⟩ := lets h
  refine cRv (run_V (rest := []) C (kX2_setRanges hI h2) caX2_setRanges w979 ⟨rfl, rfl, Nat.le_of_ble_eq_true rfl, Nat.le_of_ble_eq_true rfl⟩ hK hN hP (rX34 hK hP) rfl hl.1 rfl (Nat.le_of_ble_eq_true rfl) dX6_readAll_232 ⟨Nat.zero_le _, Nat.zero_le _⟩) hS (fun H locs hP hS => ?_)
  have hP : va_P D vwCl (GX cy ad tk sp nm tp kp cu se ur ab lo im sy un q1 ra li i2) H := hP
  refine lv_iinc (v := (v5 + (1 : Int32))) (lv' := [(5, .int (v5 + (1 : Int32))), (0, .ref (ad 45)), (1, .ref (ad 3)), (2, .ref (ad 4)), (3, .ref (ad 21)), (4, .ref (ad 34)), (6, .int v6)]) hx hb dX6_readAll_235 hl (k := 5) rfl rfl (by decide) rfl (fun ls hl => ?_)
  refine lv_goto (tgt := 14) hx hb dX6_readAll_238 (by decide) ?_
  exact hk14 h (lv_sub hl [1, 2, 3, 4, 5, 0] rfl) hP hS
def X6_readAll_161 (tp : Ttp) (se : Tse) (un : Tun) (k14 : Tcu → Ten → Tra → Int32 → Option (Tcu × Ten × Tra)) (cu : Tcu) (en : Ten) (ra : Tra) (v5 : Int32) (v6 : Int32) : Option (Tcu × Ten × Tra) := (if (X2_isTold en v5 (4 : Int32)) = 0 then X6_readAll_219 tp se un k14 cu en ra v5 v6 else ((X6_readList tp cu se (ra.1, ra.2.1, ra.2.2.1, (X2_valueOr en (X10_firstEntryOf un (X2_unitOf en v5)) (1 : Int32) (0 : Int64))) (X2_valueOr en v5 (4 : Int32) (0 : Int64)) (X2_placeOf en v5)).bind fun q2 => X6_readAll_219 tp se un k14 q2.1 en q2.2 v5 v6))
set_option maxRecDepth 20000 in
theorem bX6_readAll_161 (C : Cx p s m args meth c cX6_readAll 11 none RX6 (.code yX6_readAll cX6_readAll 11 none)) (hI : Apart ad 89) (hK : va_K D vwCl (tysX cy) s) (hN : NW s) {k14 : Tcu → Ten → Tra → Int32 → Option (Tcu × Ten × Tra)} {q : Tcu × Ten × Tra} (hk14 : ∀ {cu : Tcu} {en : Ten} {ra : Tra} {v5 : Int32}, k14 cu en ra v5 = some q → ∀ {ls : Array Slot}, lv_has ls 11 [(0, .ref (ad 45)), (1, .ref (ad 3)), (2, .ref (ad 4)), (3, .ref (ad 21)), (4, .ref (ad 34)), (5, .int v5)] → ∀ {H : Heap} {locs : List Loc}, va_P D vwCl (GX cy ad tk sp nm tp kp cu se ur ab lo im sy un en ra li i2) H → va_S (Ac ad 89) s.heap H locs → W p l e ({ frames := 4, cells := 0, slots := 0, locals := 103 } : Room) s m args below meth c H locs 0 0 (MQ below (QR none D (GX cy ad tk sp nm tp kp q.1 se ur ab lo im sy un q.2.1 q.2.2 li i2) (Ac ad 89)) args s 0 0 (Ac ad 89)) (F0 m 14 ls [])) {v5 : Int32} {v6 : Int32} (h : X6_readAll_161 tp se un k14 cu en ra v5 v6 = some q) {ls : Array Slot} (hl : lv_has ls 11 [(0, .ref (ad 45)), (1, .ref (ad 3)), (2, .ref (ad 4)), (3, .ref (ad 21)), (4, .ref (ad 34)), (5, .int v5), (6, .int v6)]) {H : Heap} {locs : List Loc} (hP : va_P D vwCl (GX cy ad tk sp nm tp kp cu se ur ab lo im sy un en ra li i2) H) (hS : va_S (Ac ad 89) s.heap H locs) : W p l e ({ frames := 4, cells := 0, slots := 0, locals := 103 } : Room) s m args below meth c H locs 0 0 (MQ below (QR none D (GX cy ad tk sp nm tp kp q.1 se ur ab lo im sy un q.2.1 q.2.2 li i2) (Ac ad 89)) args s 0 0 (Ac ad 89)) (F0 m 161 ls []) := by
  obtain ⟨hx, hb, hml, hown, hts, hr, hlk⟩ := id C
  unfold X6_readAll_161 at h
  refine lv_aload hx hb dX6_readAll_161 (lv_at hl 4 rfl) ?_
  refine lv_iload hx hb dX6_readAll_163 (lv_at hl 5 rfl) ?_
  refine lv_iconst (v := (4 : Int32)) hx hb dX6_readAll_165 (by decide) ?_
  refine cPi (run_V (rest := []) C (kX2_isTold rfl) caX2_isTold w944 ⟨rfl, rfl, Nat.le_of_ble_eq_true rfl, Nat.le_of_ble_eq_true rfl⟩ hK hN hP (rX34 hK hP) rfl hl.1 rfl (Nat.le_of_ble_eq_true rfl) dX6_readAll_166 ⟨Nat.zero_le _, Nat.zero_le _⟩) ?_
  refine lv_if_eq (tgt := 219) hx hb dX6_readAll_169 (by decide) (fun c1 => ?_) (fun c1 => ?_)
  · rw [if_pos c1] at h
    exact bX6_readAll_219 C hI hK hN @hk14 h (lv_sub hl [0, 1, 2, 3, 4, 5, 6] rfl) hP hS
  · rw [if_neg c1] at h
    refine lv_aload_n hx hb dX6_readAll_172 rfl (lv_at hl 0 rfl) ?_
    refine lv_aload hx hb dX6_readAll_173 (lv_at hl 4 rfl) ?_
    refine lv_aload_n hx hb dX6_readAll_175 rfl (lv_at hl 3 rfl) ?_
    refine gX21_1N C hK hP hN w454 dX6_readAll_176 ?_
    refine lv_aload hx hb dX6_readAll_179 (lv_at hl 4 rfl) ?_
    refine lv_iload hx hb dX6_readAll_181 (lv_at hl 5 rfl) ?_
    refine cPi (run_V (rest := [.ref (ad 27), .ref (ad 34), .ref (ad 45)]) C (kX2_unitOf rfl) caX2_unitOf w955 ⟨rfl, rfl, Nat.le_of_ble_eq_true rfl, Nat.le_of_ble_eq_true rfl⟩ hK hN hP (rX34 hK hP) rfl hl.1 rfl (Nat.le_of_ble_eq_true rfl) dX6_readAll_183 ⟨Nat.zero_le _, Nat.zero_le _⟩) ?_
    refine cPi (run_V (rest := [.ref (ad 34), .ref (ad 45)]) C (kX10_firstEntryOf rfl) caX10_firstEntryOf w959 ⟨rfl, rfl, Nat.le_of_ble_eq_true rfl, Nat.le_of_ble_eq_true rfl⟩ hK hN hP (rX27 hK hP) rfl hl.1 rfl (Nat.le_of_ble_eq_true rfl) dX6_readAll_186 ⟨Nat.zero_le _, Nat.zero_le _⟩) ?_
    refine lv_iconst (v := (1 : Int32)) hx hb dX6_readAll_189 (by decide) ?_
    refine lv_lconst (v := (0 : Int64)) hx hb dX6_readAll_190 (by decide) ?_
    refine cPl (run_V (rest := [.ref (ad 45)]) C (kX2_valueOr rfl) caX2_valueOr w943 ⟨rfl, rfl, Nat.le_of_ble_eq_true rfl, Nat.le_of_ble_eq_true rfl⟩ hK hN hP (rX34 hK hP) rfl hl.1 rfl (Nat.le_of_ble_eq_true rfl) dX6_readAll_191 ⟨Nat.zero_le _, Nat.zero_le _⟩) ?_
    refine pX45_3 (v := (X2_valueOr en (X10_firstEntryOf un (X2_unitOf en v5)) (1 : Int32) (0 : Int64))) C hI hK hP hS w374 dX6_readAll_194 (fun H locs hP hS => ?_)
    have hP : va_P D vwCl (GX cy ad tk sp nm tp kp cu se ur ab lo im sy un en (ra.1, ra.2.1, ra.2.2.1, (X2_valueOr en (X10_firstEntryOf un (X2_unitOf en v5)) (1 : Int32) (0 : Int64))) li i2) H := hP
    refine lv_aload_n hx hb dX6_readAll_197 rfl (lv_at hl 0 rfl) ?_
    refine lv_aload_n hx hb dX6_readAll_198 rfl (lv_at hl 1 rfl) ?_
    refine lv_aload_n hx hb dX6_readAll_199 rfl (lv_at hl 2 rfl) ?_
    refine lv_aload hx hb dX6_readAll_200 (lv_at hl 4 rfl) ?_
    refine lv_iload hx hb dX6_readAll_202 (lv_at hl 5 rfl) ?_
    refine lv_iconst (v := (4 : Int32)) hx hb dX6_readAll_204 (by decide) ?_
    refine lv_lconst (v := (0 : Int64)) hx hb dX6_readAll_205 (by decide) ?_
    refine cPl (run_V (rest := [.ref (ad 4), .ref (ad 3), .ref (ad 45)]) C (kX2_valueOr rfl) caX2_valueOr w943 ⟨rfl, rfl, Nat.le_of_ble_eq_true rfl, Nat.le_of_ble_eq_true rfl⟩ hK hN hP (rX34 hK hP) rfl hl.1 rfl (Nat.le_of_ble_eq_true rfl) dX6_readAll_206 ⟨Nat.zero_le _, Nat.zero_le _⟩) ?_
    refine lv_aload hx hb dX6_readAll_209 (lv_at hl 4 rfl) ?_
    refine lv_iload hx hb dX6_readAll_211 (lv_at hl 5 rfl) ?_
    refine cPi (run_V (rest := [.long (X2_valueOr en v5 (4 : Int32) (0 : Int64)), .ref (ad 4), .ref (ad 3), .ref (ad 45)]) C (kX2_placeOf rfl) caX2_placeOf w945 ⟨rfl, rfl, Nat.le_of_ble_eq_true rfl, Nat.le_of_ble_eq_true rfl⟩ hK hN hP (rX34 hK hP) rfl hl.1 rfl (Nat.le_of_ble_eq_true rfl) dX6_readAll_213 ⟨Nat.zero_le _, Nat.zero_le _⟩) ?_
    obtain ⟨q2, h3, h⟩ := bnd h
    refine cRv (run_V (rest := []) C (kX6_readList hI h3) caX6_readList w964 ⟨rfl, rfl, Nat.le_of_ble_eq_true rfl, Nat.le_of_ble_eq_true rfl⟩ hK hN hP (rX45 hK hP) rfl hl.1 rfl (Nat.le_of_ble_eq_true rfl) dX6_readAll_216 ⟨Nat.zero_le _, Nat.zero_le _⟩) hS (fun H locs hP hS => ?_)
    have hP : va_P D vwCl (GX cy ad tk sp nm tp kp q2.1 se ur ab lo im sy un en q2.2 li i2) H := hP
    exact bX6_readAll_219 C hI hK hN @hk14 h (lv_sub hl [0, 1, 2, 3, 4, 5, 6] rfl) hP hS
def X6_readAll_104 (tp : Ttp) (se : Tse) (un : Tun) (k14 : Tcu → Ten → Tra → Int32 → Option (Tcu × Ten × Tra)) (cu : Tcu) (en : Ten) (ra : Tra) (v5 : Int32) (v6 : Int32) (v7 : Int64) : Option (Tcu × Ten × Tra) := (if (X2_isTold en v5 (1 : Int32)) = 0 then X6_readAll_161 tp se un k14 cu en ra v5 v6 else (if (X2_isTold en v5 (3 : Int32)) = 0 then X6_readAll_161 tp se un k14 cu en ra v5 v6 else (letq (X6_add cu ra v7 (X11_above v7 (X2_valueOr en v5 (3 : Int32) (0 : Int64))) (X2_placeOf en v5)) fun q3 => X6_readAll_219 tp se un k14 q3.1 en q3.2 v5 v6)))
set_option maxRecDepth 20000 in
theorem bX6_readAll_104 (C : Cx p s m args meth c cX6_readAll 11 none RX6 (.code yX6_readAll cX6_readAll 11 none)) (hI : Apart ad 89) (hK : va_K D vwCl (tysX cy) s) (hN : NW s) {k14 : Tcu → Ten → Tra → Int32 → Option (Tcu × Ten × Tra)} {q : Tcu × Ten × Tra} (hk14 : ∀ {cu : Tcu} {en : Ten} {ra : Tra} {v5 : Int32}, k14 cu en ra v5 = some q → ∀ {ls : Array Slot}, lv_has ls 11 [(0, .ref (ad 45)), (1, .ref (ad 3)), (2, .ref (ad 4)), (3, .ref (ad 21)), (4, .ref (ad 34)), (5, .int v5)] → ∀ {H : Heap} {locs : List Loc}, va_P D vwCl (GX cy ad tk sp nm tp kp cu se ur ab lo im sy un en ra li i2) H → va_S (Ac ad 89) s.heap H locs → W p l e ({ frames := 4, cells := 0, slots := 0, locals := 103 } : Room) s m args below meth c H locs 0 0 (MQ below (QR none D (GX cy ad tk sp nm tp kp q.1 se ur ab lo im sy un q.2.1 q.2.2 li i2) (Ac ad 89)) args s 0 0 (Ac ad 89)) (F0 m 14 ls [])) {v5 : Int32} {v6 : Int32} {v7 : Int64} (h : X6_readAll_104 tp se un k14 cu en ra v5 v6 v7 = some q) {ls : Array Slot} (hl : lv_has ls 11 [(0, .ref (ad 45)), (1, .ref (ad 3)), (2, .ref (ad 4)), (3, .ref (ad 21)), (4, .ref (ad 34)), (5, .int v5), (6, .int v6), (7, .long v7)]) {H : Heap} {locs : List Loc} (hP : va_P D vwCl (GX cy ad tk sp nm tp kp cu se ur ab lo im sy un en ra li i2) H) (hS : va_S (Ac ad 89) s.heap H locs) : W p l e ({ frames := 4, cells := 0, slots := 0, locals := 103 } : Room) s m args below meth c H locs 0 0 (MQ below (QR none D (GX cy ad tk sp nm tp kp q.1 se ur ab lo im sy un q.2.1 q.2.2 li i2) (Ac ad 89)) args s 0 0 (Ac ad 89)) (F0 m 104 ls []) := by
  obtain ⟨hx, hb, hml, hown, hts, hr, hlk⟩ := id C
  unfold X6_readAll_104 at h
  refine lv_aload hx hb dX6_readAll_104 (lv_at hl 4 rfl) ?_
  refine lv_iload hx hb dX6_readAll_106 (lv_at hl 5 rfl) ?_
  refine lv_iconst (v := (1 : Int32)) hx hb dX6_readAll_108 (by decide) ?_
  refine cPi (run_V (rest := []) C (kX2_isTold rfl) caX2_isTold w944 ⟨rfl, rfl, Nat.le_of_ble_eq_true rfl, Nat.le_of_ble_eq_true rfl⟩ hK hN hP (rX34 hK hP) rfl hl.1 rfl (Nat.le_of_ble_eq_true rfl) dX6_readAll_109 ⟨Nat.zero_le _, Nat.zero_le _⟩) ?_
  refine lv_if_eq (tgt := 161) hx hb dX6_readAll_112 (by decide) (fun c1 => ?_) (fun c1 => ?_)
  · rw [if_pos c1] at h
    exact bX6_readAll_161 C hI hK hN @hk14 h (lv_sub hl [0, 1, 2, 3, 4, 5, 6] rfl) hP hS
  · rw [if_neg c1] at h
    refine lv_aload hx hb dX6_readAll_115 (lv_at hl 4 rfl) ?_
    refine lv_iload hx hb dX6_readAll_117 (lv_at hl 5 rfl) ?_
    refine lv_iconst (v := (3 : Int32)) hx hb dX6_readAll_119 (by decide) ?_
    refine cPi (run_V (rest := []) C (kX2_isTold rfl) caX2_isTold w944 ⟨rfl, rfl, Nat.le_of_ble_eq_true rfl, Nat.le_of_ble_eq_true rfl⟩ hK hN hP (rX34 hK hP) rfl hl.1 rfl (Nat.le_of_ble_eq_true rfl) dX6_readAll_120 ⟨Nat.zero_le _, Nat.zero_le _⟩) ?_
    refine lv_if_eq (tgt := 161) hx hb dX6_readAll_123 (by decide) (fun c2 => ?_) (fun c2 => ?_)
    · rw [if_pos c2] at h
      exact bX6_readAll_161 C hI hK hN @hk14 h (lv_sub hl [0, 1, 2, 3, 4, 5, 6] rfl) hP hS
    · rw [if_neg c2] at h
      refine lv_aload hx hb dX6_readAll_126 (lv_at hl 4 rfl) ?_
      refine lv_iload hx hb dX6_readAll_128 (lv_at hl 5 rfl) ?_
      refine lv_iconst (v := (3 : Int32)) hx hb dX6_readAll_130 (by decide) ?_
      refine lv_lconst (v := (0 : Int64)) hx hb dX6_readAll_131 (by decide) ?_
      refine cPl (run_V (rest := []) C (kX2_valueOr rfl) caX2_valueOr w943 ⟨rfl, rfl, Nat.le_of_ble_eq_true rfl, Nat.le_of_ble_eq_true rfl⟩ hK hN hP (rX34 hK hP) rfl hl.1 rfl (Nat.le_of_ble_eq_true rfl) dX6_readAll_132 ⟨Nat.zero_le _, Nat.zero_le _⟩) ?_
      refine lv_lstore (lv' := [(9, .long (X2_valueOr en v5 (3 : Int32) (0 : Int64))), (0, .ref (ad 45)), (1, .ref (ad 3)), (2, .ref (ad 4)), (3, .ref (ad 21)), (4, .ref (ad 34)), (5, .int v5), (6, .int v6), (7, .long v7)]) hx hb dX6_readAll_135 hl (by decide) rfl (fun ls hl => ?_)
      refine lv_aload_n hx hb dX6_readAll_137 rfl (lv_at hl 1 rfl) ?_
      refine lv_aload_n hx hb dX6_readAll_138 rfl (lv_at hl 2 rfl) ?_
      refine lv_lload hx hb dX6_readAll_139 (lv_at hl 8 rfl) ?_
      refine lv_lload hx hb dX6_readAll_141 (lv_at hl 8 rfl) ?_
      refine lv_lload hx hb dX6_readAll_143 (lv_at hl 0 rfl) ?_
      refine cPl (run_SN (rest := [.long v7, .ref (ad 3), .ref (ad 45)]) C (kX11_above rfl) caX11_above (hN.use w952 rfl) ⟨rfl, rfl, Nat.le_of_ble_eq_true rfl, Nat.le_of_ble_eq_true rfl⟩ hK hN hP rfl hl.1 rfl (Nat.le_of_ble_eq_true rfl) dX6_readAll_145 ⟨Nat.zero_le _, Nat.zero_le _⟩) ?_
      refine lv_aload hx hb dX6_readAll_148 (lv_at hl 5 rfl) ?_
      refine lv_iload hx hb dX6_readAll_150 (lv_at hl 6 rfl) ?_
      refine cPi (run_V (rest := [.long (X11_above v7 (X2_valueOr en v5 (3 : Int32) (0 : Int64))), .long v7, .ref (ad 3), .ref (ad 45)]) C (kX2_placeOf rfl) caX2_placeOf w945 ⟨rfl, rfl, Nat.le_of_ble_eq_true rfl, Nat.le_of_ble_eq_true rfl⟩ hK hN hP (rX34 hK hP) rfl hl.1 rfl (Nat.le_of_ble_eq_true rfl) dX6_readAll_152 ⟨Nat.zero_le _, Nat.zero_le _⟩) ?_
      obtain ⟨q3, h4, h⟩ := lets h
      refine cRv (run_V (rest := []) C (kX6_add hI h4) caX6_add w946 ⟨rfl, rfl, Nat.le_of_ble_eq_true rfl, Nat.le_of_ble_eq_true rfl⟩ hK hN hP (rX45 hK hP) rfl hl.1 rfl (Nat.le_of_ble_eq_true rfl) dX6_readAll_155 ⟨Nat.zero_le _, Nat.zero_le _⟩) hS (fun H locs hP hS => ?_)
      have hP : va_P D vwCl (GX cy ad tk sp nm tp kp q3.1 se ur ab lo im sy un en q3.2 li i2) H := hP
      refine lv_goto (tgt := 219) hx hb dX6_readAll_158 (by decide) ?_
      exact bX6_readAll_219 C hI hK hN @hk14 h (lv_sub hl [1, 2, 3, 4, 5, 6, 7] rfl) hP hS
def X6_readAll_14b (tp : Ttp) (se : Tse) (un : Tun)  (k14 : Tcu → Ten → Tra → Int32 → Option (Tcu × Ten × Tra)) (cu : Tcu) (en : Ten) (ra : Tra) (v5 : Int32) : Option (Tcu × Ten × Tra) := (if v5 < (400 : Int32) then (if v5 < (X2_total en) then (if (X1_sound cu) = 0 then some (cu, en, ra) else (if (X2_isTold en v5 (1 : Int32)) = 0 then X6_readAll_104 tp se un k14 cu en ra v5 ra.2.2.1 (X2_valueOr en v5 (1 : Int32) (0 : Int64)) else (if (X2_isTold en v5 (2 : Int32)) = 0 then X6_readAll_104 tp se un k14 cu en ra v5 ra.2.2.1 (X2_valueOr en v5 (1 : Int32) (0 : Int64)) else (letq (X6_add cu ra (X2_valueOr en v5 (1 : Int32) (0 : Int64)) (X2_valueOr en v5 (2 : Int32) (0 : Int64)) (X2_placeOf en v5)) fun q6 => X6_readAll_219 tp se un k14 q6.1 en q6.2 v5 ra.2.2.1)))) else some (cu, en, ra)) else some (cu, en, ra))
def X6_readAll_14 (tp : Ttp) (se : Tse) (un : Tun)  (n : Nat) (st : Tcu × Ten × Tra × Int32) : Option (Tcu × Ten × Tra) := lp (fun rec st => X6_readAll_14b tp se un  (fun a0 a1 a2 a3 => rec (a0, a1, a2, a3)) st.1 st.2.1 st.2.2.1 st.2.2.2) n st
set_option maxRecDepth 20000 in
theorem bX6_readAll_14 (C : Cx p s m args meth c cX6_readAll 11 none RX6 (.code yX6_readAll cX6_readAll 11 none)) (hI : Apart ad 89) (hK : va_K D vwCl (tysX cy) s) (hN : NW s)  {q : Tcu × Ten × Tra}  : ∀ (n : Nat) {cu : Tcu} {en : Ten} {ra : Tra} {v5 : Int32}, X6_readAll_14 tp se un  n (cu, en, ra, v5) = some q → ∀ {ls : Array Slot}, lv_has ls 11 [(0, .ref (ad 45)), (1, .ref (ad 3)), (2, .ref (ad 4)), (3, .ref (ad 21)), (4, .ref (ad 34)), (5, .int v5)] → ∀ {H : Heap} {locs : List Loc}, va_P D vwCl (GX cy ad tk sp nm tp kp cu se ur ab lo im sy un en ra li i2) H → va_S (Ac ad 89) s.heap H locs → W p l e ({ frames := 4, cells := 0, slots := 0, locals := 103 } : Room) s m args below meth c H locs 0 0 (MQ below (QR none D (GX cy ad tk sp nm tp kp q.1 se ur ab lo im sy un q.2.1 q.2.2 li i2) (Ac ad 89)) args s 0 0 (Ac ad 89)) (F0 m 14 ls []) := by
  obtain ⟨hx, hb, hml, hown, hts, hr, hlk⟩ := id C
  intro n
  induction n with
  | zero =>
    intro cu en ra v5 h ls hl H locs hP hS
    have h : (none : Option (Tcu × Ten × Tra)) = some q := h
    cases h
  | succ n ih =>
    intro cu en ra v5 h ls hl H locs hP hS
    have h : X6_readAll_14b tp se un  (fun a0 a1 a2 a3 => X6_readAll_14 tp se un  n (a0, a1, a2, a3)) cu en ra v5 = some q := h
    unfold X6_readAll_14b at h
    refine lv_iload hx hb dX6_readAll_14 (lv_at hl 5 rfl) ?_
    refine lv_sipush (v := (400 : Int32)) hx hb dX6_readAll_16 (by decide) ?_
    refine b_icmp_ge (tgt := 241) hx hb dX6_readAll_19 (by decide) (fun c1 => ?_) (fun c1 => ?_)
    · rw [if_neg c1] at h
      obtain rfl := Option.some.inj h
      exact W.vret hx hb hr (fun t ht _ => ⟨rfl, by rw [ht]; exact hP, hS.F ht⟩) hS.2.2 dX6_readAll_241 hlk
    · rw [if_pos c1] at h
      refine lv_iload hx hb dX6_readAll_22 (lv_at hl 5 rfl) ?_
      refine lv_aload hx hb dX6_readAll_24 (lv_at hl 4 rfl) ?_
      refine cPi (run_V (rest := [.int v5]) C (kX2_total rfl) caX2_total w941 ⟨rfl, rfl, Nat.le_of_ble_eq_true rfl, Nat.le_of_ble_eq_true rfl⟩ hK hN hP (rX34 hK hP) rfl hl.1 rfl (Nat.le_of_ble_eq_true rfl) dX6_readAll_26 ⟨Nat.zero_le _, Nat.zero_le _⟩) ?_
      refine b_icmp_ge (tgt := 241) hx hb dX6_readAll_29 (by decide) (fun c2 => ?_) (fun c2 => ?_)
      · rw [if_neg c2] at h
        obtain rfl := Option.some.inj h
        exact W.vret hx hb hr (fun t ht _ => ⟨rfl, by rw [ht]; exact hP, hS.F ht⟩) hS.2.2 dX6_readAll_241 hlk
      · rw [if_pos c2] at h
        refine lv_aload_n hx hb dX6_readAll_32 rfl (lv_at hl 1 rfl) ?_
        refine cPi (run_V (rest := []) C (kX1_sound rfl) caX1_sound w942 ⟨rfl, rfl, Nat.le_of_ble_eq_true rfl, Nat.le_of_ble_eq_true rfl⟩ hK hN hP (rX3 hK hP) rfl hl.1 rfl (Nat.le_of_ble_eq_true rfl) dX6_readAll_33 ⟨Nat.zero_le _, Nat.zero_le _⟩) ?_
        refine lv_if_eq (tgt := 241) hx hb dX6_readAll_36 (by decide) (fun c3 => ?_) (fun c3 => ?_)
        · rw [if_pos c3] at h
          obtain rfl := Option.some.inj h
          exact W.vret hx hb hr (fun t ht _ => ⟨rfl, by rw [ht]; exact hP, hS.F ht⟩) hS.2.2 dX6_readAll_241 hlk
        · rw [if_neg c3] at h
          refine lv_aload_n hx hb dX6_readAll_39 rfl (lv_at hl 0 rfl) ?_
          refine gX45_2 (v := ra.2.2.1) C hK hP rfl w373 dX6_readAll_40 ?_
          refine lv_istore (lv' := [(6, .int ra.2.2.1), (0, .ref (ad 45)), (1, .ref (ad 3)), (2, .ref (ad 4)), (3, .ref (ad 21)), (4, .ref (ad 34)), (5, .int v5)]) hx hb dX6_readAll_43 hl (by decide) rfl (fun ls hl => ?_)
          refine lv_aload hx hb dX6_readAll_45 (lv_at hl 5 rfl) ?_
          refine lv_iload hx hb dX6_readAll_47 (lv_at hl 6 rfl) ?_
          refine lv_iconst (v := (1 : Int32)) hx hb dX6_readAll_49 (by decide) ?_
          refine lv_lconst (v := (0 : Int64)) hx hb dX6_readAll_50 (by decide) ?_
          refine cPl (run_V (rest := []) C (kX2_valueOr rfl) caX2_valueOr w943 ⟨rfl, rfl, Nat.le_of_ble_eq_true rfl, Nat.le_of_ble_eq_true rfl⟩ hK hN hP (rX34 hK hP) rfl hl.1 rfl (Nat.le_of_ble_eq_true rfl) dX6_readAll_51 ⟨Nat.zero_le _, Nat.zero_le _⟩) ?_
          refine lv_lstore (lv' := [(7, .long (X2_valueOr en v5 (1 : Int32) (0 : Int64))), (6, .int ra.2.2.1), (0, .ref (ad 45)), (1, .ref (ad 3)), (2, .ref (ad 4)), (3, .ref (ad 21)), (4, .ref (ad 34)), (5, .int v5)]) hx hb dX6_readAll_54 hl (by decide) rfl (fun ls hl => ?_)
          refine lv_aload hx hb dX6_readAll_56 (lv_at hl 6 rfl) ?_
          refine lv_iload hx hb dX6_readAll_58 (lv_at hl 7 rfl) ?_
          refine lv_iconst (v := (1 : Int32)) hx hb dX6_readAll_60 (by decide) ?_
          refine cPi (run_V (rest := []) C (kX2_isTold rfl) caX2_isTold w944 ⟨rfl, rfl, Nat.le_of_ble_eq_true rfl, Nat.le_of_ble_eq_true rfl⟩ hK hN hP (rX34 hK hP) rfl hl.1 rfl (Nat.le_of_ble_eq_true rfl) dX6_readAll_61 ⟨Nat.zero_le _, Nat.zero_le _⟩) ?_
          refine lv_if_eq (tgt := 104) hx hb dX6_readAll_64 (by decide) (fun c4 => ?_) (fun c4 => ?_)
          · rw [if_pos c4] at h
            exact bX6_readAll_104 C hI hK hN @ih h (lv_sub hl [2, 3, 4, 5, 6, 7, 1, 0] rfl) hP hS
          · rw [if_neg c4] at h
            refine lv_aload hx hb dX6_readAll_67 (lv_at hl 6 rfl) ?_
            refine lv_iload hx hb dX6_readAll_69 (lv_at hl 7 rfl) ?_
            refine lv_iconst (v := (2 : Int32)) hx hb dX6_readAll_71 (by decide) ?_
            refine cPi (run_V (rest := []) C (kX2_isTold rfl) caX2_isTold w944 ⟨rfl, rfl, Nat.le_of_ble_eq_true rfl, Nat.le_of_ble_eq_true rfl⟩ hK hN hP (rX34 hK hP) rfl hl.1 rfl (Nat.le_of_ble_eq_true rfl) dX6_readAll_72 ⟨Nat.zero_le _, Nat.zero_le _⟩) ?_
            refine lv_if_eq (tgt := 104) hx hb dX6_readAll_75 (by decide) (fun c5 => ?_) (fun c5 => ?_)
            · rw [if_pos c5] at h
              exact bX6_readAll_104 C hI hK hN @ih h (lv_sub hl [2, 3, 4, 5, 6, 7, 1, 0] rfl) hP hS
            · rw [if_neg c5] at h
              refine lv_aload_n hx hb dX6_readAll_78 rfl (lv_at hl 2 rfl) ?_
              refine lv_aload_n hx hb dX6_readAll_79 rfl (lv_at hl 3 rfl) ?_
              refine lv_lload hx hb dX6_readAll_80 (lv_at hl 0 rfl) ?_
              refine lv_aload hx hb dX6_readAll_82 (lv_at hl 6 rfl) ?_
              refine lv_iload hx hb dX6_readAll_84 (lv_at hl 7 rfl) ?_
              refine lv_iconst (v := (2 : Int32)) hx hb dX6_readAll_86 (by decide) ?_
              refine lv_lconst (v := (0 : Int64)) hx hb dX6_readAll_87 (by decide) ?_
              refine cPl (run_V (rest := [.long (X2_valueOr en v5 (1 : Int32) (0 : Int64)), .ref (ad 3), .ref (ad 45)]) C (kX2_valueOr rfl) caX2_valueOr w943 ⟨rfl, rfl, Nat.le_of_ble_eq_true rfl, Nat.le_of_ble_eq_true rfl⟩ hK hN hP (rX34 hK hP) rfl hl.1 rfl (Nat.le_of_ble_eq_true rfl) dX6_readAll_88 ⟨Nat.zero_le _, Nat.zero_le _⟩) ?_
              refine lv_aload hx hb dX6_readAll_91 (lv_at hl 6 rfl) ?_
              refine lv_iload hx hb dX6_readAll_93 (lv_at hl 7 rfl) ?_
              refine cPi (run_V (rest := [.long (X2_valueOr en v5 (2 : Int32) (0 : Int64)), .long (X2_valueOr en v5 (1 : Int32) (0 : Int64)), .ref (ad 3), .ref (ad 45)]) C (kX2_placeOf rfl) caX2_placeOf w945 ⟨rfl, rfl, Nat.le_of_ble_eq_true rfl, Nat.le_of_ble_eq_true rfl⟩ hK hN hP (rX34 hK hP) rfl hl.1 rfl (Nat.le_of_ble_eq_true rfl) dX6_readAll_95 ⟨Nat.zero_le _, Nat.zero_le _⟩) ?_
              obtain ⟨q6, h7, h⟩ := lets h
              refine cRv (run_V (rest := []) C (kX6_add hI h7) caX6_add w946 ⟨rfl, rfl, Nat.le_of_ble_eq_true rfl, Nat.le_of_ble_eq_true rfl⟩ hK hN hP (rX45 hK hP) rfl hl.1 rfl (Nat.le_of_ble_eq_true rfl) dX6_readAll_98 ⟨Nat.zero_le _, Nat.zero_le _⟩) hS (fun H locs hP hS => ?_)
              have hP : va_P D vwCl (GX cy ad tk sp nm tp kp q6.1 se ur ab lo im sy un en q6.2 li i2) H := hP
              refine lv_goto (tgt := 219) hx hb dX6_readAll_101 (by decide) ?_
              exact bX6_readAll_219 C hI hK hN @ih h (lv_sub hl [2, 3, 4, 5, 6, 7, 1] rfl) hP hS
def X6_readAll (tp : Ttp) (cu : Tcu) (se : Tse) (un : Tun) (en : Ten) (ra : Tra)  : Option (Tcu × Ten × Tra) := X6_readAll_14 tp se un FU (cu, en, (ra.1, ra.2.1, (0 : Int32), ra.2.2.2), (0 : Int32))
set_option maxRecDepth 20000 in
theorem bX6_readAll_0 (C : Cx p s m args meth c cX6_readAll 11 none RX6 (.code yX6_readAll cX6_readAll 11 none)) (hI : Apart ad 89) (hK : va_K D vwCl (tysX cy) s) (hN : NW s)  {q : Tcu × Ten × Tra}   (h : X6_readAll tp cu se un en ra = some q) {ls : Array Slot} (hl : lv_has ls 11 [(0, .ref (ad 45)), (1, .ref (ad 3)), (2, .ref (ad 4)), (3, .ref (ad 21))]) {H : Heap} {locs : List Loc} (hP : va_P D vwCl (GX cy ad tk sp nm tp kp cu se ur ab lo im sy un en ra li i2) H) (hS : va_S (Ac ad 89) s.heap H locs) : W p l e ({ frames := 4, cells := 0, slots := 0, locals := 103 } : Room) s m args below meth c H locs 0 0 (MQ below (QR none D (GX cy ad tk sp nm tp kp q.1 se ur ab lo im sy un q.2.1 q.2.2 li i2) (Ac ad 89)) args s 0 0 (Ac ad 89)) (F0 m 0 ls []) := by
  obtain ⟨hx, hb, hml, hown, hts, hr, hlk⟩ := id C
  unfold X6_readAll at h
  refine lv_aload_n hx hb dX6_readAll_0 rfl (lv_at hl 0 rfl) ?_
  refine lv_iconst (v := (0 : Int32)) hx hb dX6_readAll_1 (by decide) ?_
  refine pX45_2 (v := (0 : Int32)) C hI hK hP hS w373 dX6_readAll_2 (fun H locs hP hS => ?_)
  have hP : va_P D vwCl (GX cy ad tk sp nm tp kp cu se ur ab lo im sy un en (ra.1, ra.2.1, (0 : Int32), ra.2.2.2) li i2) H := hP
  refine lv_aload_n hx hb dX6_readAll_5 rfl (lv_at hl 3 rfl) ?_
  refine gX21_2N C hK hP hN w458 dX6_readAll_6 ?_
  refine lv_astore (lv' := [(4, .ref (ad 34)), (0, .ref (ad 45)), (1, .ref (ad 3)), (2, .ref (ad 4)), (3, .ref (ad 21))]) hx hb dX6_readAll_9 hl (by decide) rfl (fun ls hl => ?_)
  refine lv_iconst (v := (0 : Int32)) hx hb dX6_readAll_11 (by decide) ?_
  refine lv_istore (lv' := [(5, .int (0 : Int32)), (4, .ref (ad 34)), (0, .ref (ad 45)), (1, .ref (ad 3)), (2, .ref (ad 4)), (3, .ref (ad 21))]) hx hb dX6_readAll_12 hl (by decide) rfl (fun ls hl => ?_)
  exact bX6_readAll_14 C hI hK hN FU h (lv_sub hl [2, 3, 4, 5, 1, 0] rfl) hP hS
theorem kX6_readAll (hI : Apart ad 89)  {q : Tcu × Ten × Tra} (h : X6_readAll tp cu se un en ra = some q) : Met l yX6_readAll (.code yX6_readAll cX6_readAll 11 none :: WA) ({ frames := 4, cells := 0, slots := 0, locals := 103 } : Room) (va_Pc [.ref (ad 45), .ref (ad 3), .ref (ad 4), .ref (ad 21)] (PR D cy (GX cy ad tk sp nm tp kp cu se ur ab lo im sy un en ra li i2))) (QR none D (GX cy ad tk sp nm tp kp q.1 se ur ab lo im sy un q.2.1 q.2.2 li i2) (Ac ad 89)) 0 0 (Ac ad 89) :=
  met_of (by decide) (Nat.le_of_ble_eq_true rfl) (fun p e s m below meth c ls C hP hK hN hl => bX6_readAll_0 C hI hK hN h hl hP va_S.rf)
def X6_total (ra : Tra)  : Int32 := ra.2.2.1
set_option maxRecDepth 20000 in
theorem bX6_total_0 (C : Cx p s m args meth c cX6_total 1 (some .int) RX6 (.code yX6_total cX6_total 1 (some .int))) (hK : va_K D vwCl (tysX cy) s) (hN : NW s)  {q : Int32}   (h : X6_total ra = q) {ls : Array Slot} (hl : lv_has ls 1 [(0, .ref (ad 45))]) (hP : va_P D vwCl (GX cy ad tk sp nm tp kp cu se ur ab lo im sy un en ra li i2) s.heap) : W p l e ({ frames := 0, cells := 0, slots := 0, locals := 0 } : Room) s m args below meth c s.heap [] 0 0 (MQ below (QP (some (.int q))) args s 0 0 (fun _ => False)) (F0 m 0 ls []) := by
  obtain ⟨hx, hb, hml, hown, hts, hr, hlk⟩ := id C
  unfold X6_total at h
  refine lv_aload_n hx hb dX6_total_0 rfl (lv_at hl 0 rfl) ?_
  refine gX45_2 (v := ra.2.2.1) C hK hP rfl w373 dX6_total_1 ?_
  obtain rfl := h
  exact W.iret hx hb hr (fun t ht _ => ⟨rfl, ht⟩) (fun _ h9 => by cases h9) dX6_total_4 hlk
theorem kX6_total   {q : Int32} (h : X6_total ra = q) : Met l yX6_total (.code yX6_total cX6_total 1 (some .int) :: WA) ({ frames := 0, cells := 0, slots := 0, locals := 0 } : Room) (va_Pc [.ref (ad 45)] (PR D cy (GX cy ad tk sp nm tp kp cu se ur ab lo im sy un en ra li i2))) (QP (some (.int q))) 0 0 (fun _ => False) :=
  met_of (by decide) (Nat.le_of_ble_eq_true rfl) (fun p e s m below meth c ls C hP hK hN hl => bX6_total_0 C hK hN h hl hP)
def X7_readHead_37 (tp : Ttp) (k2 : Tcu → Tse → Int32 → Option (Tcu × Tse)) (cu : Tcu) (se : Tse) (v2 : Int32) : Option (Tcu × Tse) := k2 cu se (v2 + (1 : Int32))
set_option maxRecDepth 20000 in
theorem bX7_readHead_37 (C : Cx p s m args meth c cX7_readHead 8 none RX7 (.code yX7_readHead cX7_readHead 8 none)) (hI : Apart ad 89) (hK : va_K D vwCl (tysX cy) s) (hN : NW s) (hF : SF t adK adV (Ac ad 89) s s.heap) {k2 : Tcu → Tse → Int32 → Option (Tcu × Tse)} {q : Tcu × Tse} (hk2 : ∀ {cu : Tcu} {se : Tse} {v2 : Int32}, k2 cu se v2 = some q → ∀ {ls : Array Slot}, lv_has ls 8 [(0, .ref (ad 4)), (1, .ref (ad 3)), (2, .int v2)] → ∀ {H : Heap} {locs : List Loc}, va_P D vwCl (GX cy ad tk sp nm tp kp cu se ur ab lo im sy un en ra li i2) H → va_S (Ac ad 89) s.heap H locs → W p l e ({ frames := 1, cells := 0, slots := 0, locals := 28 } : Room) s m args below meth c H locs 0 0 (MQ below (QR none D (GX cy ad tk sp nm tp kp q.1 q.2 ur ab lo im sy un en ra li i2) (Ac ad 89)) args s 0 0 (Ac ad 89)) (F0 m 2 ls [])) {v2 : Int32} (h : X7_readHead_37 tp k2 cu se v2 = some q) {ls : Array Slot} (hl : lv_has ls 8 [(0, .ref (ad 4)), (1, .ref (ad 3)), (2, .int v2)]) {H : Heap} {locs : List Loc} (hP : va_P D vwCl (GX cy ad tk sp nm tp kp cu se ur ab lo im sy un en ra li i2) H) (hS : va_S (Ac ad 89) s.heap H locs) : W p l e ({ frames := 1, cells := 0, slots := 0, locals := 28 } : Room) s m args below meth c H locs 0 0 (MQ below (QR none D (GX cy ad tk sp nm tp kp q.1 q.2 ur ab lo im sy un en ra li i2) (Ac ad 89)) args s 0 0 (Ac ad 89)) (F0 m 37 ls []) := by
  obtain ⟨hx, hb, hml, hown, hts, hr, hlk⟩ := id C
  unfold X7_readHead_37 at h
  refine lv_iinc (v := (v2 + (1 : Int32))) (lv' := [(2, .int (v2 + (1 : Int32))), (0, .ref (ad 4)), (1, .ref (ad 3))]) hx hb dX7_readHead_37 hl (k := 2) rfl rfl (by decide) rfl (fun ls hl => ?_)
  refine lv_goto (tgt := 2) hx hb dX7_readHead_40 (by decide) ?_
  exact hk2 h (lv_sub hl [1, 2, 0] rfl) hP hS
def X7_readHead_172 (tp : Ttp)  (cu : Tcu) (se : Tse) (v2 : Int64) (v4 : Int64) (v6 : Int64) : Option (Tcu × Tse) := (if (X1_sound cu) = 0 then some (cu, se) else some (cu, (se.1, se.2.1, se.2.2.1, ((v2).toInt32), ((v6).toInt32), ((v4).toInt32))))
set_option maxRecDepth 20000 in
theorem bX7_readHead_172 (C : Cx p s m args meth c cX7_readHead 8 none RX7 (.code yX7_readHead cX7_readHead 8 none)) (hI : Apart ad 89) (hK : va_K D vwCl (tysX cy) s) (hN : NW s) (hF : SF t adK adV (Ac ad 89) s s.heap)  {q : Tcu × Tse}  {v2 : Int64} {v4 : Int64} {v6 : Int64} (h : X7_readHead_172 tp cu se v2 v4 v6 = some q) {ls : Array Slot} (hl : lv_has ls 8 [(0, .ref (ad 4)), (1, .ref (ad 3)), (2, .long v2), (4, .long v4), (6, .long v6)]) {H : Heap} {locs : List Loc} (hP : va_P D vwCl (GX cy ad tk sp nm tp kp cu se ur ab lo im sy un en ra li i2) H) (hS : va_S (Ac ad 89) s.heap H locs) : W p l e ({ frames := 1, cells := 0, slots := 0, locals := 28 } : Room) s m args below meth c H locs 0 0 (MQ below (QR none D (GX cy ad tk sp nm tp kp q.1 q.2 ur ab lo im sy un en ra li i2) (Ac ad 89)) args s 0 0 (Ac ad 89)) (F0 m 172 ls []) := by
  obtain ⟨hx, hb, hml, hown, hts, hr, hlk⟩ := id C
  unfold X7_readHead_172 at h
  refine lv_aload_n hx hb dX7_readHead_172 rfl (lv_at hl 1 rfl) ?_
  refine cPi (run_V (rest := []) C (kX1_sound rfl) caX1_sound w573 ⟨rfl, rfl, Nat.le_of_ble_eq_true rfl, Nat.le_of_ble_eq_true rfl⟩ hK hN hP (rX3 hK hP) rfl hl.1 rfl (Nat.le_of_ble_eq_true rfl) dX7_readHead_173 ⟨Nat.zero_le _, Nat.zero_le _⟩) ?_
  refine lv_if_eq (tgt := 199) hx hb dX7_readHead_176 (by decide) (fun c1 => ?_) (fun c1 => ?_)
  · rw [if_pos c1] at h
    obtain rfl := Option.some.inj h
    exact W.vret hx hb hr (fun t ht _ => ⟨rfl, by rw [ht]; exact hP, hS.F ht⟩) hS.2.2 dX7_readHead_199 hlk
  · rw [if_neg c1] at h
    refine lv_aload_n hx hb dX7_readHead_179 rfl (lv_at hl 0 rfl) ?_
    refine lv_lload_n hx hb dX7_readHead_180 rfl (lv_at hl 2 rfl) ?_
    refine lv_l2i (v := ((v2).toInt32)) hx hb dX7_readHead_181 rfl ?_
    refine pX4_3 (v := ((v2).toInt32)) C hI hK hP hS w158 dX7_readHead_182 (fun H locs hP hS => ?_)
    have hP : va_P D vwCl (GX cy ad tk sp nm tp kp cu (se.1, se.2.1, se.2.2.1, ((v2).toInt32), se.2.2.2.2.1, se.2.2.2.2.2) ur ab lo im sy un en ra li i2) H := hP
    refine lv_aload_n hx hb dX7_readHead_185 rfl (lv_at hl 0 rfl) ?_
    refine lv_lload hx hb dX7_readHead_186 (lv_at hl 3 rfl) ?_
    refine lv_l2i (v := ((v4).toInt32)) hx hb dX7_readHead_188 rfl ?_
    refine pX4_5 (v := ((v4).toInt32)) C hI hK hP hS w160 dX7_readHead_189 (fun H locs hP hS => ?_)
    have hP : va_P D vwCl (GX cy ad tk sp nm tp kp cu (se.1, se.2.1, se.2.2.1, ((v2).toInt32), se.2.2.2.2.1, ((v4).toInt32)) ur ab lo im sy un en ra li i2) H := hP
    refine lv_aload_n hx hb dX7_readHead_192 rfl (lv_at hl 0 rfl) ?_
    refine lv_lload hx hb dX7_readHead_193 (lv_at hl 4 rfl) ?_
    refine lv_l2i (v := ((v6).toInt32)) hx hb dX7_readHead_195 rfl ?_
    refine pX4_4 (v := ((v6).toInt32)) C hI hK hP hS w159 dX7_readHead_196 (fun H locs hP hS => ?_)
    have hP : va_P D vwCl (GX cy ad tk sp nm tp kp cu (se.1, se.2.1, se.2.2.1, ((v2).toInt32), ((v6).toInt32), ((v4).toInt32)) ur ab lo im sy un en ra li i2) H := hP
    obtain rfl := Option.some.inj h
    exact W.vret hx hb hr (fun t ht _ => ⟨rfl, by rw [ht]; exact hP, hS.F ht⟩) hS.2.2 dX7_readHead_199 hlk
def X7_readHead_141 (tp : Ttp)  (cu : Tcu) (se : Tse) (v2 : Int64) (v4 : Int64) : Option (Tcu × Tse) := ((X1_numberAt tp (40 : Int32) (8 : Int32)).bind fun q1 => (if (X1_lies cu q1 (v2 * (64 : Int64))) = 0 then (letq (X1_refuse cu (1 : Int32) (40 : Int32)) fun q4 => X7_readHead_172 tp q4 se v2 v4 q1) else X7_readHead_172 tp cu se v2 v4 q1))
set_option maxRecDepth 20000 in
theorem bX7_readHead_141 (C : Cx p s m args meth c cX7_readHead 8 none RX7 (.code yX7_readHead cX7_readHead 8 none)) (hI : Apart ad 89) (hK : va_K D vwCl (tysX cy) s) (hN : NW s) (hF : SF t adK adV (Ac ad 89) s s.heap)  {q : Tcu × Tse}  {v2 : Int64} {v4 : Int64} (h : X7_readHead_141 tp cu se v2 v4 = some q) {ls : Array Slot} (hl : lv_has ls 8 [(0, .ref (ad 4)), (1, .ref (ad 3)), (2, .long v2), (4, .long v4)]) {H : Heap} {locs : List Loc} (hP : va_P D vwCl (GX cy ad tk sp nm tp kp cu se ur ab lo im sy un en ra li i2) H) (hS : va_S (Ac ad 89) s.heap H locs) : W p l e ({ frames := 1, cells := 0, slots := 0, locals := 28 } : Room) s m args below meth c H locs 0 0 (MQ below (QR none D (GX cy ad tk sp nm tp kp q.1 q.2 ur ab lo im sy un en ra li i2) (Ac ad 89)) args s 0 0 (Ac ad 89)) (F0 m 141 ls []) := by
  obtain ⟨hx, hb, hml, hown, hts, hr, hlk⟩ := id C
  unfold X7_readHead_141 at h
  refine lv_aload_n hx hb dX7_readHead_141 rfl (lv_at hl 1 rfl) ?_
  refine lv_bipush (v := (40 : Int32)) hx hb dX7_readHead_142 (by decide) ?_
  refine lv_bipush (v := (8 : Int32)) hx hb dX7_readHead_144 (by decide) ?_
  obtain ⟨q1, h2, h⟩ := bnd h
  refine cPl (run_V (rest := []) C (kX1_numberAt h2) caX1_numberAt w563 ⟨rfl, rfl, Nat.le_of_ble_eq_true rfl, Nat.le_of_ble_eq_true rfl⟩ hK hN hP (rX3 hK hP) rfl hl.1 rfl (Nat.le_of_ble_eq_true rfl) dX7_readHead_146 ⟨Nat.zero_le _, Nat.zero_le _⟩) ?_
  refine lv_lstore (lv' := [(6, .long q1), (0, .ref (ad 4)), (1, .ref (ad 3)), (2, .long v2), (4, .long v4)]) hx hb dX7_readHead_149 hl (by decide) rfl (fun ls hl => ?_)
  refine lv_aload_n hx hb dX7_readHead_151 rfl (lv_at hl 2 rfl) ?_
  refine lv_lload hx hb dX7_readHead_152 (lv_at hl 0 rfl) ?_
  refine lv_lload_n hx hb dX7_readHead_154 rfl (lv_at hl 3 rfl) ?_
  refine lv_ldc2 (v := (64 : Int64)) hx hb hown (hts _ (List.mem_cons_of_mem _ w567)) dX7_readHead_155 ?_
  refine lv_lmul hx hb dX7_readHead_158 ?_
  refine cPi (run_V (rest := []) C (kX1_lies rfl) caX1_lies w569 ⟨rfl, rfl, Nat.le_of_ble_eq_true rfl, Nat.le_of_ble_eq_true rfl⟩ hK hN hP (rX3 hK hP) rfl hl.1 rfl (Nat.le_of_ble_eq_true rfl) dX7_readHead_159 ⟨Nat.zero_le _, Nat.zero_le _⟩) ?_
  refine lv_if_ne (tgt := 172) hx hb dX7_readHead_162 (by decide) (fun c3 => ?_) (fun c3 => ?_)
  · rw [if_neg c3] at h
    exact bX7_readHead_172 C hI hK hN hF h (lv_sub hl [1, 2, 3, 4, 0] rfl) hP hS
  · rw [if_pos c3] at h
    refine lv_aload_n hx hb dX7_readHead_165 rfl (lv_at hl 2 rfl) ?_
    refine lv_iconst (v := (1 : Int32)) hx hb dX7_readHead_166 (by decide) ?_
    refine lv_bipush (v := (40 : Int32)) hx hb dX7_readHead_167 (by decide) ?_
    obtain ⟨q4, h5, h⟩ := lets h
    refine cRv (run_V (rest := []) C (kX1_refuse hI h5) caX1_refuse w559 ⟨rfl, rfl, Nat.le_of_ble_eq_true rfl, Nat.le_of_ble_eq_true rfl⟩ hK hN hP (rX3 hK hP) rfl hl.1 rfl (Nat.le_of_ble_eq_true rfl) dX7_readHead_169 ⟨Nat.zero_le _, Nat.zero_le _⟩) hS (fun H locs hP hS => ?_)
    have hP : va_P D vwCl (GX cy ad tk sp nm tp kp q4 se ur ab lo im sy un en ra li i2) H := hP
    exact bX7_readHead_172 C hI hK hN hF h (lv_sub hl [1, 2, 3, 4, 0] rfl) hP hS
def X7_readHead_118 (tp : Ttp)  (cu : Tcu) (se : Tse) (v2 : Int64) : Option (Tcu × Tse) := ((X1_numberAt tp (62 : Int32) (2 : Int32)).bind fun q1 => (if q1 < v2 then X7_readHead_141 tp cu se v2 q1 else (letq (X1_refuse cu (3 : Int32) (62 : Int32)) fun q4 => X7_readHead_141 tp q4 se v2 q1)))
set_option maxRecDepth 20000 in
theorem bX7_readHead_118 (C : Cx p s m args meth c cX7_readHead 8 none RX7 (.code yX7_readHead cX7_readHead 8 none)) (hI : Apart ad 89) (hK : va_K D vwCl (tysX cy) s) (hN : NW s) (hF : SF t adK adV (Ac ad 89) s s.heap)  {q : Tcu × Tse}  {v2 : Int64} (h : X7_readHead_118 tp cu se v2 = some q) {ls : Array Slot} (hl : lv_has ls 8 [(0, .ref (ad 4)), (1, .ref (ad 3)), (2, .long v2)]) {H : Heap} {locs : List Loc} (hP : va_P D vwCl (GX cy ad tk sp nm tp kp cu se ur ab lo im sy un en ra li i2) H) (hS : va_S (Ac ad 89) s.heap H locs) : W p l e ({ frames := 1, cells := 0, slots := 0, locals := 28 } : Room) s m args below meth c H locs 0 0 (MQ below (QR none D (GX cy ad tk sp nm tp kp q.1 q.2 ur ab lo im sy un en ra li i2) (Ac ad 89)) args s 0 0 (Ac ad 89)) (F0 m 118 ls []) := by
  obtain ⟨hx, hb, hml, hown, hts, hr, hlk⟩ := id C
  unfold X7_readHead_118 at h
  refine lv_aload_n hx hb dX7_readHead_118 rfl (lv_at hl 1 rfl) ?_
  refine lv_bipush (v := (62 : Int32)) hx hb dX7_readHead_119 (by decide) ?_
  refine lv_iconst (v := (2 : Int32)) hx hb dX7_readHead_121 (by decide) ?_
  obtain ⟨q1, h2, h⟩ := bnd h
  refine cPl (run_V (rest := []) C (kX1_numberAt h2) caX1_numberAt w563 ⟨rfl, rfl, Nat.le_of_ble_eq_true rfl, Nat.le_of_ble_eq_true rfl⟩ hK hN hP (rX3 hK hP) rfl hl.1 rfl (Nat.le_of_ble_eq_true rfl) dX7_readHead_122 ⟨Nat.zero_le _, Nat.zero_le _⟩) ?_
  refine lv_lstore (lv' := [(4, .long q1), (0, .ref (ad 4)), (1, .ref (ad 3)), (2, .long v2)]) hx hb dX7_readHead_125 hl (by decide) rfl (fun ls hl => ?_)
  refine lv_lload hx hb dX7_readHead_127 (lv_at hl 0 rfl) ?_
  refine lv_lload_n hx hb dX7_readHead_129 rfl (lv_at hl 3 rfl) ?_
  refine lc_lt (tgt := 141) hx hb dX7_readHead_130 dX7_readHead_131 (by decide) (fun c3 => ?_) (fun c3 => ?_)
  · rw [if_pos c3] at h
    exact bX7_readHead_141 C hI hK hN hF h (lv_sub hl [1, 2, 3, 0] rfl) hP hS
  · rw [if_neg c3] at h
    refine lv_aload_n hx hb dX7_readHead_134 rfl (lv_at hl 2 rfl) ?_
    refine lv_iconst (v := (3 : Int32)) hx hb dX7_readHead_135 (by decide) ?_
    refine lv_bipush (v := (62 : Int32)) hx hb dX7_readHead_136 (by decide) ?_
    obtain ⟨q4, h5, h⟩ := lets h
    refine cRv (run_V (rest := []) C (kX1_refuse hI h5) caX1_refuse w559 ⟨rfl, rfl, Nat.le_of_ble_eq_true rfl, Nat.le_of_ble_eq_true rfl⟩ hK hN hP (rX3 hK hP) rfl hl.1 rfl (Nat.le_of_ble_eq_true rfl) dX7_readHead_138 ⟨Nat.zero_le _, Nat.zero_le _⟩) hS (fun H locs hP hS => ?_)
    have hP : va_P D vwCl (GX cy ad tk sp nm tp kp q4 se ur ab lo im sy un en ra li i2) H := hP
    exact bX7_readHead_141 C hI hK hN hF h (lv_sub hl [1, 2, 3, 0] rfl) hP hS
def X7_readHead_79 (tp : Ttp)  (cu : Tcu) (se : Tse)  : Option (Tcu × Tse) := ((X1_numberAt tp (60 : Int32) (2 : Int32)).bind fun q1 => (if q1 = (0 : Int64) then (letq (X1_refuse cu (2 : Int32) (60 : Int32)) fun q7 => X7_readHead_118 tp q7 se q1) else (if (30 : Int64) < q1 then (letq (X1_refuse cu (4 : Int32) (60 : Int32)) fun q5 => X7_readHead_118 tp q5 se q1) else X7_readHead_118 tp cu se q1)))
set_option maxRecDepth 20000 in
theorem bX7_readHead_79 (C : Cx p s m args meth c cX7_readHead 8 none RX7 (.code yX7_readHead cX7_readHead 8 none)) (hI : Apart ad 89) (hK : va_K D vwCl (tysX cy) s) (hN : NW s) (hF : SF t adK adV (Ac ad 89) s s.heap)  {q : Tcu × Tse}   (h : X7_readHead_79 tp cu se = some q) {ls : Array Slot} (hl : lv_has ls 8 [(0, .ref (ad 4)), (1, .ref (ad 3))]) {H : Heap} {locs : List Loc} (hP : va_P D vwCl (GX cy ad tk sp nm tp kp cu se ur ab lo im sy un en ra li i2) H) (hS : va_S (Ac ad 89) s.heap H locs) : W p l e ({ frames := 1, cells := 0, slots := 0, locals := 28 } : Room) s m args below meth c H locs 0 0 (MQ below (QR none D (GX cy ad tk sp nm tp kp q.1 q.2 ur ab lo im sy un en ra li i2) (Ac ad 89)) args s 0 0 (Ac ad 89)) (F0 m 79 ls []) := by
  obtain ⟨hx, hb, hml, hown, hts, hr, hlk⟩ := id C
  unfold X7_readHead_79 at h
  refine lv_aload_n hx hb dX7_readHead_79 rfl (lv_at hl 1 rfl) ?_
  refine lv_bipush (v := (60 : Int32)) hx hb dX7_readHead_80 (by decide) ?_
  refine lv_iconst (v := (2 : Int32)) hx hb dX7_readHead_82 (by decide) ?_
  obtain ⟨q1, h2, h⟩ := bnd h
  refine cPl (run_V (rest := []) C (kX1_numberAt h2) caX1_numberAt w563 ⟨rfl, rfl, Nat.le_of_ble_eq_true rfl, Nat.le_of_ble_eq_true rfl⟩ hK hN hP (rX3 hK hP) rfl hl.1 rfl (Nat.le_of_ble_eq_true rfl) dX7_readHead_83 ⟨Nat.zero_le _, Nat.zero_le _⟩) ?_
  refine lv_lstore_n (lv' := [(2, .long q1), (0, .ref (ad 4)), (1, .ref (ad 3))]) hx hb dX7_readHead_86 rfl hl (by decide) rfl (fun ls hl => ?_)
  refine lv_lload_n hx hb dX7_readHead_87 rfl (lv_at hl 0 rfl) ?_
  refine lv_lconst (v := (0 : Int64)) hx hb dX7_readHead_88 (by decide) ?_
  refine lc_ne (tgt := 103) hx hb dX7_readHead_89 dX7_readHead_90 (by decide) (fun c3 => ?_) (fun c3 => ?_)
  · rw [if_neg c3] at h
    refine lv_lload_n hx hb dX7_readHead_103 rfl (lv_at hl 0 rfl) ?_
    refine lv_ldc2 (v := (30 : Int64)) hx hb hown (hts _ (List.mem_cons_of_mem _ w568)) dX7_readHead_104 ?_
    refine lc_le (tgt := 118) hx hb dX7_readHead_107 dX7_readHead_108 (by decide) (fun c4 => ?_) (fun c4 => ?_)
    · rw [if_neg c4] at h
      exact bX7_readHead_118 C hI hK hN hF h (lv_sub hl [1, 2, 0] rfl) hP hS
    · rw [if_pos c4] at h
      refine lv_aload_n hx hb dX7_readHead_111 rfl (lv_at hl 2 rfl) ?_
      refine lv_iconst (v := (4 : Int32)) hx hb dX7_readHead_112 (by decide) ?_
      refine lv_bipush (v := (60 : Int32)) hx hb dX7_readHead_113 (by decide) ?_
      obtain ⟨q5, h6, h⟩ := lets h
      refine cRv (run_V (rest := []) C (kX1_refuse hI h6) caX1_refuse w559 ⟨rfl, rfl, Nat.le_of_ble_eq_true rfl, Nat.le_of_ble_eq_true rfl⟩ hK hN hP (rX3 hK hP) rfl hl.1 rfl (Nat.le_of_ble_eq_true rfl) dX7_readHead_115 ⟨Nat.zero_le _, Nat.zero_le _⟩) hS (fun H locs hP hS => ?_)
      have hP : va_P D vwCl (GX cy ad tk sp nm tp kp q5 se ur ab lo im sy un en ra li i2) H := hP
      exact bX7_readHead_118 C hI hK hN hF h (lv_sub hl [1, 2, 0] rfl) hP hS
  · rw [if_pos c3] at h
    refine lv_aload_n hx hb dX7_readHead_93 rfl (lv_at hl 2 rfl) ?_
    refine lv_iconst (v := (2 : Int32)) hx hb dX7_readHead_94 (by decide) ?_
    refine lv_bipush (v := (60 : Int32)) hx hb dX7_readHead_95 (by decide) ?_
    obtain ⟨q7, h8, h⟩ := lets h
    refine cRv (run_V (rest := []) C (kX1_refuse hI h8) caX1_refuse w559 ⟨rfl, rfl, Nat.le_of_ble_eq_true rfl, Nat.le_of_ble_eq_true rfl⟩ hK hN hP (rX3 hK hP) rfl hl.1 rfl (Nat.le_of_ble_eq_true rfl) dX7_readHead_97 ⟨Nat.zero_le _, Nat.zero_le _⟩) hS (fun H locs hP hS => ?_)
    have hP : va_P D vwCl (GX cy ad tk sp nm tp kp q7 se ur ab lo im sy un en ra li i2) H := hP
    refine lv_goto (tgt := 118) hx hb dX7_readHead_100 (by decide) ?_
    exact bX7_readHead_118 C hI hK hN hF h (lv_sub hl [1, 2, 0] rfl) hP hS
def X7_readHead_58 (tp : Ttp)  (cu : Tcu) (se : Tse)  : Option (Tcu × Tse) := ((X1_numberAt tp (58 : Int32) (2 : Int32)).bind fun q1 => (if q1 = (64 : Int64) then X7_readHead_79 tp cu se else (letq (X1_refuse cu (2 : Int32) (58 : Int32)) fun q4 => X7_readHead_79 tp q4 se)))
set_option maxRecDepth 20000 in
theorem bX7_readHead_58 (C : Cx p s m args meth c cX7_readHead 8 none RX7 (.code yX7_readHead cX7_readHead 8 none)) (hI : Apart ad 89) (hK : va_K D vwCl (tysX cy) s) (hN : NW s) (hF : SF t adK adV (Ac ad 89) s s.heap)  {q : Tcu × Tse}   (h : X7_readHead_58 tp cu se = some q) {ls : Array Slot} (hl : lv_has ls 8 [(0, .ref (ad 4)), (1, .ref (ad 3))]) {H : Heap} {locs : List Loc} (hP : va_P D vwCl (GX cy ad tk sp nm tp kp cu se ur ab lo im sy un en ra li i2) H) (hS : va_S (Ac ad 89) s.heap H locs) : W p l e ({ frames := 1, cells := 0, slots := 0, locals := 28 } : Room) s m args below meth c H locs 0 0 (MQ below (QR none D (GX cy ad tk sp nm tp kp q.1 q.2 ur ab lo im sy un en ra li i2) (Ac ad 89)) args s 0 0 (Ac ad 89)) (F0 m 58 ls []) := by
  obtain ⟨hx, hb, hml, hown, hts, hr, hlk⟩ := id C
  unfold X7_readHead_58 at h
  refine lv_aload_n hx hb dX7_readHead_58 rfl (lv_at hl 1 rfl) ?_
  refine lv_bipush (v := (58 : Int32)) hx hb dX7_readHead_59 (by decide) ?_
  refine lv_iconst (v := (2 : Int32)) hx hb dX7_readHead_61 (by decide) ?_
  obtain ⟨q1, h2, h⟩ := bnd h
  refine cPl (run_V (rest := []) C (kX1_numberAt h2) caX1_numberAt w563 ⟨rfl, rfl, Nat.le_of_ble_eq_true rfl, Nat.le_of_ble_eq_true rfl⟩ hK hN hP (rX3 hK hP) rfl hl.1 rfl (Nat.le_of_ble_eq_true rfl) dX7_readHead_62 ⟨Nat.zero_le _, Nat.zero_le _⟩) ?_
  refine lv_ldc2 (v := (64 : Int64)) hx hb hown (hts _ (List.mem_cons_of_mem _ w567)) dX7_readHead_65 ?_
  refine lc_eq (tgt := 79) hx hb dX7_readHead_68 dX7_readHead_69 (by decide) (fun c3 => ?_) (fun c3 => ?_)
  · rw [if_pos c3] at h
    exact bX7_readHead_79 C hI hK hN hF h (lv_sub hl [0, 1] rfl) hP hS
  · rw [if_neg c3] at h
    refine lv_aload_n hx hb dX7_readHead_72 rfl (lv_at hl 1 rfl) ?_
    refine lv_iconst (v := (2 : Int32)) hx hb dX7_readHead_73 (by decide) ?_
    refine lv_bipush (v := (58 : Int32)) hx hb dX7_readHead_74 (by decide) ?_
    obtain ⟨q4, h5, h⟩ := lets h
    refine cRv (run_V (rest := []) C (kX1_refuse hI h5) caX1_refuse w559 ⟨rfl, rfl, Nat.le_of_ble_eq_true rfl, Nat.le_of_ble_eq_true rfl⟩ hK hN hP (rX3 hK hP) rfl hl.1 rfl (Nat.le_of_ble_eq_true rfl) dX7_readHead_76 ⟨Nat.zero_le _, Nat.zero_le _⟩) hS (fun H locs hP hS => ?_)
    have hP : va_P D vwCl (GX cy ad tk sp nm tp kp q4 se ur ab lo im sy un en ra li i2) H := hP
    exact bX7_readHead_79 C hI hK hN hF h (lv_sub hl [0, 1] rfl) hP hS
def X7_readHead_43 (tp : Ttp)  (cu : Tcu) (se : Tse)  : Option (Tcu × Tse) := (if (X1_size cu) < (64 : Int32) then (letq (X1_refuse cu (1 : Int32) (0 : Int32)) fun q2 => X7_readHead_58 tp q2 se) else X7_readHead_58 tp cu se)
set_option maxRecDepth 20000 in
theorem bX7_readHead_43 (C : Cx p s m args meth c cX7_readHead 8 none RX7 (.code yX7_readHead cX7_readHead 8 none)) (hI : Apart ad 89) (hK : va_K D vwCl (tysX cy) s) (hN : NW s) (hF : SF t adK adV (Ac ad 89) s s.heap)  {q : Tcu × Tse}   (h : X7_readHead_43 tp cu se = some q) {ls : Array Slot} (hl : lv_has ls 8 [(0, .ref (ad 4)), (1, .ref (ad 3))]) {H : Heap} {locs : List Loc} (hP : va_P D vwCl (GX cy ad tk sp nm tp kp cu se ur ab lo im sy un en ra li i2) H) (hS : va_S (Ac ad 89) s.heap H locs) : W p l e ({ frames := 1, cells := 0, slots := 0, locals := 28 } : Room) s m args below meth c H locs 0 0 (MQ below (QR none D (GX cy ad tk sp nm tp kp q.1 q.2 ur ab lo im sy un en ra li i2) (Ac ad 89)) args s 0 0 (Ac ad 89)) (F0 m 43 ls []) := by
  obtain ⟨hx, hb, hml, hown, hts, hr, hlk⟩ := id C
  unfold X7_readHead_43 at h
  refine lv_aload_n hx hb dX7_readHead_43 rfl (lv_at hl 1 rfl) ?_
  refine cPi (run_V (rest := []) C (kX1_size rfl) caX1_size w551 ⟨rfl, rfl, Nat.le_of_ble_eq_true rfl, Nat.le_of_ble_eq_true rfl⟩ hK hN hP (rX3 hK hP) rfl hl.1 rfl (Nat.le_of_ble_eq_true rfl) dX7_readHead_44 ⟨Nat.zero_le _, Nat.zero_le _⟩) ?_
  refine lv_bipush (v := (64 : Int32)) hx hb dX7_readHead_47 (by decide) ?_
  refine b_icmp_ge (tgt := 58) hx hb dX7_readHead_49 (by decide) (fun c1 => ?_) (fun c1 => ?_)
  · rw [if_neg c1] at h
    exact bX7_readHead_58 C hI hK hN hF h (lv_sub hl [0, 1] rfl) hP hS
  · rw [if_pos c1] at h
    refine lv_aload_n hx hb dX7_readHead_52 rfl (lv_at hl 1 rfl) ?_
    refine lv_iconst (v := (1 : Int32)) hx hb dX7_readHead_53 (by decide) ?_
    refine lv_iconst (v := (0 : Int32)) hx hb dX7_readHead_54 (by decide) ?_
    obtain ⟨q2, h3, h⟩ := lets h
    refine cRv (run_V (rest := []) C (kX1_refuse hI h3) caX1_refuse w559 ⟨rfl, rfl, Nat.le_of_ble_eq_true rfl, Nat.le_of_ble_eq_true rfl⟩ hK hN hP (rX3 hK hP) rfl hl.1 rfl (Nat.le_of_ble_eq_true rfl) dX7_readHead_55 ⟨Nat.zero_le _, Nat.zero_le _⟩) hS (fun H locs hP hS => ?_)
    have hP : va_P D vwCl (GX cy ad tk sp nm tp kp q2 se ur ab lo im sy un en ra li i2) H := hP
    exact bX7_readHead_58 C hI hK hN hF h (lv_sub hl [0, 1] rfl) hP hS
def X7_readHead_2b (tp : Ttp)  (k2 : Tcu → Tse → Int32 → Option (Tcu × Tse)) (cu : Tcu) (se : Tse) (v2 : Int32) : Option (Tcu × Tse) := (if v2 < (7 : Int32) then (if v2 < (X1_size cu) then ((X1_byteAt tp v2).bind fun q3 => (if inb v2 7 = true then (if q3 = (magF (v2).toNatClampNeg) then X7_readHead_37 tp k2 cu se v2 else (letq (X1_refuse cu (2 : Int32) v2) fun q7 => X7_readHead_37 tp k2 q7 se v2)) else none)) else X7_readHead_43 tp cu se) else X7_readHead_43 tp cu se)
def X7_readHead_2 (tp : Ttp)  (n : Nat) (st : Tcu × Tse × Int32) : Option (Tcu × Tse) := lp (fun rec st => X7_readHead_2b tp  (fun a0 a1 a2 => rec (a0, a1, a2)) st.1 st.2.1 st.2.2) n st
set_option maxRecDepth 20000 in
theorem bX7_readHead_2 (C : Cx p s m args meth c cX7_readHead 8 none RX7 (.code yX7_readHead cX7_readHead 8 none)) (hI : Apart ad 89) (hK : va_K D vwCl (tysX cy) s) (hN : NW s) (hF : SF t adK adV (Ac ad 89) s s.heap)  {q : Tcu × Tse}  : ∀ (n : Nat) {cu : Tcu} {se : Tse} {v2 : Int32}, X7_readHead_2 tp  n (cu, se, v2) = some q → ∀ {ls : Array Slot}, lv_has ls 8 [(0, .ref (ad 4)), (1, .ref (ad 3)), (2, .int v2)] → ∀ {H : Heap} {locs : List Loc}, va_P D vwCl (GX cy ad tk sp nm tp kp cu se ur ab lo im sy un en ra li i2) H → va_S (Ac ad 89) s.heap H locs → W p l e ({ frames := 1, cells := 0, slots := 0, locals := 28 } : Room) s m args below meth c H locs 0 0 (MQ below (QR none D (GX cy ad tk sp nm tp kp q.1 q.2 ur ab lo im sy un en ra li i2) (Ac ad 89)) args s 0 0 (Ac ad 89)) (F0 m 2 ls []) := by
  obtain ⟨hx, hb, hml, hown, hts, hr, hlk⟩ := id C
  intro n
  induction n with
  | zero =>
    intro cu se v2 h ls hl H locs hP hS
    have h : (none : Option (Tcu × Tse)) = some q := h
    cases h
  | succ n ih =>
    intro cu se v2 h ls hl H locs hP hS
    have h : X7_readHead_2b tp  (fun a0 a1 a2 => X7_readHead_2 tp  n (a0, a1, a2)) cu se v2 = some q := h
    unfold X7_readHead_2b at h
    refine lv_iload_n hx hb dX7_readHead_2 rfl (lv_at hl 2 rfl) ?_
    refine va_getsN hx hb hF.1.1 hS hown (va_Nw.use rfl (hN.use w549 rfl)) (fun _ h9 => h9) dX7_readHead_3 ?_
    refine va_tlen (v := (7 : Int32)) hx hb hF.1.2 hS (by decide) dX7_readHead_6 ?_
    refine b_icmp_ge (tgt := 43) hx hb dX7_readHead_7 (by decide) (fun c1 => ?_) (fun c1 => ?_)
    · rw [if_neg c1] at h
      exact bX7_readHead_43 C hI hK hN hF h (lv_sub hl [0, 1] rfl) hP hS
    · rw [if_pos c1] at h
      refine lv_iload_n hx hb dX7_readHead_10 rfl (lv_at hl 2 rfl) ?_
      refine lv_aload_n hx hb dX7_readHead_11 rfl (lv_at hl 1 rfl) ?_
      refine cPi (run_V (rest := [.int v2]) C (kX1_size rfl) caX1_size w551 ⟨rfl, rfl, Nat.le_of_ble_eq_true rfl, Nat.le_of_ble_eq_true rfl⟩ hK hN hP (rX3 hK hP) rfl hl.1 rfl (Nat.le_of_ble_eq_true rfl) dX7_readHead_12 ⟨Nat.zero_le _, Nat.zero_le _⟩) ?_
      refine b_icmp_ge (tgt := 43) hx hb dX7_readHead_15 (by decide) (fun c2 => ?_) (fun c2 => ?_)
      · rw [if_neg c2] at h
        exact bX7_readHead_43 C hI hK hN hF h (lv_sub hl [0, 1] rfl) hP hS
      · rw [if_pos c2] at h
        refine lv_aload_n hx hb dX7_readHead_18 rfl (lv_at hl 1 rfl) ?_
        refine lv_iload_n hx hb dX7_readHead_19 rfl (lv_at hl 2 rfl) ?_
        obtain ⟨q3, h4, h⟩ := bnd h
        refine cPi (run_V (rest := []) C (kX1_byteAt h4) caX1_byteAt w555 ⟨rfl, rfl, Nat.le_of_ble_eq_true rfl, Nat.le_of_ble_eq_true rfl⟩ hK hN hP (rX3 hK hP) rfl hl.1 rfl (Nat.le_of_ble_eq_true rfl) dX7_readHead_20 ⟨Nat.zero_le _, Nat.zero_le _⟩) ?_
        refine va_getsN hx hb hF.1.1 hS hown (va_Nw.use rfl (hN.use w549 rfl)) (fun _ h9 => h9) dX7_readHead_23 ?_
        refine lv_iload_n hx hb dX7_readHead_26 rfl (lv_at hl 2 rfl) ?_
        obtain ⟨n5, h⟩ := grd h
        refine va_ti (v := .int (magF (v2).toNatClampNeg)) hx hb hF.1.2 hS (inb_in n5) rfl dX7_readHead_27 ?_
        refine lv_icmp_eq (tgt := 37) hx hb dX7_readHead_28 (by decide) (fun c6 => ?_) (fun c6 => ?_)
        · rw [if_pos c6] at h
          exact bX7_readHead_37 C hI hK hN hF @ih h (lv_sub hl [0, 1, 2] rfl) hP hS
        · rw [if_neg c6] at h
          refine lv_aload_n hx hb dX7_readHead_31 rfl (lv_at hl 1 rfl) ?_
          refine lv_iconst (v := (2 : Int32)) hx hb dX7_readHead_32 (by decide) ?_
          refine lv_iload_n hx hb dX7_readHead_33 rfl (lv_at hl 2 rfl) ?_
          obtain ⟨q7, h8, h⟩ := lets h
          refine cRv (run_V (rest := []) C (kX1_refuse hI h8) caX1_refuse w559 ⟨rfl, rfl, Nat.le_of_ble_eq_true rfl, Nat.le_of_ble_eq_true rfl⟩ hK hN hP (rX3 hK hP) rfl hl.1 rfl (Nat.le_of_ble_eq_true rfl) dX7_readHead_34 ⟨Nat.zero_le _, Nat.zero_le _⟩) hS (fun H locs hP hS => ?_)
          have hP : va_P D vwCl (GX cy ad tk sp nm tp kp q7 se ur ab lo im sy un en ra li i2) H := hP
          exact bX7_readHead_37 C hI hK hN hF @ih h (lv_sub hl [0, 1, 2] rfl) hP hS
def X7_readHead (tp : Ttp) (cu : Tcu) (se : Tse)  : Option (Tcu × Tse) := X7_readHead_2 tp FU (cu, se, (0 : Int32))
set_option maxRecDepth 20000 in
theorem bX7_readHead_0 (C : Cx p s m args meth c cX7_readHead 8 none RX7 (.code yX7_readHead cX7_readHead 8 none)) (hI : Apart ad 89) (hK : va_K D vwCl (tysX cy) s) (hN : NW s) (hF : SF t adK adV (Ac ad 89) s s.heap)  {q : Tcu × Tse}   (h : X7_readHead tp cu se = some q) {ls : Array Slot} (hl : lv_has ls 8 [(0, .ref (ad 4)), (1, .ref (ad 3))]) {H : Heap} {locs : List Loc} (hP : va_P D vwCl (GX cy ad tk sp nm tp kp cu se ur ab lo im sy un en ra li i2) H) (hS : va_S (Ac ad 89) s.heap H locs) : W p l e ({ frames := 1, cells := 0, slots := 0, locals := 28 } : Room) s m args below meth c H locs 0 0 (MQ below (QR none D (GX cy ad tk sp nm tp kp q.1 q.2 ur ab lo im sy un en ra li i2) (Ac ad 89)) args s 0 0 (Ac ad 89)) (F0 m 0 ls []) := by
  obtain ⟨hx, hb, hml, hown, hts, hr, hlk⟩ := id C
  unfold X7_readHead at h
  refine lv_iconst (v := (0 : Int32)) hx hb dX7_readHead_0 (by decide) ?_
  refine lv_istore_n (lv' := [(2, .int (0 : Int32)), (0, .ref (ad 4)), (1, .ref (ad 3))]) hx hb dX7_readHead_1 rfl hl (by decide) rfl (fun ls hl => ?_)
  exact bX7_readHead_2 C hI hK hN hF FU h (lv_sub hl [1, 2, 0] rfl) hP hS
theorem kX7_readHead (hI : Apart ad 89)  {q : Tcu × Tse} (h : X7_readHead tp cu se = some q) : Met l yX7_readHead (.code yX7_readHead cX7_readHead 8 none :: WA) ({ frames := 1, cells := 0, slots := 0, locals := 28 } : Room) (va_Pc [.ref (ad 4), .ref (ad 3)] (PS D cy t adK adV (Ac ad 89) (GX cy ad tk sp nm tp kp cu se ur ab lo im sy un en ra li i2))) (QR none D (GX cy ad tk sp nm tp kp q.1 q.2 ur ab lo im sy un en ra li i2) (Ac ad 89)) 0 0 (Ac ad 89) :=
  met_g (by decide) (Nat.le_of_ble_eq_true rfl) (fun p e s m below meth c ls C hB hl => bX7_readHead_0 C hI hB.1.2.1 hB.1.2.2 hB.2 h hl hB.1.1 va_S.rf)
def X7_readName_114 (tp : Ttp) (k64 : Tcu → Tse → Int32 → Int64 → Int32 → Int32 → Int32 → Option (Tcu × Tse)) (cu : Tcu) (se : Tse) (v2 : Int32) (v4 : Int64) (v6 : Int32) (v7 : Int32) (v8 : Int32) : Option (Tcu × Tse) := k64 cu se v2 v4 v6 v7 (v8 + (1 : Int32))
set_option maxRecDepth 20000 in
theorem bX7_readName_114 (C : Cx p s m args meth c cX7_readName 9 none RX7 (.code yX7_readName cX7_readName 9 none)) (hI : Apart ad 89) (hK : va_K D vwCl (tysX cy) s) (hN : NW s) (hF : SF t adK adV (Ac ad 89) s s.heap) {k64 : Tcu → Tse → Int32 → Int64 → Int32 → Int32 → Int32 → Option (Tcu × Tse)} {q : Tcu × Tse} (hk64 : ∀ {cu : Tcu} {se : Tse} {v2 : Int32} {v4 : Int64} {v6 : Int32} {v7 : Int32} {v8 : Int32}, k64 cu se v2 v4 v6 v7 v8 = some q → ∀ {ls : Array Slot}, lv_has ls 9 [(0, .ref (ad 4)), (1, .ref (ad 3)), (2, .int v2), (4, .long v4), (6, .int v6), (7, .int v7), (8, .int v8)] → ∀ {H : Heap} {locs : List Loc}, va_P D vwCl (GX cy ad tk sp nm tp kp cu se ur ab lo im sy un en ra li i2) H → va_S (Ac ad 89) s.heap H locs → W p l e ({ frames := 5, cells := 0, slots := 0, locals := 109 } : Room) s m args below meth c H locs 0 0 (MQ below (QR none D (GX cy ad tk sp nm tp kp q.1 q.2 ur ab lo im sy un en ra li i2) (Ac ad 89)) args s 0 0 (Ac ad 89)) (F0 m 64 ls [])) {v2 : Int32} {v4 : Int64} {v6 : Int32} {v7 : Int32} {v8 : Int32} (h : X7_readName_114 tp k64 cu se v2 v4 v6 v7 v8 = some q) {ls : Array Slot} (hl : lv_has ls 9 [(0, .ref (ad 4)), (1, .ref (ad 3)), (2, .int v2), (4, .long v4), (6, .int v6), (7, .int v7), (8, .int v8)]) {H : Heap} {locs : List Loc} (hP : va_P D vwCl (GX cy ad tk sp nm tp kp cu se ur ab lo im sy un en ra li i2) H) (hS : va_S (Ac ad 89) s.heap H locs) : W p l e ({ frames := 5, cells := 0, slots := 0, locals := 109 } : Room) s m args below meth c H locs 0 0 (MQ below (QR none D (GX cy ad tk sp nm tp kp q.1 q.2 ur ab lo im sy un en ra li i2) (Ac ad 89)) args s 0 0 (Ac ad 89)) (F0 m 114 ls []) := by
  obtain ⟨hx, hb, hml, hown, hts, hr, hlk⟩ := id C
  unfold X7_readName_114 at h
  refine lv_iinc (v := (v8 + (1 : Int32))) (lv' := [(8, .int (v8 + (1 : Int32))), (0, .ref (ad 4)), (1, .ref (ad 3)), (2, .int v2), (4, .long v4), (6, .int v6), (7, .int v7)]) hx hb dX7_readName_114 hl (k := 6) rfl rfl (by decide) rfl (fun ls hl => ?_)
  refine lv_goto (tgt := 64) hx hb dX7_readName_117 (by decide) ?_
  exact hk64 h (lv_sub hl [1, 2, 3, 4, 5, 6, 0] rfl) hP hS
def X7_readName_64b (tp : Ttp)  (k64 : Tcu → Tse → Int32 → Int64 → Int32 → Int32 → Int32 → Option (Tcu × Tse)) (cu : Tcu) (se : Tse) (v2 : Int32) (v4 : Int64) (v6 : Int32) (v7 : Int32) (v8 : Int32) : Option (Tcu × Tse) := (if v8 < (7 : Int32) then (if (at_i 7 se.2.2.1 v8) = (-1 : Int32) then ((X1_isText tp (nmk v8) (v6 + ((v4).toInt32)) v7).bind fun q3 => (if q3 = 0 then X7_readName_114 tp k64 cu se v2 v4 v6 v7 v8 else X7_readName_114 tp k64 cu (se.1, se.2.1, (put_i 7 se.2.2.1 v8 v2), se.2.2.2.1, se.2.2.2.2.1, se.2.2.2.2.2) v2 v4 v6 v7 v8)) else X7_readName_114 tp k64 cu se v2 v4 v6 v7 v8) else some (cu, se))
def X7_readName_64 (tp : Ttp)  (n : Nat) (st : Tcu × Tse × Int32 × Int64 × Int32 × Int32 × Int32) : Option (Tcu × Tse) := lp (fun rec st => X7_readName_64b tp  (fun a0 a1 a2 a3 a4 a5 a6 => rec (a0, a1, a2, a3, a4, a5, a6)) st.1 st.2.1 st.2.2.1 st.2.2.2.1 st.2.2.2.2.1 st.2.2.2.2.2.1 st.2.2.2.2.2.2) n st
set_option maxRecDepth 20000 in
theorem bX7_readName_64 (C : Cx p s m args meth c cX7_readName 9 none RX7 (.code yX7_readName cX7_readName 9 none)) (hI : Apart ad 89) (hK : va_K D vwCl (tysX cy) s) (hN : NW s) (hF : SF t adK adV (Ac ad 89) s s.heap)  {q : Tcu × Tse}  : ∀ (n : Nat) {cu : Tcu} {se : Tse} {v2 : Int32} {v4 : Int64} {v6 : Int32} {v7 : Int32} {v8 : Int32}, X7_readName_64 tp  n (cu, se, v2, v4, v6, v7, v8) = some q → ∀ {ls : Array Slot}, lv_has ls 9 [(0, .ref (ad 4)), (1, .ref (ad 3)), (2, .int v2), (4, .long v4), (6, .int v6), (7, .int v7), (8, .int v8)] → ∀ {H : Heap} {locs : List Loc}, va_P D vwCl (GX cy ad tk sp nm tp kp cu se ur ab lo im sy un en ra li i2) H → va_S (Ac ad 89) s.heap H locs → W p l e ({ frames := 5, cells := 0, slots := 0, locals := 109 } : Room) s m args below meth c H locs 0 0 (MQ below (QR none D (GX cy ad tk sp nm tp kp q.1 q.2 ur ab lo im sy un en ra li i2) (Ac ad 89)) args s 0 0 (Ac ad 89)) (F0 m 64 ls []) := by
  obtain ⟨hx, hb, hml, hown, hts, hr, hlk⟩ := id C
  intro n
  induction n with
  | zero =>
    intro cu se v2 v4 v6 v7 v8 h ls hl H locs hP hS
    have h : (none : Option (Tcu × Tse)) = some q := h
    cases h
  | succ n ih =>
    intro cu se v2 v4 v6 v7 v8 h ls hl H locs hP hS
    have h : X7_readName_64b tp  (fun a0 a1 a2 a3 a4 a5 a6 => X7_readName_64 tp  n (a0, a1, a2, a3, a4, a5, a6)) cu se v2 v4 v6 v7 v8 = some q := h
    unfold X7_readName_64b at h
    refine lv_iload hx hb dX7_readName_64 (lv_at hl 6 rfl) ?_
    refine lv_bipush (v := (7 : Int32)) hx hb dX7_readName_66 (by decide) ?_
    refine b_icmp_ge (tgt := 120) hx hb dX7_readName_68 (by decide) (fun c1 => ?_) (fun c1 => ?_)
    · rw [if_neg c1] at h
      obtain rfl := Option.some.inj h
      exact W.vret hx hb hr (fun t ht _ => ⟨rfl, by rw [ht]; exact hP, hS.F ht⟩) hS.2.2 dX7_readName_120 hlk
    · rw [if_pos c1] at h
      refine lv_aload_n hx hb dX7_readName_71 rfl (lv_at hl 0 rfl) ?_
      refine gX4_2 C hK hP w157 dX7_readName_72 ?_
      refine lv_iload hx hb dX7_readName_75 (lv_at hl 6 rfl) ?_
      refine xat_i (rest := []) C hK hN hP eX7 (Nat.le_of_ble_eq_true rfl) w589 hl.1 (Nat.le_of_ble_eq_true rfl) dX7_readName_77 ⟨Nat.le_of_ble_eq_true rfl, Nat.le_of_ble_eq_true rfl⟩ ⟨Nat.zero_le _, Nat.zero_le _⟩ ?_
      refine lv_iconst (v := (-1 : Int32)) hx hb dX7_readName_80 (by decide) ?_
      refine lv_icmp_ne (tgt := 114) hx hb dX7_readName_81 (by decide) (fun c2 => ?_) (fun c2 => ?_)
      · rw [if_neg c2] at h
        exact bX7_readName_114 C hI hK hN hF @ih h (lv_sub hl [0, 1, 2, 3, 4, 5, 6] rfl) hP hS
      · rw [if_pos c2] at h
        refine lv_aload_n hx hb dX7_readName_84 rfl (lv_at hl 1 rfl) ?_
        refine lv_iload hx hb dX7_readName_85 (lv_at hl 4 rfl) ?_
        refine lv_lload hx hb dX7_readName_87 (lv_at hl 3 rfl) ?_
        refine lv_l2i (v := ((v4).toInt32)) hx hb dX7_readName_89 rfl ?_
        refine lv_iadd hx hb dX7_readName_90 ?_
        refine lv_iload hx hb dX7_readName_91 (lv_at hl 5 rfl) ?_
        refine lv_iload hx hb dX7_readName_93 (lv_at hl 6 rfl) ?_
        refine cPr (run_Sg (rest := [.int v7, .int (v6 + ((v4).toInt32)), .ref (ad 3)]) (As := [.int v8]) C (kX7_nameMeant (t := t) (adV := adV) (A := Ac ad 89)) caX7_nameMeant w601 ⟨rfl, rfl, Nat.le_of_ble_eq_true rfl, Nat.le_of_ble_eq_true rfl⟩ PF.blind (PF.at hF hS) rfl hl.1 rfl (Nat.le_of_ble_eq_true rfl) dX7_readName_95 ⟨Nat.zero_le _, Nat.zero_le _⟩) ?_
        obtain ⟨q3, h4, h⟩ := bnd h
        refine cPi (run_Vg (rest := []) C (kX1_isText (nmk_lt _) h4) caX1_isText w611 ⟨rfl, rfl, Nat.le_of_ble_eq_true rfl, Nat.le_of_ble_eq_true rfl⟩ PS.blind (PS.at hK hN hP hF hS) (rX3 hK hP) rfl hl.1 rfl (Nat.le_of_ble_eq_true rfl) dX7_readName_98 ⟨Nat.zero_le _, Nat.zero_le _⟩) ?_
        refine lv_if_eq (tgt := 114) hx hb dX7_readName_101 (by decide) (fun c5 => ?_) (fun c5 => ?_)
        · rw [if_pos c5] at h
          exact bX7_readName_114 C hI hK hN hF @ih h (lv_sub hl [0, 1, 2, 3, 4, 5, 6] rfl) hP hS
        · rw [if_neg c5] at h
          refine lv_aload_n hx hb dX7_readName_104 rfl (lv_at hl 0 rfl) ?_
          refine gX4_2 C hK hP w157 dX7_readName_105 ?_
          refine lv_iload hx hb dX7_readName_108 (lv_at hl 6 rfl) ?_
          refine lv_iload_n hx hb dX7_readName_110 rfl (lv_at hl 2 rfl) ?_
          refine xput_i (rest := []) C hK hN hP (GX_D hI) hS eX7 (Nat.le_of_ble_eq_true rfl) w582 hl.1 (Nat.le_of_ble_eq_true rfl) dX7_readName_111 ⟨Nat.le_of_ble_eq_true rfl, Nat.le_of_ble_eq_true rfl⟩ ⟨Nat.zero_le _, Nat.zero_le _⟩ (fun H locs hP hS => ?_)
          have hP : va_P D vwCl (GX cy ad tk sp nm tp kp cu (se.1, se.2.1, (put_i 7 se.2.2.1 v8 v2), se.2.2.2.1, se.2.2.2.2.1, se.2.2.2.2.2) ur ab lo im sy un en ra li i2) H := hP
          exact bX7_readName_114 C hI hK hN hF @ih h (lv_sub hl [0, 1, 2, 3, 4, 5, 6] rfl) hP hS
def X7_readName (tp : Ttp) (cu : Tcu) (se : Tse) (v2 : Int32) : Option (Tcu × Tse) := ((X1_numberAt tp (se.2.2.2.2.1 + (v2 * (64 : Int32))) (4 : Int32)).bind fun q1 => ((X1_toldText tp cu (at_i 30 se.1 se.2.2.2.2.2) (at_i 30 se.2.1 se.2.2.2.2.2) q1 (se.2.2.2.2.1 + (v2 * (64 : Int32)))).bind fun q3 => (if (X1_sound q3.2) = 0 then some (q3.2, se) else X7_readName_64 tp FU (q3.2, se, v2, q1, (at_i 30 se.1 se.2.2.2.2.2), q3.1, (0 : Int32)))))
set_option maxRecDepth 20000 in
theorem bX7_readName_0 (C : Cx p s m args meth c cX7_readName 9 none RX7 (.code yX7_readName cX7_readName 9 none)) (hI : Apart ad 89) (hK : va_K D vwCl (tysX cy) s) (hN : NW s) (hF : SF t adK adV (Ac ad 89) s s.heap)  {q : Tcu × Tse}  {v2 : Int32} (h : X7_readName tp cu se v2 = some q) {ls : Array Slot} (hl : lv_has ls 9 [(0, .ref (ad 4)), (1, .ref (ad 3)), (2, .int v2)]) {H : Heap} {locs : List Loc} (hP : va_P D vwCl (GX cy ad tk sp nm tp kp cu se ur ab lo im sy un en ra li i2) H) (hS : va_S (Ac ad 89) s.heap H locs) : W p l e ({ frames := 5, cells := 0, slots := 0, locals := 109 } : Room) s m args below meth c H locs 0 0 (MQ below (QR none D (GX cy ad tk sp nm tp kp q.1 q.2 ur ab lo im sy un en ra li i2) (Ac ad 89)) args s 0 0 (Ac ad 89)) (F0 m 0 ls []) := by
  obtain ⟨hx, hb, hml, hown, hts, hr, hlk⟩ := id C
  unfold X7_readName at h
  refine lv_aload_n hx hb dX7_readName_0 rfl (lv_at hl 0 rfl) ?_
  refine gX4_4 (v := se.2.2.2.2.1) C hK hP rfl w159 dX7_readName_1 ?_
  refine lv_iload_n hx hb dX7_readName_4 rfl (lv_at hl 2 rfl) ?_
  refine lv_bipush (v := (64 : Int32)) hx hb dX7_readName_5 (by decide) ?_
  refine lv_imul hx hb dX7_readName_7 ?_
  refine lv_iadd hx hb dX7_readName_8 ?_
  refine lv_istore_n (lv' := [(3, .int (se.2.2.2.2.1 + (v2 * (64 : Int32)))), (0, .ref (ad 4)), (1, .ref (ad 3)), (2, .int v2)]) hx hb dX7_readName_9 rfl hl (by decide) rfl (fun ls hl => ?_)
  refine lv_aload_n hx hb dX7_readName_10 rfl (lv_at hl 2 rfl) ?_
  refine lv_iload_n hx hb dX7_readName_11 rfl (lv_at hl 0 rfl) ?_
  refine lv_iconst (v := (4 : Int32)) hx hb dX7_readName_12 (by decide) ?_
  obtain ⟨q1, h2, h⟩ := bnd h
  refine cPl (run_V (rest := []) C (kX1_numberAt h2) caX1_numberAt w563 ⟨rfl, rfl, Nat.le_of_ble_eq_true rfl, Nat.le_of_ble_eq_true rfl⟩ hK hN hP (rX3 hK hP) rfl hl.1 rfl (Nat.le_of_ble_eq_true rfl) dX7_readName_13 ⟨Nat.zero_le _, Nat.zero_le _⟩) ?_
  refine lv_lstore (lv' := [(4, .long q1), (3, .int (se.2.2.2.2.1 + (v2 * (64 : Int32)))), (0, .ref (ad 4)), (1, .ref (ad 3)), (2, .int v2)]) hx hb dX7_readName_16 hl (by decide) rfl (fun ls hl => ?_)
  refine lv_aload_n hx hb dX7_readName_18 rfl (lv_at hl 2 rfl) ?_
  refine gX4_0 C hK hP w155 dX7_readName_19 ?_
  refine lv_aload_n hx hb dX7_readName_22 rfl (lv_at hl 2 rfl) ?_
  refine gX4_5 (v := se.2.2.2.2.2) C hK hP rfl w160 dX7_readName_23 ?_
  refine xat_i (rest := []) C hK hN hP eX5 (Nat.le_of_ble_eq_true rfl) w589 hl.1 (Nat.le_of_ble_eq_true rfl) dX7_readName_26 ⟨Nat.le_of_ble_eq_true rfl, Nat.le_of_ble_eq_true rfl⟩ ⟨Nat.zero_le _, Nat.zero_le _⟩ ?_
  refine lv_istore (lv' := [(6, .int (at_i 30 se.1 se.2.2.2.2.2)), (4, .long q1), (3, .int (se.2.2.2.2.1 + (v2 * (64 : Int32)))), (0, .ref (ad 4)), (1, .ref (ad 3)), (2, .int v2)]) hx hb dX7_readName_29 hl (by decide) rfl (fun ls hl => ?_)
  refine lv_aload_n hx hb dX7_readName_31 rfl (lv_at hl 4 rfl) ?_
  refine lv_iload hx hb dX7_readName_32 (lv_at hl 0 rfl) ?_
  refine lv_aload_n hx hb dX7_readName_34 rfl (lv_at hl 3 rfl) ?_
  refine gX4_1 C hK hP w156 dX7_readName_35 ?_
  refine lv_aload_n hx hb dX7_readName_38 rfl (lv_at hl 3 rfl) ?_
  refine gX4_5 (v := se.2.2.2.2.2) C hK hP rfl w160 dX7_readName_39 ?_
  refine xat_i (rest := [.int (at_i 30 se.1 se.2.2.2.2.2), .ref (ad 3)]) C hK hN hP eX6 (Nat.le_of_ble_eq_true rfl) w589 hl.1 (Nat.le_of_ble_eq_true rfl) dX7_readName_42 ⟨Nat.le_of_ble_eq_true rfl, Nat.le_of_ble_eq_true rfl⟩ ⟨Nat.zero_le _, Nat.zero_le _⟩ ?_
  refine lv_lload hx hb dX7_readName_45 (lv_at hl 1 rfl) ?_
  refine lv_iload_n hx hb dX7_readName_47 rfl (lv_at hl 2 rfl) ?_
  obtain ⟨q3, h4, h⟩ := bnd h
  refine cRi (run_V (rest := []) C (kX1_toldText hI h4) caX1_toldText w592 ⟨rfl, rfl, Nat.le_of_ble_eq_true rfl, Nat.le_of_ble_eq_true rfl⟩ hK hN hP (rX3 hK hP) rfl hl.1 rfl (Nat.le_of_ble_eq_true rfl) dX7_readName_48 ⟨Nat.zero_le _, Nat.zero_le _⟩) hS (fun H locs hP hS => ?_)
  have hP : va_P D vwCl (GX cy ad tk sp nm tp kp q3.2 se ur ab lo im sy un en ra li i2) H := hP
  refine lv_istore (lv' := [(7, .int q3.1), (6, .int (at_i 30 se.1 se.2.2.2.2.2)), (4, .long q1), (3, .int (se.2.2.2.2.1 + (v2 * (64 : Int32)))), (0, .ref (ad 4)), (1, .ref (ad 3)), (2, .int v2)]) hx hb dX7_readName_51 hl (by decide) rfl (fun ls hl => ?_)
  refine lv_aload_n hx hb dX7_readName_53 rfl (lv_at hl 5 rfl) ?_
  refine cPi (run_V (rest := []) C (kX1_sound rfl) caX1_sound w573 ⟨rfl, rfl, Nat.le_of_ble_eq_true rfl, Nat.le_of_ble_eq_true rfl⟩ hK hN hP (rX3 hK hP) rfl hl.1 rfl (Nat.le_of_ble_eq_true rfl) dX7_readName_54 ⟨Nat.zero_le _, Nat.zero_le _⟩) ?_
  refine lv_if_ne (tgt := 61) hx hb dX7_readName_57 (by decide) (fun c5 => ?_) (fun c5 => ?_)
  · rw [if_neg c5] at h
    refine lv_iconst (v := (0 : Int32)) hx hb dX7_readName_61 (by decide) ?_
    refine lv_istore (lv' := [(8, .int (0 : Int32)), (7, .int q3.1), (6, .int (at_i 30 se.1 se.2.2.2.2.2)), (4, .long q1), (3, .int (se.2.2.2.2.1 + (v2 * (64 : Int32)))), (0, .ref (ad 4)), (1, .ref (ad 3)), (2, .int v2)]) hx hb dX7_readName_62 hl (by decide) rfl (fun ls hl => ?_)
    exact bX7_readName_64 C hI hK hN hF FU h (lv_sub hl [5, 6, 7, 3, 2, 1, 0] rfl) hP hS
  · rw [if_pos c5] at h
    obtain rfl := Option.some.inj h
    exact W.vret hx hb hr (fun t ht _ => ⟨rfl, by rw [ht]; exact hP, hS.F ht⟩) hS.2.2 dX7_readName_60 hlk
theorem kX7_readName (hI : Apart ad 89) {v2 : Int32} {q : Tcu × Tse} (h : X7_readName tp cu se v2 = some q) : Met l yX7_readName (.code yX7_readName cX7_readName 9 none :: WA) ({ frames := 5, cells := 0, slots := 0, locals := 109 } : Room) (va_Pc [.ref (ad 4), .ref (ad 3), .int v2] (PS D cy t adK adV (Ac ad 89) (GX cy ad tk sp nm tp kp cu se ur ab lo im sy un en ra li i2))) (QR none D (GX cy ad tk sp nm tp kp q.1 q.2 ur ab lo im sy un en ra li i2) (Ac ad 89)) 0 0 (Ac ad 89) :=
  met_g (by decide) (Nat.le_of_ble_eq_true rfl) (fun p e s m below meth c ls C hB hl => bX7_readName_0 C hI hB.1.2.1 hB.1.2.2 hB.2 h hl hB.1.1 va_S.rf)
def X7_readRow_132 (tp : Ttp)  (cu : Tcu) (se : Tse) (z0 : Int32) (z1 : Int32) : Option (Tcu × Tse) := some (cu, (se.1, (put_i 30 se.2.1 z1 z0), se.2.2.1, se.2.2.2.1, se.2.2.2.2.1, se.2.2.2.2.2))
set_option maxRecDepth 20000 in
theorem bX7_readRow_132 (C : Cx p s m args meth c cX7_readRow 11 none RX7 (.code yX7_readRow cX7_readRow 11 none)) (hI : Apart ad 89) (hK : va_K D vwCl (tysX cy) s) (hN : NW s)  {q : Tcu × Tse}  {z0 : Int32} {z1 : Int32} (h : X7_readRow_132 tp cu se z0 z1 = some q) {ls : Array Slot} (hl : lv_has ls 11 []) {H : Heap} {locs : List Loc} (hP : va_P D vwCl (GX cy ad tk sp nm tp kp cu se ur ab lo im sy un en ra li i2) H) (hS : va_S (Ac ad 89) s.heap H locs) : W p l e ({ frames := 1, cells := 0, slots := 0, locals := 28 } : Room) s m args below meth c H locs 0 0 (MQ below (QR none D (GX cy ad tk sp nm tp kp q.1 q.2 ur ab lo im sy un en ra li i2) (Ac ad 89)) args s 0 0 (Ac ad 89)) (F0 m 132 ls [.int z0, .int z1, .ref (ad 6)]) := by
  obtain ⟨hx, hb, hml, hown, hts, hr, hlk⟩ := id C
  unfold X7_readRow_132 at h
  refine xput_i (rest := []) C hK hN hP (GX_D hI) hS eX6 (Nat.le_of_ble_eq_true rfl) w582 hl.1 (Nat.le_of_ble_eq_true rfl) dX7_readRow_132 ⟨Nat.le_of_ble_eq_true rfl, Nat.le_of_ble_eq_true rfl⟩ ⟨Nat.zero_le _, Nat.zero_le _⟩ (fun H locs hP hS => ?_)
  have hP : va_P D vwCl (GX cy ad tk sp nm tp kp cu (se.1, (put_i 30 se.2.1 z1 z0), se.2.2.1, se.2.2.2.1, se.2.2.2.2.1, se.2.2.2.2.2) ur ab lo im sy un en ra li i2) H := hP
  obtain rfl := Option.some.inj h
  exact W.vret hx hb hr (fun t ht _ => ⟨rfl, by rw [ht]; exact hP, hS.F ht⟩) hS.2.2 dX7_readRow_135 hlk
def X7_readRow_109 (tp : Ttp)  (cu : Tcu) (se : Tse) (v2 : Int32) (v6 : Int64) (v8 : Int64) (v10 : Int32) (z0 : Int32) (z1 : Int32) : Option (Tcu × Tse) := (if v10 = 0 then X7_readRow_132 tp cu ((put_i 30 se.1 z1 z0), se.2.1, se.2.2.1, se.2.2.2.1, se.2.2.2.2.1, se.2.2.2.2.2) (((v6 + v8)).toInt32) v2 else X7_readRow_132 tp cu ((put_i 30 se.1 z1 z0), se.2.1, se.2.2.1, se.2.2.2.1, se.2.2.2.2.1, se.2.2.2.2.2) (0 : Int32) v2)
set_option maxRecDepth 20000 in
theorem bX7_readRow_109 (C : Cx p s m args meth c cX7_readRow 11 none RX7 (.code yX7_readRow cX7_readRow 11 none)) (hI : Apart ad 89) (hK : va_K D vwCl (tysX cy) s) (hN : NW s)  {q : Tcu × Tse}  {v2 : Int32} {v6 : Int64} {v8 : Int64} {v10 : Int32} {z0 : Int32} {z1 : Int32} (h : X7_readRow_109 tp cu se v2 v6 v8 v10 z0 z1 = some q) {ls : Array Slot} (hl : lv_has ls 11 [(0, .ref (ad 4)), (2, .int v2), (6, .long v6), (8, .long v8), (10, .int v10)]) {H : Heap} {locs : List Loc} (hP : va_P D vwCl (GX cy ad tk sp nm tp kp cu se ur ab lo im sy un en ra li i2) H) (hS : va_S (Ac ad 89) s.heap H locs) : W p l e ({ frames := 1, cells := 0, slots := 0, locals := 28 } : Room) s m args below meth c H locs 0 0 (MQ below (QR none D (GX cy ad tk sp nm tp kp q.1 q.2 ur ab lo im sy un en ra li i2) (Ac ad 89)) args s 0 0 (Ac ad 89)) (F0 m 109 ls [.int z0, .int z1, .ref (ad 5)]) := by
  obtain ⟨hx, hb, hml, hown, hts, hr, hlk⟩ := id C
  unfold X7_readRow_109 at h
  refine xput_i (rest := []) C hK hN hP (GX_D hI) hS eX5 (Nat.le_of_ble_eq_true rfl) w582 hl.1 (Nat.le_of_ble_eq_true rfl) dX7_readRow_109 ⟨Nat.le_of_ble_eq_true rfl, Nat.le_of_ble_eq_true rfl⟩ ⟨Nat.zero_le _, Nat.zero_le _⟩ (fun H locs hP hS => ?_)
  have hP : va_P D vwCl (GX cy ad tk sp nm tp kp cu ((put_i 30 se.1 z1 z0), se.2.1, se.2.2.1, se.2.2.2.1, se.2.2.2.2.1, se.2.2.2.2.2) ur ab lo im sy un en ra li i2) H := hP
  refine lv_aload_n hx hb dX7_readRow_112 rfl (lv_at hl 0 rfl) ?_
  refine gX4_1 C hK hP w156 dX7_readRow_113 ?_
  refine lv_iload_n hx hb dX7_readRow_116 rfl (lv_at hl 1 rfl) ?_
  refine lv_iload hx hb dX7_readRow_117 (lv_at hl 4 rfl) ?_
  refine lv_if_eq (tgt := 126) hx hb dX7_readRow_119 (by decide) (fun c1 => ?_) (fun c1 => ?_)
  · rw [if_pos c1] at h
    refine lv_lload hx hb dX7_readRow_126 (lv_at hl 2 rfl) ?_
    refine lv_lload hx hb dX7_readRow_128 (lv_at hl 3 rfl) ?_
    refine lv_ladd hx hb dX7_readRow_130 ?_
    refine lv_l2i (v := (((v6 + v8)).toInt32)) hx hb dX7_readRow_131 rfl ?_
    exact bX7_readRow_132 C hI hK hN h (lv_sub hl [] rfl) hP hS
  · rw [if_neg c1] at h
    refine lv_iconst (v := (0 : Int32)) hx hb dX7_readRow_122 (by decide) ?_
    refine lv_goto (tgt := 132) hx hb dX7_readRow_123 (by decide) ?_
    exact bX7_readRow_132 C hI hK hN h (lv_sub hl [] rfl) hP hS
def X7_readRow_92 (tp : Ttp)  (cu : Tcu) (se : Tse) (v2 : Int32) (v6 : Int64) (v8 : Int64) (v10 : Int32) : Option (Tcu × Tse) := (if v10 = 0 then X7_readRow_109 tp cu se v2 v6 v8 v10 ((v6).toInt32) v2 else X7_readRow_109 tp cu se v2 v6 v8 v10 (0 : Int32) v2)
set_option maxRecDepth 20000 in
theorem bX7_readRow_92 (C : Cx p s m args meth c cX7_readRow 11 none RX7 (.code yX7_readRow cX7_readRow 11 none)) (hI : Apart ad 89) (hK : va_K D vwCl (tysX cy) s) (hN : NW s)  {q : Tcu × Tse}  {v2 : Int32} {v6 : Int64} {v8 : Int64} {v10 : Int32} (h : X7_readRow_92 tp cu se v2 v6 v8 v10 = some q) {ls : Array Slot} (hl : lv_has ls 11 [(0, .ref (ad 4)), (2, .int v2), (6, .long v6), (8, .long v8), (10, .int v10)]) {H : Heap} {locs : List Loc} (hP : va_P D vwCl (GX cy ad tk sp nm tp kp cu se ur ab lo im sy un en ra li i2) H) (hS : va_S (Ac ad 89) s.heap H locs) : W p l e ({ frames := 1, cells := 0, slots := 0, locals := 28 } : Room) s m args below meth c H locs 0 0 (MQ below (QR none D (GX cy ad tk sp nm tp kp q.1 q.2 ur ab lo im sy un en ra li i2) (Ac ad 89)) args s 0 0 (Ac ad 89)) (F0 m 92 ls []) := by
  obtain ⟨hx, hb, hml, hown, hts, hr, hlk⟩ := id C
  unfold X7_readRow_92 at h
  refine lv_aload_n hx hb dX7_readRow_92 rfl (lv_at hl 0 rfl) ?_
  refine gX4_0 C hK hP w155 dX7_readRow_93 ?_
  refine lv_iload_n hx hb dX7_readRow_96 rfl (lv_at hl 1 rfl) ?_
  refine lv_iload hx hb dX7_readRow_97 (lv_at hl 4 rfl) ?_
  refine lv_if_eq (tgt := 106) hx hb dX7_readRow_99 (by decide) (fun c1 => ?_) (fun c1 => ?_)
  · rw [if_pos c1] at h
    refine lv_lload hx hb dX7_readRow_106 (lv_at hl 2 rfl) ?_
    refine lv_l2i (v := ((v6).toInt32)) hx hb dX7_readRow_108 rfl ?_
    exact bX7_readRow_109 C hI hK hN h (lv_sub hl [0, 1, 2, 3, 4] rfl) hP hS
  · rw [if_neg c1] at h
    refine lv_iconst (v := (0 : Int32)) hx hb dX7_readRow_102 (by decide) ?_
    refine lv_goto (tgt := 109) hx hb dX7_readRow_103 (by decide) ?_
    exact bX7_readRow_109 C hI hK hN h (lv_sub hl [0, 1, 2, 3, 4] rfl) hP hS
def X7_readRow_65 (tp : Ttp)  (cu : Tcu) (se : Tse) (v2 : Int32) (v3 : Int32) (v6 : Int64) (v8 : Int64) (z0 : Int32) : Option (Tcu × Tse) := (if z0 = 0 then (if (X1_lies cu v6 v8) = 0 then (letq (X1_refuse cu (1 : Int32) v3) fun q3 => X7_readRow_92 tp q3 se v2 v6 v8 (1 : Int32)) else X7_readRow_92 tp cu se v2 v6 v8 z0) else X7_readRow_92 tp cu se v2 v6 v8 z0)
set_option maxRecDepth 20000 in
theorem bX7_readRow_65 (C : Cx p s m args meth c cX7_readRow 11 none RX7 (.code yX7_readRow cX7_readRow 11 none)) (hI : Apart ad 89) (hK : va_K D vwCl (tysX cy) s) (hN : NW s)  {q : Tcu × Tse}  {v2 : Int32} {v3 : Int32} {v6 : Int64} {v8 : Int64} {z0 : Int32} (h : X7_readRow_65 tp cu se v2 v3 v6 v8 z0 = some q) {ls : Array Slot} (hl : lv_has ls 11 [(0, .ref (ad 4)), (1, .ref (ad 3)), (2, .int v2), (3, .int v3), (6, .long v6), (8, .long v8)]) {H : Heap} {locs : List Loc} (hP : va_P D vwCl (GX cy ad tk sp nm tp kp cu se ur ab lo im sy un en ra li i2) H) (hS : va_S (Ac ad 89) s.heap H locs) : W p l e ({ frames := 1, cells := 0, slots := 0, locals := 28 } : Room) s m args below meth c H locs 0 0 (MQ below (QR none D (GX cy ad tk sp nm tp kp q.1 q.2 ur ab lo im sy un en ra li i2) (Ac ad 89)) args s 0 0 (Ac ad 89)) (F0 m 65 ls [.int z0]) := by
  obtain ⟨hx, hb, hml, hown, hts, hr, hlk⟩ := id C
  unfold X7_readRow_65 at h
  refine lv_istore (lv' := [(10, .int z0), (0, .ref (ad 4)), (1, .ref (ad 3)), (2, .int v2), (3, .int v3), (6, .long v6), (8, .long v8)]) hx hb dX7_readRow_65 hl (by decide) rfl (fun ls hl => ?_)
  refine lv_iload hx hb dX7_readRow_67 (lv_at hl 0 rfl) ?_
  refine lv_if_ne (tgt := 92) hx hb dX7_readRow_69 (by decide) (fun c1 => ?_) (fun c1 => ?_)
  · rw [if_neg c1] at h
    exact bX7_readRow_92 C hI hK hN h (lv_sub hl [1, 3, 5, 6, 0] rfl) hP hS
  · rw [if_pos c1] at h
    refine lv_aload_n hx hb dX7_readRow_72 rfl (lv_at hl 2 rfl) ?_
    refine lv_lload hx hb dX7_readRow_73 (lv_at hl 5 rfl) ?_
    refine lv_lload hx hb dX7_readRow_75 (lv_at hl 6 rfl) ?_
    refine cPi (run_V (rest := []) C (kX1_lies rfl) caX1_lies w569 ⟨rfl, rfl, Nat.le_of_ble_eq_true rfl, Nat.le_of_ble_eq_true rfl⟩ hK hN hP (rX3 hK hP) rfl hl.1 rfl (Nat.le_of_ble_eq_true rfl) dX7_readRow_77 ⟨Nat.zero_le _, Nat.zero_le _⟩) ?_
    refine lv_if_ne (tgt := 92) hx hb dX7_readRow_80 (by decide) (fun c2 => ?_) (fun c2 => ?_)
    · rw [if_neg c2] at h
      exact bX7_readRow_92 C hI hK hN h (lv_sub hl [1, 3, 5, 6, 0] rfl) hP hS
    · rw [if_pos c2] at h
      refine lv_aload_n hx hb dX7_readRow_83 rfl (lv_at hl 2 rfl) ?_
      refine lv_iconst (v := (1 : Int32)) hx hb dX7_readRow_84 (by decide) ?_
      refine lv_iload_n hx hb dX7_readRow_85 rfl (lv_at hl 4 rfl) ?_
      obtain ⟨q3, h4, h⟩ := lets h
      refine cRv (run_V (rest := []) C (kX1_refuse hI h4) caX1_refuse w559 ⟨rfl, rfl, Nat.le_of_ble_eq_true rfl, Nat.le_of_ble_eq_true rfl⟩ hK hN hP (rX3 hK hP) rfl hl.1 rfl (Nat.le_of_ble_eq_true rfl) dX7_readRow_86 ⟨Nat.zero_le _, Nat.zero_le _⟩) hS (fun H locs hP hS => ?_)
      have hP : va_P D vwCl (GX cy ad tk sp nm tp kp q3 se ur ab lo im sy un en ra li i2) H := hP
      refine lv_iconst (v := (1 : Int32)) hx hb dX7_readRow_89 (by decide) ?_
      refine lv_istore (lv' := [(10, .int (1 : Int32)), (0, .ref (ad 4)), (1, .ref (ad 3)), (2, .int v2), (3, .int v3), (6, .long v6), (8, .long v8)]) hx hb dX7_readRow_90 hl (by decide) rfl (fun ls hl => ?_)
      exact bX7_readRow_92 C hI hK hN h (lv_sub hl [1, 3, 5, 6, 0] rfl) hP hS
def X7_readRow_60 (tp : Ttp)  (cu : Tcu) (se : Tse) (v2 : Int32) (v3 : Int32) (v6 : Int64) (v8 : Int64) : Option (Tcu × Tse) := X7_readRow_65 tp cu se v2 v3 v6 v8 (1 : Int32)
set_option maxRecDepth 20000 in
theorem bX7_readRow_60 (C : Cx p s m args meth c cX7_readRow 11 none RX7 (.code yX7_readRow cX7_readRow 11 none)) (hI : Apart ad 89) (hK : va_K D vwCl (tysX cy) s) (hN : NW s)  {q : Tcu × Tse}  {v2 : Int32} {v3 : Int32} {v6 : Int64} {v8 : Int64} (h : X7_readRow_60 tp cu se v2 v3 v6 v8 = some q) {ls : Array Slot} (hl : lv_has ls 11 [(0, .ref (ad 4)), (1, .ref (ad 3)), (2, .int v2), (3, .int v3), (6, .long v6), (8, .long v8)]) {H : Heap} {locs : List Loc} (hP : va_P D vwCl (GX cy ad tk sp nm tp kp cu se ur ab lo im sy un en ra li i2) H) (hS : va_S (Ac ad 89) s.heap H locs) : W p l e ({ frames := 1, cells := 0, slots := 0, locals := 28 } : Room) s m args below meth c H locs 0 0 (MQ below (QR none D (GX cy ad tk sp nm tp kp q.1 q.2 ur ab lo im sy un en ra li i2) (Ac ad 89)) args s 0 0 (Ac ad 89)) (F0 m 60 ls []) := by
  obtain ⟨hx, hb, hml, hown, hts, hr, hlk⟩ := id C
  unfold X7_readRow_60 at h
  refine lv_iconst (v := (1 : Int32)) hx hb dX7_readRow_60 (by decide) ?_
  refine lv_goto (tgt := 65) hx hb dX7_readRow_61 (by decide) ?_
  exact bX7_readRow_65 C hI hK hN h (lv_sub hl [0, 1, 2, 3, 4, 5] rfl) hP hS
def X7_readRow (tp : Ttp) (cu : Tcu) (se : Tse) (v2 : Int32) : Option (Tcu × Tse) := ((X1_numberAt tp ((se.2.2.2.2.1 + (v2 * (64 : Int32))) + (4 : Int32)) (4 : Int32)).bind fun q1 => ((X1_numberAt tp ((se.2.2.2.2.1 + (v2 * (64 : Int32))) + (24 : Int32)) (8 : Int32)).bind fun q3 => ((X1_numberAt tp ((se.2.2.2.2.1 + (v2 * (64 : Int32))) + (32 : Int32)) (8 : Int32)).bind fun q5 => (if q1 = (0 : Int64) then X7_readRow_60 tp cu se v2 (se.2.2.2.2.1 + (v2 * (64 : Int32))) q3 q5 else (if q1 = (8 : Int64) then X7_readRow_60 tp cu se v2 (se.2.2.2.2.1 + (v2 * (64 : Int32))) q3 q5 else X7_readRow_65 tp cu se v2 (se.2.2.2.2.1 + (v2 * (64 : Int32))) q3 q5 (0 : Int32))))))
set_option maxRecDepth 20000 in
theorem bX7_readRow_0 (C : Cx p s m args meth c cX7_readRow 11 none RX7 (.code yX7_readRow cX7_readRow 11 none)) (hI : Apart ad 89) (hK : va_K D vwCl (tysX cy) s) (hN : NW s)  {q : Tcu × Tse}  {v2 : Int32} (h : X7_readRow tp cu se v2 = some q) {ls : Array Slot} (hl : lv_has ls 11 [(0, .ref (ad 4)), (1, .ref (ad 3)), (2, .int v2)]) {H : Heap} {locs : List Loc} (hP : va_P D vwCl (GX cy ad tk sp nm tp kp cu se ur ab lo im sy un en ra li i2) H) (hS : va_S (Ac ad 89) s.heap H locs) : W p l e ({ frames := 1, cells := 0, slots := 0, locals := 28 } : Room) s m args below meth c H locs 0 0 (MQ below (QR none D (GX cy ad tk sp nm tp kp q.1 q.2 ur ab lo im sy un en ra li i2) (Ac ad 89)) args s 0 0 (Ac ad 89)) (F0 m 0 ls []) := by
  obtain ⟨hx, hb, hml, hown, hts, hr, hlk⟩ := id C
  unfold X7_readRow at h
  refine lv_aload_n hx hb dX7_readRow_0 rfl (lv_at hl 0 rfl) ?_
  refine gX4_4 (v := se.2.2.2.2.1) C hK hP rfl w159 dX7_readRow_1 ?_
  refine lv_iload_n hx hb dX7_readRow_4 rfl (lv_at hl 2 rfl) ?_
  refine lv_bipush (v := (64 : Int32)) hx hb dX7_readRow_5 (by decide) ?_
  refine lv_imul hx hb dX7_readRow_7 ?_
  refine lv_iadd hx hb dX7_readRow_8 ?_
  refine lv_istore_n (lv' := [(3, .int (se.2.2.2.2.1 + (v2 * (64 : Int32)))), (0, .ref (ad 4)), (1, .ref (ad 3)), (2, .int v2)]) hx hb dX7_readRow_9 rfl hl (by decide) rfl (fun ls hl => ?_)
  refine lv_aload_n hx hb dX7_readRow_10 rfl (lv_at hl 2 rfl) ?_
  refine lv_iload_n hx hb dX7_readRow_11 rfl (lv_at hl 0 rfl) ?_
  refine lv_iconst (v := (4 : Int32)) hx hb dX7_readRow_12 (by decide) ?_
  refine lv_iadd hx hb dX7_readRow_13 ?_
  refine lv_iconst (v := (4 : Int32)) hx hb dX7_readRow_14 (by decide) ?_
  obtain ⟨q1, h2, h⟩ := bnd h
  refine cPl (run_V (rest := []) C (kX1_numberAt h2) caX1_numberAt w563 ⟨rfl, rfl, Nat.le_of_ble_eq_true rfl, Nat.le_of_ble_eq_true rfl⟩ hK hN hP (rX3 hK hP) rfl hl.1 rfl (Nat.le_of_ble_eq_true rfl) dX7_readRow_15 ⟨Nat.zero_le _, Nat.zero_le _⟩) ?_
  refine lv_lstore (lv' := [(4, .long q1), (3, .int (se.2.2.2.2.1 + (v2 * (64 : Int32)))), (0, .ref (ad 4)), (1, .ref (ad 3)), (2, .int v2)]) hx hb dX7_readRow_18 hl (by decide) rfl (fun ls hl => ?_)
  refine lv_aload_n hx hb dX7_readRow_20 rfl (lv_at hl 3 rfl) ?_
  refine lv_iload_n hx hb dX7_readRow_21 rfl (lv_at hl 1 rfl) ?_
  refine lv_bipush (v := (24 : Int32)) hx hb dX7_readRow_22 (by decide) ?_
  refine lv_iadd hx hb dX7_readRow_24 ?_
  refine lv_bipush (v := (8 : Int32)) hx hb dX7_readRow_25 (by decide) ?_
  obtain ⟨q3, h4, h⟩ := bnd h
  refine cPl (run_V (rest := []) C (kX1_numberAt h4) caX1_numberAt w563 ⟨rfl, rfl, Nat.le_of_ble_eq_true rfl, Nat.le_of_ble_eq_true rfl⟩ hK hN hP (rX3 hK hP) rfl hl.1 rfl (Nat.le_of_ble_eq_true rfl) dX7_readRow_27 ⟨Nat.zero_le _, Nat.zero_le _⟩) ?_
  refine lv_lstore (lv' := [(6, .long q3), (4, .long q1), (3, .int (se.2.2.2.2.1 + (v2 * (64 : Int32)))), (0, .ref (ad 4)), (1, .ref (ad 3)), (2, .int v2)]) hx hb dX7_readRow_30 hl (by decide) rfl (fun ls hl => ?_)
  refine lv_aload_n hx hb dX7_readRow_32 rfl (lv_at hl 4 rfl) ?_
  refine lv_iload_n hx hb dX7_readRow_33 rfl (lv_at hl 2 rfl) ?_
  refine lv_bipush (v := (32 : Int32)) hx hb dX7_readRow_34 (by decide) ?_
  refine lv_iadd hx hb dX7_readRow_36 ?_
  refine lv_bipush (v := (8 : Int32)) hx hb dX7_readRow_37 (by decide) ?_
  obtain ⟨q5, h6, h⟩ := bnd h
  refine cPl (run_V (rest := []) C (kX1_numberAt h6) caX1_numberAt w563 ⟨rfl, rfl, Nat.le_of_ble_eq_true rfl, Nat.le_of_ble_eq_true rfl⟩ hK hN hP (rX3 hK hP) rfl hl.1 rfl (Nat.le_of_ble_eq_true rfl) dX7_readRow_39 ⟨Nat.zero_le _, Nat.zero_le _⟩) ?_
  refine lv_lstore (lv' := [(8, .long q5), (6, .long q3), (4, .long q1), (3, .int (se.2.2.2.2.1 + (v2 * (64 : Int32)))), (0, .ref (ad 4)), (1, .ref (ad 3)), (2, .int v2)]) hx hb dX7_readRow_42 hl (by decide) rfl (fun ls hl => ?_)
  refine lv_lload hx hb dX7_readRow_44 (lv_at hl 2 rfl) ?_
  refine lv_lconst (v := (0 : Int64)) hx hb dX7_readRow_46 (by decide) ?_
  refine lc_eq (tgt := 60) hx hb dX7_readRow_47 dX7_readRow_48 (by decide) (fun c7 => ?_) (fun c7 => ?_)
  · rw [if_pos c7] at h
    exact bX7_readRow_60 C hI hK hN h (lv_sub hl [4, 5, 6, 3, 1, 0] rfl) hP hS
  · rw [if_neg c7] at h
    refine lv_lload hx hb dX7_readRow_51 (lv_at hl 2 rfl) ?_
    refine lv_ldc2 (v := (8 : Int64)) hx hb hown (hts _ (List.mem_cons_of_mem _ w581)) dX7_readRow_53 ?_
    refine lc_ne (tgt := 64) hx hb dX7_readRow_56 dX7_readRow_57 (by decide) (fun c8 => ?_) (fun c8 => ?_)
    · rw [if_neg c8] at h
      refine lv_iconst (v := (0 : Int32)) hx hb dX7_readRow_64 (by decide) ?_
      exact bX7_readRow_65 C hI hK hN h (lv_sub hl [4, 5, 6, 3, 1, 0] rfl) hP hS
    · rw [if_pos c8] at h
      exact bX7_readRow_60 C hI hK hN h (lv_sub hl [4, 5, 6, 3, 1, 0] rfl) hP hS
theorem kX7_readRow (hI : Apart ad 89) {v2 : Int32} {q : Tcu × Tse} (h : X7_readRow tp cu se v2 = some q) : Met l yX7_readRow (.code yX7_readRow cX7_readRow 11 none :: WA) ({ frames := 1, cells := 0, slots := 0, locals := 28 } : Room) (va_Pc [.ref (ad 4), .ref (ad 3), .int v2] (PR D cy (GX cy ad tk sp nm tp kp cu se ur ab lo im sy un en ra li i2))) (QR none D (GX cy ad tk sp nm tp kp q.1 q.2 ur ab lo im sy un en ra li i2) (Ac ad 89)) 0 0 (Ac ad 89) :=
  met_of (by decide) (Nat.le_of_ble_eq_true rfl) (fun p e s m below meth c ls C hP hK hN hl => bX7_readRow_0 C hI hK hN h hl hP va_S.rf)
def X7_read_55b (tp : Ttp)  (k55 : Tcu → Tse → Int32 → Option (Tcu × Tse)) (cu : Tcu) (se : Tse) (v2 : Int32) : Option (Tcu × Tse) := (if v2 < (30 : Int32) then (if v2 < se.2.2.2.1 then (if (X1_sound cu) = 0 then some (cu, se) else ((X7_readName tp cu se v2).bind fun q4 => k55 q4.1 q4.2 (v2 + (1 : Int32)))) else some (cu, se)) else some (cu, se))
def X7_read_55 (tp : Ttp)  (n : Nat) (st : Tcu × Tse × Int32) : Option (Tcu × Tse) := lp (fun rec st => X7_read_55b tp  (fun a0 a1 a2 => rec (a0, a1, a2)) st.1 st.2.1 st.2.2) n st
set_option maxRecDepth 20000 in
theorem bX7_read_55 (C : Cx p s m args meth c cX7_read 3 none RX7 (.code yX7_read cX7_read 3 none)) (hI : Apart ad 89) (hK : va_K D vwCl (tysX cy) s) (hN : NW s) (hF : SF t adK adV (Ac ad 89) s s.heap)  {q : Tcu × Tse}  : ∀ (n : Nat) {cu : Tcu} {se : Tse} {v2 : Int32}, X7_read_55 tp  n (cu, se, v2) = some q → ∀ {ls : Array Slot}, lv_has ls 3 [(0, .ref (ad 4)), (1, .ref (ad 3)), (2, .int v2)] → ∀ {H : Heap} {locs : List Loc}, va_P D vwCl (GX cy ad tk sp nm tp kp cu se ur ab lo im sy un en ra li i2) H → va_S (Ac ad 89) s.heap H locs → W p l e ({ frames := 6, cells := 0, slots := 0, locals := 137 } : Room) s m args below meth c H locs 0 0 (MQ below (QR none D (GX cy ad tk sp nm tp kp q.1 q.2 ur ab lo im sy un en ra li i2) (Ac ad 89)) args s 0 0 (Ac ad 89)) (F0 m 55 ls []) := by
  obtain ⟨hx, hb, hml, hown, hts, hr, hlk⟩ := id C
  intro n
  induction n with
  | zero =>
    intro cu se v2 h ls hl H locs hP hS
    have h : (none : Option (Tcu × Tse)) = some q := h
    cases h
  | succ n ih =>
    intro cu se v2 h ls hl H locs hP hS
    have h : X7_read_55b tp  (fun a0 a1 a2 => X7_read_55 tp  n (a0, a1, a2)) cu se v2 = some q := h
    unfold X7_read_55b at h
    refine lv_iload_n hx hb dX7_read_55 rfl (lv_at hl 2 rfl) ?_
    refine lv_bipush (v := (30 : Int32)) hx hb dX7_read_56 (by decide) ?_
    refine b_icmp_ge (tgt := 88) hx hb dX7_read_58 (by decide) (fun c1 => ?_) (fun c1 => ?_)
    · rw [if_neg c1] at h
      obtain rfl := Option.some.inj h
      exact W.vret hx hb hr (fun t ht _ => ⟨rfl, by rw [ht]; exact hP, hS.F ht⟩) hS.2.2 dX7_read_88 hlk
    · rw [if_pos c1] at h
      refine lv_iload_n hx hb dX7_read_61 rfl (lv_at hl 2 rfl) ?_
      refine lv_aload_n hx hb dX7_read_62 rfl (lv_at hl 0 rfl) ?_
      refine gX4_3 (v := se.2.2.2.1) C hK hP rfl w158 dX7_read_63 ?_
      refine b_icmp_ge (tgt := 88) hx hb dX7_read_66 (by decide) (fun c2 => ?_) (fun c2 => ?_)
      · rw [if_neg c2] at h
        obtain rfl := Option.some.inj h
        exact W.vret hx hb hr (fun t ht _ => ⟨rfl, by rw [ht]; exact hP, hS.F ht⟩) hS.2.2 dX7_read_88 hlk
      · rw [if_pos c2] at h
        refine lv_aload_n hx hb dX7_read_69 rfl (lv_at hl 1 rfl) ?_
        refine cPi (run_V (rest := []) C (kX1_sound rfl) caX1_sound w573 ⟨rfl, rfl, Nat.le_of_ble_eq_true rfl, Nat.le_of_ble_eq_true rfl⟩ hK hN hP (rX3 hK hP) rfl hl.1 rfl (Nat.le_of_ble_eq_true rfl) dX7_read_70 ⟨Nat.zero_le _, Nat.zero_le _⟩) ?_
        refine lv_if_eq (tgt := 88) hx hb dX7_read_73 (by decide) (fun c3 => ?_) (fun c3 => ?_)
        · rw [if_pos c3] at h
          obtain rfl := Option.some.inj h
          exact W.vret hx hb hr (fun t ht _ => ⟨rfl, by rw [ht]; exact hP, hS.F ht⟩) hS.2.2 dX7_read_88 hlk
        · rw [if_neg c3] at h
          refine lv_aload_n hx hb dX7_read_76 rfl (lv_at hl 0 rfl) ?_
          refine lv_aload_n hx hb dX7_read_77 rfl (lv_at hl 1 rfl) ?_
          refine lv_iload_n hx hb dX7_read_78 rfl (lv_at hl 2 rfl) ?_
          obtain ⟨q4, h5, h⟩ := bnd h
          refine cRv (run_Vg (rest := []) C (kX7_readName hI h5) caX7_readName w585 ⟨rfl, rfl, Nat.le_of_ble_eq_true rfl, Nat.le_of_ble_eq_true rfl⟩ PS.blind (PS.at hK hN hP hF hS) (rX4 hK hP) rfl hl.1 rfl (Nat.le_of_ble_eq_true rfl) dX7_read_79 ⟨Nat.zero_le _, Nat.zero_le _⟩) hS (fun H locs hP hS => ?_)
          have hP : va_P D vwCl (GX cy ad tk sp nm tp kp q4.1 q4.2 ur ab lo im sy un en ra li i2) H := hP
          refine lv_iinc (v := (v2 + (1 : Int32))) (lv' := [(2, .int (v2 + (1 : Int32))), (0, .ref (ad 4)), (1, .ref (ad 3))]) hx hb dX7_read_82 hl (k := 2) rfl rfl (by decide) rfl (fun ls hl => ?_)
          refine lv_goto (tgt := 55) hx hb dX7_read_85 (by decide) ?_
          exact ih h (lv_sub hl [1, 2, 0] rfl) hP hS
def X7_read_53 (tp : Ttp)  (cu : Tcu) (se : Tse)  : Option (Tcu × Tse) := X7_read_55 tp FU (cu, se, (0 : Int32))
set_option maxRecDepth 20000 in
theorem bX7_read_53 (C : Cx p s m args meth c cX7_read 3 none RX7 (.code yX7_read cX7_read 3 none)) (hI : Apart ad 89) (hK : va_K D vwCl (tysX cy) s) (hN : NW s) (hF : SF t adK adV (Ac ad 89) s s.heap)  {q : Tcu × Tse}   (h : X7_read_53 tp cu se = some q) {ls : Array Slot} (hl : lv_has ls 3 [(0, .ref (ad 4)), (1, .ref (ad 3))]) {H : Heap} {locs : List Loc} (hP : va_P D vwCl (GX cy ad tk sp nm tp kp cu se ur ab lo im sy un en ra li i2) H) (hS : va_S (Ac ad 89) s.heap H locs) : W p l e ({ frames := 6, cells := 0, slots := 0, locals := 137 } : Room) s m args below meth c H locs 0 0 (MQ below (QR none D (GX cy ad tk sp nm tp kp q.1 q.2 ur ab lo im sy un en ra li i2) (Ac ad 89)) args s 0 0 (Ac ad 89)) (F0 m 53 ls []) := by
  obtain ⟨hx, hb, hml, hown, hts, hr, hlk⟩ := id C
  unfold X7_read_53 at h
  refine lv_iconst (v := (0 : Int32)) hx hb dX7_read_53 (by decide) ?_
  refine lv_istore_n (lv' := [(2, .int (0 : Int32)), (0, .ref (ad 4)), (1, .ref (ad 3))]) hx hb dX7_read_54 rfl hl (by decide) rfl (fun ls hl => ?_)
  exact bX7_read_55 C hI hK hN hF FU h (lv_sub hl [1, 2, 0] rfl) hP hS
def X7_read_20b (tp : Ttp)  (k20 : Tcu → Tse → Int32 → Option (Tcu × Tse)) (cu : Tcu) (se : Tse) (v2 : Int32) : Option (Tcu × Tse) := (if v2 < (30 : Int32) then (if v2 < se.2.2.2.1 then (if (X1_sound cu) = 0 then X7_read_53 tp cu se else ((X7_readRow tp cu se v2).bind fun q4 => k20 q4.1 q4.2 (v2 + (1 : Int32)))) else X7_read_53 tp cu se) else X7_read_53 tp cu se)
def X7_read_20 (tp : Ttp)  (n : Nat) (st : Tcu × Tse × Int32) : Option (Tcu × Tse) := lp (fun rec st => X7_read_20b tp  (fun a0 a1 a2 => rec (a0, a1, a2)) st.1 st.2.1 st.2.2) n st
set_option maxRecDepth 20000 in
theorem bX7_read_20 (C : Cx p s m args meth c cX7_read 3 none RX7 (.code yX7_read cX7_read 3 none)) (hI : Apart ad 89) (hK : va_K D vwCl (tysX cy) s) (hN : NW s) (hF : SF t adK adV (Ac ad 89) s s.heap)  {q : Tcu × Tse}  : ∀ (n : Nat) {cu : Tcu} {se : Tse} {v2 : Int32}, X7_read_20 tp  n (cu, se, v2) = some q → ∀ {ls : Array Slot}, lv_has ls 3 [(0, .ref (ad 4)), (1, .ref (ad 3)), (2, .int v2)] → ∀ {H : Heap} {locs : List Loc}, va_P D vwCl (GX cy ad tk sp nm tp kp cu se ur ab lo im sy un en ra li i2) H → va_S (Ac ad 89) s.heap H locs → W p l e ({ frames := 6, cells := 0, slots := 0, locals := 137 } : Room) s m args below meth c H locs 0 0 (MQ below (QR none D (GX cy ad tk sp nm tp kp q.1 q.2 ur ab lo im sy un en ra li i2) (Ac ad 89)) args s 0 0 (Ac ad 89)) (F0 m 20 ls []) := by
  obtain ⟨hx, hb, hml, hown, hts, hr, hlk⟩ := id C
  intro n
  induction n with
  | zero =>
    intro cu se v2 h ls hl H locs hP hS
    have h : (none : Option (Tcu × Tse)) = some q := h
    cases h
  | succ n ih =>
    intro cu se v2 h ls hl H locs hP hS
    have h : X7_read_20b tp  (fun a0 a1 a2 => X7_read_20 tp  n (a0, a1, a2)) cu se v2 = some q := h
    unfold X7_read_20b at h
    refine lv_iload_n hx hb dX7_read_20 rfl (lv_at hl 2 rfl) ?_
    refine lv_bipush (v := (30 : Int32)) hx hb dX7_read_21 (by decide) ?_
    refine b_icmp_ge (tgt := 53) hx hb dX7_read_23 (by decide) (fun c1 => ?_) (fun c1 => ?_)
    · rw [if_neg c1] at h
      exact bX7_read_53 C hI hK hN hF h (lv_sub hl [0, 1] rfl) hP hS
    · rw [if_pos c1] at h
      refine lv_iload_n hx hb dX7_read_26 rfl (lv_at hl 2 rfl) ?_
      refine lv_aload_n hx hb dX7_read_27 rfl (lv_at hl 0 rfl) ?_
      refine gX4_3 (v := se.2.2.2.1) C hK hP rfl w158 dX7_read_28 ?_
      refine b_icmp_ge (tgt := 53) hx hb dX7_read_31 (by decide) (fun c2 => ?_) (fun c2 => ?_)
      · rw [if_neg c2] at h
        exact bX7_read_53 C hI hK hN hF h (lv_sub hl [0, 1] rfl) hP hS
      · rw [if_pos c2] at h
        refine lv_aload_n hx hb dX7_read_34 rfl (lv_at hl 1 rfl) ?_
        refine cPi (run_V (rest := []) C (kX1_sound rfl) caX1_sound w573 ⟨rfl, rfl, Nat.le_of_ble_eq_true rfl, Nat.le_of_ble_eq_true rfl⟩ hK hN hP (rX3 hK hP) rfl hl.1 rfl (Nat.le_of_ble_eq_true rfl) dX7_read_35 ⟨Nat.zero_le _, Nat.zero_le _⟩) ?_
        refine lv_if_eq (tgt := 53) hx hb dX7_read_38 (by decide) (fun c3 => ?_) (fun c3 => ?_)
        · rw [if_pos c3] at h
          exact bX7_read_53 C hI hK hN hF h (lv_sub hl [0, 1] rfl) hP hS
        · rw [if_neg c3] at h
          refine lv_aload_n hx hb dX7_read_41 rfl (lv_at hl 0 rfl) ?_
          refine lv_aload_n hx hb dX7_read_42 rfl (lv_at hl 1 rfl) ?_
          refine lv_iload_n hx hb dX7_read_43 rfl (lv_at hl 2 rfl) ?_
          obtain ⟨q4, h5, h⟩ := bnd h
          refine cRv (run_V (rest := []) C (kX7_readRow hI h5) caX7_readRow w577 ⟨rfl, rfl, Nat.le_of_ble_eq_true rfl, Nat.le_of_ble_eq_true rfl⟩ hK hN hP (rX4 hK hP) rfl hl.1 rfl (Nat.le_of_ble_eq_true rfl) dX7_read_44 ⟨Nat.zero_le _, Nat.zero_le _⟩) hS (fun H locs hP hS => ?_)
          have hP : va_P D vwCl (GX cy ad tk sp nm tp kp q4.1 q4.2 ur ab lo im sy un en ra li i2) H := hP
          refine lv_iinc (v := (v2 + (1 : Int32))) (lv' := [(2, .int (v2 + (1 : Int32))), (0, .ref (ad 4)), (1, .ref (ad 3))]) hx hb dX7_read_47 hl (k := 2) rfl rfl (by decide) rfl (fun ls hl => ?_)
          refine lv_goto (tgt := 20) hx hb dX7_read_50 (by decide) ?_
          exact ih h (lv_sub hl [1, 2, 0] rfl) hP hS
def X7_read (tp : Ttp) (cu : Tcu) (se : Tse)  : Option (Tcu × Tse) := ((X7_readHead tp cu (se.1, se.2.1, (fillF 7 (-1 : Int32) se.2.2.1), (0 : Int32), se.2.2.2.2.1, se.2.2.2.2.2)).bind fun q1 => X7_read_20 tp FU (q1.1, q1.2, (0 : Int32)))
set_option maxRecDepth 20000 in
theorem bX7_read_0 (C : Cx p s m args meth c cX7_read 3 none RX7 (.code yX7_read cX7_read 3 none)) (hI : Apart ad 89) (hK : va_K D vwCl (tysX cy) s) (hN : NW s) (hF : SF t adK adV (Ac ad 89) s s.heap)  {q : Tcu × Tse}   (h : X7_read tp cu se = some q) {ls : Array Slot} (hl : lv_has ls 3 [(0, .ref (ad 4)), (1, .ref (ad 3))]) {H : Heap} {locs : List Loc} (hP : va_P D vwCl (GX cy ad tk sp nm tp kp cu se ur ab lo im sy un en ra li i2) H) (hS : va_S (Ac ad 89) s.heap H locs) : W p l e ({ frames := 6, cells := 0, slots := 0, locals := 137 } : Room) s m args below meth c H locs 0 0 (MQ below (QR none D (GX cy ad tk sp nm tp kp q.1 q.2 ur ab lo im sy un en ra li i2) (Ac ad 89)) args s 0 0 (Ac ad 89)) (F0 m 0 ls []) := by
  obtain ⟨hx, hb, hml, hown, hts, hr, hlk⟩ := id C
  unfold X7_read at h
  refine lv_aload_n hx hb dX7_read_0 rfl (lv_at hl 0 rfl) ?_
  refine lv_iconst (v := (0 : Int32)) hx hb dX7_read_1 (by decide) ?_
  refine pX4_3 (v := (0 : Int32)) C hI hK hP hS w158 dX7_read_2 (fun H locs hP hS => ?_)
  have hP : va_P D vwCl (GX cy ad tk sp nm tp kp cu (se.1, se.2.1, se.2.2.1, (0 : Int32), se.2.2.2.2.1, se.2.2.2.2.2) ur ab lo im sy un en ra li i2) H := hP
  refine lv_aload_n hx hb dX7_read_5 rfl (lv_at hl 0 rfl) ?_
  refine gX4_2 C hK hP w157 dX7_read_6 ?_
  refine lv_iconst (v := (-1 : Int32)) hx hb dX7_read_9 (by decide) ?_
  refine cRv (run_S (rest := []) C (kJ7_fill eX7 (Nat.le_of_ble_eq_true rfl) (GX_D hI)) caJ7_fill_53178 w542 ⟨rfl, rfl, Nat.le_of_ble_eq_true rfl, Nat.le_of_ble_eq_true rfl⟩ hK hN hP rfl hl.1 rfl (Nat.le_of_ble_eq_true rfl) dX7_read_10 ⟨Nat.zero_le _, Nat.zero_le _⟩) hS (fun H locs hP hS => ?_)
  have hP : va_P D vwCl (GX cy ad tk sp nm tp kp cu (se.1, se.2.1, (fillF 7 (-1 : Int32) se.2.2.1), (0 : Int32), se.2.2.2.2.1, se.2.2.2.2.2) ur ab lo im sy un en ra li i2) H := hP
  refine lv_aload_n hx hb dX7_read_13 rfl (lv_at hl 0 rfl) ?_
  refine lv_aload_n hx hb dX7_read_14 rfl (lv_at hl 1 rfl) ?_
  obtain ⟨q1, h2, h⟩ := bnd h
  refine cRv (run_Vg (rest := []) C (kX7_readHead hI h2) caX7_readHead w545 ⟨rfl, rfl, Nat.le_of_ble_eq_true rfl, Nat.le_of_ble_eq_true rfl⟩ PS.blind (PS.at hK hN hP hF hS) (rX4 hK hP) rfl hl.1 rfl (Nat.le_of_ble_eq_true rfl) dX7_read_15 ⟨Nat.zero_le _, Nat.zero_le _⟩) hS (fun H locs hP hS => ?_)
  have hP : va_P D vwCl (GX cy ad tk sp nm tp kp q1.1 q1.2 ur ab lo im sy un en ra li i2) H := hP
  refine lv_iconst (v := (0 : Int32)) hx hb dX7_read_18 (by decide) ?_
  refine lv_istore_n (lv' := [(2, .int (0 : Int32)), (0, .ref (ad 4)), (1, .ref (ad 3))]) hx hb dX7_read_19 rfl hl (by decide) rfl (fun ls hl => ?_)
  exact bX7_read_20 C hI hK hN hF FU h (lv_sub hl [1, 2, 0] rfl) hP hS
theorem kX7_read (hI : Apart ad 89)  {q : Tcu × Tse} (h : X7_read tp cu se = some q) : Met l yX7_read (.code yX7_read cX7_read 3 none :: WA) ({ frames := 6, cells := 0, slots := 0, locals := 137 } : Room) (va_Pc [.ref (ad 4), .ref (ad 3)] (PS D cy t adK adV (Ac ad 89) (GX cy ad tk sp nm tp kp cu se ur ab lo im sy un en ra li i2))) (QR none D (GX cy ad tk sp nm tp kp q.1 q.2 ur ab lo im sy un en ra li i2) (Ac ad 89)) 0 0 (Ac ad 89) :=
  met_g (by decide) (Nat.le_of_ble_eq_true rfl) (fun p e s m below meth c ls C hB hl => bX7_read_0 C hI hB.1.2.1 hB.1.2.2 hB.2 h hl hB.1.1 va_S.rf)
def X7_total (se : Tse)  : Int32 := se.2.2.2.1
set_option maxRecDepth 20000 in
theorem bX7_total_0 (C : Cx p s m args meth c cX7_total 1 (some .int) RX7 (.code yX7_total cX7_total 1 (some .int))) (hK : va_K D vwCl (tysX cy) s) (hN : NW s)  {q : Int32}   (h : X7_total se = q) {ls : Array Slot} (hl : lv_has ls 1 [(0, .ref (ad 4))]) (hP : va_P D vwCl (GX cy ad tk sp nm tp kp cu se ur ab lo im sy un en ra li i2) s.heap) : W p l e ({ frames := 0, cells := 0, slots := 0, locals := 0 } : Room) s m args below meth c s.heap [] 0 0 (MQ below (QP (some (.int q))) args s 0 0 (fun _ => False)) (F0 m 0 ls []) := by
  obtain ⟨hx, hb, hml, hown, hts, hr, hlk⟩ := id C
  unfold X7_total at h
  refine lv_aload_n hx hb dX7_total_0 rfl (lv_at hl 0 rfl) ?_
  refine gX4_3 (v := se.2.2.2.1) C hK hP rfl w158 dX7_total_1 ?_
  obtain rfl := h
  exact W.iret hx hb hr (fun t ht _ => ⟨rfl, ht⟩) (fun _ h9 => by cases h9) dX7_total_4 hlk
theorem kX7_total   {q : Int32} (h : X7_total se = q) : Met l yX7_total (.code yX7_total cX7_total 1 (some .int) :: WA) ({ frames := 0, cells := 0, slots := 0, locals := 0 } : Room) (va_Pc [.ref (ad 4)] (PR D cy (GX cy ad tk sp nm tp kp cu se ur ab lo im sy un en ra li i2))) (QP (some (.int q))) 0 0 (fun _ => False) :=
  met_of (by decide) (Nat.le_of_ble_eq_true rfl) (fun p e s m below meth c ls C hP hK hN hl => bX7_total_0 C hK hN h hl hP)
def X8_readRow_148 (tp : Ttp) (se : Tse)  (cu : Tcu) (sy : Tsy) (v4 : Int64) (v6 : Int64) (v9 : Int64) (v11 : Int32) (v12 : Int32) : Option (Tcu × Tsy) := (if (X1_sound cu) = 0 then some (cu, sy) else some (cu, ((put_l 100 sy.1 sy.2.2.2.2 v4), (put_l 100 sy.2.1 sy.2.2.2.2 v6), (put_i 100 sy.2.2.1 sy.2.2.2.2 (v11 + ((v9).toInt32))), (put_i 100 sy.2.2.2.1 sy.2.2.2.2 v12), (sy.2.2.2.2 + (1 : Int32)))))
set_option maxRecDepth 20000 in
theorem bX8_readRow_148 (C : Cx p s m args meth c cX8_readRow 13 none RX8 (.code yX8_readRow cX8_readRow 13 none)) (hI : Apart ad 89) (hK : va_K D vwCl (tysX cy) s) (hN : NW s)  {q : Tcu × Tsy}  {v4 : Int64} {v6 : Int64} {v9 : Int64} {v11 : Int32} {v12 : Int32} (h : X8_readRow_148 tp se cu sy v4 v6 v9 v11 v12 = some q) {ls : Array Slot} (hl : lv_has ls 13 [(0, .ref (ad 22)), (1, .ref (ad 3)), (4, .long v4), (6, .long v6), (9, .long v9), (11, .int v11), (12, .int v12)]) {H : Heap} {locs : List Loc} (hP : va_P D vwCl (GX cy ad tk sp nm tp kp cu se ur ab lo im sy un en ra li i2) H) (hS : va_S (Ac ad 89) s.heap H locs) : W p l e ({ frames := 2, cells := 0, slots := 0, locals := 49 } : Room) s m args below meth c H locs 0 0 (MQ below (QR none D (GX cy ad tk sp nm tp kp q.1 se ur ab lo im q.2 un en ra li i2) (Ac ad 89)) args s 0 0 (Ac ad 89)) (F0 m 148 ls []) := by
  obtain ⟨hx, hb, hml, hown, hts, hr, hlk⟩ := id C
  unfold X8_readRow_148 at h
  refine lv_aload_n hx hb dX8_readRow_148 rfl (lv_at hl 1 rfl) ?_
  refine cPi (run_V (rest := []) C (kX1_sound rfl) caX1_sound w680 ⟨rfl, rfl, Nat.le_of_ble_eq_true rfl, Nat.le_of_ble_eq_true rfl⟩ hK hN hP (rX3 hK hP) rfl hl.1 rfl (Nat.le_of_ble_eq_true rfl) dX8_readRow_149 ⟨Nat.zero_le _, Nat.zero_le _⟩) ?_
  refine lv_if_ne (tgt := 156) hx hb dX8_readRow_152 (by decide) (fun c1 => ?_) (fun c1 => ?_)
  · rw [if_neg c1] at h
    refine lv_aload_n hx hb dX8_readRow_156 rfl (lv_at hl 0 rfl) ?_
    refine gX22_0 C hK hP w278 dX8_readRow_157 ?_
    refine lv_aload_n hx hb dX8_readRow_160 rfl (lv_at hl 0 rfl) ?_
    refine gX22_4 (v := sy.2.2.2.2) C hK hP rfl w282 dX8_readRow_161 ?_
    refine lv_lload hx hb dX8_readRow_164 (lv_at hl 2 rfl) ?_
    refine xput_l (rest := []) C hK hN hP (GX_D hI) hS eX23 (Nat.le_of_ble_eq_true rfl) w689 hl.1 (Nat.le_of_ble_eq_true rfl) dX8_readRow_166 ⟨Nat.le_of_ble_eq_true rfl, Nat.le_of_ble_eq_true rfl⟩ ⟨Nat.zero_le _, Nat.zero_le _⟩ (fun H locs hP hS => ?_)
    have hP : va_P D vwCl (GX cy ad tk sp nm tp kp cu se ur ab lo im ((put_l 100 sy.1 sy.2.2.2.2 v4), sy.2.1, sy.2.2.1, sy.2.2.2.1, sy.2.2.2.2) un en ra li i2) H := hP
    refine lv_aload_n hx hb dX8_readRow_169 rfl (lv_at hl 0 rfl) ?_
    refine gX22_1 C hK hP w279 dX8_readRow_170 ?_
    refine lv_aload_n hx hb dX8_readRow_173 rfl (lv_at hl 0 rfl) ?_
    refine gX22_4 (v := sy.2.2.2.2) C hK hP rfl w282 dX8_readRow_174 ?_
    refine lv_lload hx hb dX8_readRow_177 (lv_at hl 3 rfl) ?_
    refine xput_l (rest := []) C hK hN hP (GX_D hI) hS eX24 (Nat.le_of_ble_eq_true rfl) w689 hl.1 (Nat.le_of_ble_eq_true rfl) dX8_readRow_179 ⟨Nat.le_of_ble_eq_true rfl, Nat.le_of_ble_eq_true rfl⟩ ⟨Nat.zero_le _, Nat.zero_le _⟩ (fun H locs hP hS => ?_)
    have hP : va_P D vwCl (GX cy ad tk sp nm tp kp cu se ur ab lo im ((put_l 100 sy.1 sy.2.2.2.2 v4), (put_l 100 sy.2.1 sy.2.2.2.2 v6), sy.2.2.1, sy.2.2.2.1, sy.2.2.2.2) un en ra li i2) H := hP
    refine lv_aload_n hx hb dX8_readRow_182 rfl (lv_at hl 0 rfl) ?_
    refine gX22_2 C hK hP w280 dX8_readRow_183 ?_
    refine lv_aload_n hx hb dX8_readRow_186 rfl (lv_at hl 0 rfl) ?_
    refine gX22_4 (v := sy.2.2.2.2) C hK hP rfl w282 dX8_readRow_187 ?_
    refine lv_iload hx hb dX8_readRow_190 (lv_at hl 5 rfl) ?_
    refine lv_lload hx hb dX8_readRow_192 (lv_at hl 4 rfl) ?_
    refine lv_l2i (v := ((v9).toInt32)) hx hb dX8_readRow_194 rfl ?_
    refine lv_iadd hx hb dX8_readRow_195 ?_
    refine xput_i (rest := []) C hK hN hP (GX_D hI) hS eX25 (Nat.le_of_ble_eq_true rfl) w692 hl.1 (Nat.le_of_ble_eq_true rfl) dX8_readRow_196 ⟨Nat.le_of_ble_eq_true rfl, Nat.le_of_ble_eq_true rfl⟩ ⟨Nat.zero_le _, Nat.zero_le _⟩ (fun H locs hP hS => ?_)
    have hP : va_P D vwCl (GX cy ad tk sp nm tp kp cu se ur ab lo im ((put_l 100 sy.1 sy.2.2.2.2 v4), (put_l 100 sy.2.1 sy.2.2.2.2 v6), (put_i 100 sy.2.2.1 sy.2.2.2.2 (v11 + ((v9).toInt32))), sy.2.2.2.1, sy.2.2.2.2) un en ra li i2) H := hP
    refine lv_aload_n hx hb dX8_readRow_199 rfl (lv_at hl 0 rfl) ?_
    refine gX22_3 C hK hP w281 dX8_readRow_200 ?_
    refine lv_aload_n hx hb dX8_readRow_203 rfl (lv_at hl 0 rfl) ?_
    refine gX22_4 (v := sy.2.2.2.2) C hK hP rfl w282 dX8_readRow_204 ?_
    refine lv_iload hx hb dX8_readRow_207 (lv_at hl 6 rfl) ?_
    refine xput_i (rest := []) C hK hN hP (GX_D hI) hS eX26 (Nat.le_of_ble_eq_true rfl) w692 hl.1 (Nat.le_of_ble_eq_true rfl) dX8_readRow_209 ⟨Nat.le_of_ble_eq_true rfl, Nat.le_of_ble_eq_true rfl⟩ ⟨Nat.zero_le _, Nat.zero_le _⟩ (fun H locs hP hS => ?_)
    have hP : va_P D vwCl (GX cy ad tk sp nm tp kp cu se ur ab lo im ((put_l 100 sy.1 sy.2.2.2.2 v4), (put_l 100 sy.2.1 sy.2.2.2.2 v6), (put_i 100 sy.2.2.1 sy.2.2.2.2 (v11 + ((v9).toInt32))), (put_i 100 sy.2.2.2.1 sy.2.2.2.2 v12), sy.2.2.2.2) un en ra li i2) H := hP
    refine lv_aload_n hx hb dX8_readRow_212 rfl (lv_at hl 0 rfl) ?_
    refine lv_dup hx hb dX8_readRow_213 rfl ?_
    refine gX22_4 (v := sy.2.2.2.2) C hK hP rfl w282 dX8_readRow_214 ?_
    refine lv_iconst (v := (1 : Int32)) hx hb dX8_readRow_217 (by decide) ?_
    refine lv_iadd hx hb dX8_readRow_218 ?_
    refine pX22_4 (v := (sy.2.2.2.2 + (1 : Int32))) C hI hK hP hS w282 dX8_readRow_219 (fun H locs hP hS => ?_)
    have hP : va_P D vwCl (GX cy ad tk sp nm tp kp cu se ur ab lo im ((put_l 100 sy.1 sy.2.2.2.2 v4), (put_l 100 sy.2.1 sy.2.2.2.2 v6), (put_i 100 sy.2.2.1 sy.2.2.2.2 (v11 + ((v9).toInt32))), (put_i 100 sy.2.2.2.1 sy.2.2.2.2 v12), (sy.2.2.2.2 + (1 : Int32))) un en ra li i2) H := hP
    obtain rfl := Option.some.inj h
    exact W.vret hx hb hr (fun t ht _ => ⟨rfl, by rw [ht]; exact hP, hS.F ht⟩) hS.2.2 dX8_readRow_222 hlk
  · rw [if_pos c1] at h
    obtain rfl := Option.some.inj h
    exact W.vret hx hb hr (fun t ht _ => ⟨rfl, by rw [ht]; exact hP, hS.F ht⟩) hS.2.2 dX8_readRow_155 hlk
def X8_readRow_102 (tp : Ttp) (se : Tse)  (cu : Tcu) (sy : Tsy) (v3 : Int32) (v4 : Int64) (v6 : Int64) : Option (Tcu × Tsy) := ((X1_numberAt tp v3 (4 : Int32)).bind fun q1 => ((X1_toldText tp cu (X7_beginOf se (1 : Int32)) (X7_stopOf se (1 : Int32)) q1 v3).bind fun q3 => (if sy.2.2.2.2 < (100 : Int32) then X8_readRow_148 tp se q3.2 sy v4 v6 q1 (X7_beginOf se (1 : Int32)) q3.1 else (letq (X1_refuse q3.2 (4 : Int32) v3) fun q6 => X8_readRow_148 tp se q6 sy v4 v6 q1 (X7_beginOf se (1 : Int32)) q3.1))))
set_option maxRecDepth 20000 in
theorem bX8_readRow_102 (C : Cx p s m args meth c cX8_readRow 13 none RX8 (.code yX8_readRow cX8_readRow 13 none)) (hI : Apart ad 89) (hK : va_K D vwCl (tysX cy) s) (hN : NW s)  {q : Tcu × Tsy}  {v3 : Int32} {v4 : Int64} {v6 : Int64} (h : X8_readRow_102 tp se cu sy v3 v4 v6 = some q) {ls : Array Slot} (hl : lv_has ls 13 [(0, .ref (ad 22)), (1, .ref (ad 3)), (2, .ref (ad 4)), (3, .int v3), (4, .long v4), (6, .long v6)]) {H : Heap} {locs : List Loc} (hP : va_P D vwCl (GX cy ad tk sp nm tp kp cu se ur ab lo im sy un en ra li i2) H) (hS : va_S (Ac ad 89) s.heap H locs) : W p l e ({ frames := 2, cells := 0, slots := 0, locals := 49 } : Room) s m args below meth c H locs 0 0 (MQ below (QR none D (GX cy ad tk sp nm tp kp q.1 se ur ab lo im q.2 un en ra li i2) (Ac ad 89)) args s 0 0 (Ac ad 89)) (F0 m 102 ls []) := by
  obtain ⟨hx, hb, hml, hown, hts, hr, hlk⟩ := id C
  unfold X8_readRow_102 at h
  refine lv_aload_n hx hb dX8_readRow_102 rfl (lv_at hl 1 rfl) ?_
  refine lv_iload_n hx hb dX8_readRow_103 rfl (lv_at hl 3 rfl) ?_
  refine lv_iconst (v := (4 : Int32)) hx hb dX8_readRow_104 (by decide) ?_
  obtain ⟨q1, h2, h⟩ := bnd h
  refine cPl (run_V (rest := []) C (kX1_numberAt h2) caX1_numberAt w685 ⟨rfl, rfl, Nat.le_of_ble_eq_true rfl, Nat.le_of_ble_eq_true rfl⟩ hK hN hP (rX3 hK hP) rfl hl.1 rfl (Nat.le_of_ble_eq_true rfl) dX8_readRow_105 ⟨Nat.zero_le _, Nat.zero_le _⟩) ?_
  refine lv_lstore (lv' := [(9, .long q1), (0, .ref (ad 22)), (1, .ref (ad 3)), (2, .ref (ad 4)), (3, .int v3), (4, .long v4), (6, .long v6)]) hx hb dX8_readRow_108 hl (by decide) rfl (fun ls hl => ?_)
  refine lv_aload_n hx hb dX8_readRow_110 rfl (lv_at hl 3 rfl) ?_
  refine lv_iconst (v := (1 : Int32)) hx hb dX8_readRow_111 (by decide) ?_
  refine cPi (run_V (rest := []) C (kX7_beginOf rfl) caX7_beginOf w672 ⟨rfl, rfl, Nat.le_of_ble_eq_true rfl, Nat.le_of_ble_eq_true rfl⟩ hK hN hP (rX4 hK hP) rfl hl.1 rfl (Nat.le_of_ble_eq_true rfl) dX8_readRow_112 ⟨Nat.zero_le _, Nat.zero_le _⟩) ?_
  refine lv_istore (lv' := [(11, .int (X7_beginOf se (1 : Int32))), (9, .long q1), (0, .ref (ad 22)), (1, .ref (ad 3)), (2, .ref (ad 4)), (3, .int v3), (4, .long v4), (6, .long v6)]) hx hb dX8_readRow_115 hl (by decide) rfl (fun ls hl => ?_)
  refine lv_aload_n hx hb dX8_readRow_117 rfl (lv_at hl 3 rfl) ?_
  refine lv_iload hx hb dX8_readRow_118 (lv_at hl 0 rfl) ?_
  refine lv_aload_n hx hb dX8_readRow_120 rfl (lv_at hl 4 rfl) ?_
  refine lv_iconst (v := (1 : Int32)) hx hb dX8_readRow_121 (by decide) ?_
  refine cPi (run_V (rest := [.int (X7_beginOf se (1 : Int32)), .ref (ad 3)]) C (kX7_stopOf rfl) caX7_stopOf w676 ⟨rfl, rfl, Nat.le_of_ble_eq_true rfl, Nat.le_of_ble_eq_true rfl⟩ hK hN hP (rX4 hK hP) rfl hl.1 rfl (Nat.le_of_ble_eq_true rfl) dX8_readRow_122 ⟨Nat.zero_le _, Nat.zero_le _⟩) ?_
  refine lv_lload hx hb dX8_readRow_125 (lv_at hl 1 rfl) ?_
  refine lv_iload_n hx hb dX8_readRow_127 rfl (lv_at hl 5 rfl) ?_
  obtain ⟨q3, h4, h⟩ := bnd h
  refine cRi (run_V (rest := []) C (kX1_toldText hI h4) caX1_toldText w688 ⟨rfl, rfl, Nat.le_of_ble_eq_true rfl, Nat.le_of_ble_eq_true rfl⟩ hK hN hP (rX3 hK hP) rfl hl.1 rfl (Nat.le_of_ble_eq_true rfl) dX8_readRow_128 ⟨Nat.zero_le _, Nat.zero_le _⟩) hS (fun H locs hP hS => ?_)
  have hP : va_P D vwCl (GX cy ad tk sp nm tp kp q3.2 se ur ab lo im sy un en ra li i2) H := hP
  refine lv_istore (lv' := [(12, .int q3.1), (11, .int (X7_beginOf se (1 : Int32))), (9, .long q1), (0, .ref (ad 22)), (1, .ref (ad 3)), (2, .ref (ad 4)), (3, .int v3), (4, .long v4), (6, .long v6)]) hx hb dX8_readRow_131 hl (by decide) rfl (fun ls hl => ?_)
  refine lv_aload_n hx hb dX8_readRow_133 rfl (lv_at hl 3 rfl) ?_
  refine gX22_4 (v := sy.2.2.2.2) C hK hP rfl w282 dX8_readRow_134 ?_
  refine lv_bipush (v := (100 : Int32)) hx hb dX8_readRow_137 (by decide) ?_
  refine lv_icmp_lt (tgt := 148) hx hb dX8_readRow_139 (by decide) (fun c5 => ?_) (fun c5 => ?_)
  · rw [if_pos c5] at h
    exact bX8_readRow_148 C hI hK hN h (lv_sub hl [3, 4, 7, 8, 2, 1, 0] rfl) hP hS
  · rw [if_neg c5] at h
    refine lv_aload_n hx hb dX8_readRow_142 rfl (lv_at hl 4 rfl) ?_
    refine lv_iconst (v := (4 : Int32)) hx hb dX8_readRow_143 (by decide) ?_
    refine lv_iload_n hx hb dX8_readRow_144 rfl (lv_at hl 6 rfl) ?_
    obtain ⟨q6, h7, h⟩ := lets h
    refine cRv (run_V (rest := []) C (kX1_refuse hI h7) caX1_refuse w687 ⟨rfl, rfl, Nat.le_of_ble_eq_true rfl, Nat.le_of_ble_eq_true rfl⟩ hK hN hP (rX3 hK hP) rfl hl.1 rfl (Nat.le_of_ble_eq_true rfl) dX8_readRow_145 ⟨Nat.zero_le _, Nat.zero_le _⟩) hS (fun H locs hP hS => ?_)
    have hP : va_P D vwCl (GX cy ad tk sp nm tp kp q6 se ur ab lo im sy un en ra li i2) H := hP
    exact bX8_readRow_148 C hI hK hN h (lv_sub hl [3, 4, 7, 8, 2, 1, 0] rfl) hP hS
def X8_readRow_96 (tp : Ttp) (se : Tse)  (cu : Tcu) (sy : Tsy) (v3 : Int32) (v4 : Int64) (v6 : Int64) : Option (Tcu × Tsy) := (letq (X1_refuse cu (2 : Int32) v3) fun q1 => X8_readRow_102 tp se q1 sy v3 v4 v6)
set_option maxRecDepth 20000 in
theorem bX8_readRow_96 (C : Cx p s m args meth c cX8_readRow 13 none RX8 (.code yX8_readRow cX8_readRow 13 none)) (hI : Apart ad 89) (hK : va_K D vwCl (tysX cy) s) (hN : NW s)  {q : Tcu × Tsy}  {v3 : Int32} {v4 : Int64} {v6 : Int64} (h : X8_readRow_96 tp se cu sy v3 v4 v6 = some q) {ls : Array Slot} (hl : lv_has ls 13 [(0, .ref (ad 22)), (1, .ref (ad 3)), (2, .ref (ad 4)), (3, .int v3), (4, .long v4), (6, .long v6)]) {H : Heap} {locs : List Loc} (hP : va_P D vwCl (GX cy ad tk sp nm tp kp cu se ur ab lo im sy un en ra li i2) H) (hS : va_S (Ac ad 89) s.heap H locs) : W p l e ({ frames := 2, cells := 0, slots := 0, locals := 49 } : Room) s m args below meth c H locs 0 0 (MQ below (QR none D (GX cy ad tk sp nm tp kp q.1 se ur ab lo im q.2 un en ra li i2) (Ac ad 89)) args s 0 0 (Ac ad 89)) (F0 m 96 ls []) := by
  obtain ⟨hx, hb, hml, hown, hts, hr, hlk⟩ := id C
  unfold X8_readRow_96 at h
  refine lv_aload_n hx hb dX8_readRow_96 rfl (lv_at hl 1 rfl) ?_
  refine lv_iconst (v := (2 : Int32)) hx hb dX8_readRow_97 (by decide) ?_
  refine lv_iload_n hx hb dX8_readRow_98 rfl (lv_at hl 3 rfl) ?_
  obtain ⟨q1, h2, h⟩ := lets h
  refine cRv (run_V (rest := []) C (kX1_refuse hI h2) caX1_refuse w687 ⟨rfl, rfl, Nat.le_of_ble_eq_true rfl, Nat.le_of_ble_eq_true rfl⟩ hK hN hP (rX3 hK hP) rfl hl.1 rfl (Nat.le_of_ble_eq_true rfl) dX8_readRow_99 ⟨Nat.zero_le _, Nat.zero_le _⟩) hS (fun H locs hP hS => ?_)
  have hP : va_P D vwCl (GX cy ad tk sp nm tp kp q1 se ur ab lo im sy un en ra li i2) H := hP
  exact bX8_readRow_102 C hI hK hN h (lv_sub hl [0, 1, 2, 3, 4, 5] rfl) hP hS
def X8_readRow_43 (tp : Ttp) (se : Tse)  (cu : Tcu) (sy : Tsy) (v3 : Int32) (v4 : Int64) (v6 : Int64) (z0 : Int32) : Option (Tcu × Tsy) := (if z0 = 0 then some (cu, sy) else ((X1_numberAt tp (v3 + (6 : Int32)) (2 : Int32)).bind fun q2 => (if q2 = (0 : Int64) then some (cu, sy) else (if v6 = (0 : Int64) then some (cu, sy) else (if v4 < (0 : Int64) then X8_readRow_96 tp se cu sy v3 v4 v6 else (if v6 < (0 : Int64) then X8_readRow_96 tp se cu sy v3 v4 v6 else (if (v4 + v6) < (0 : Int64) then X8_readRow_96 tp se cu sy v3 v4 v6 else X8_readRow_102 tp se cu sy v3 v4 v6)))))))
set_option maxRecDepth 20000 in
theorem bX8_readRow_43 (C : Cx p s m args meth c cX8_readRow 13 none RX8 (.code yX8_readRow cX8_readRow 13 none)) (hI : Apart ad 89) (hK : va_K D vwCl (tysX cy) s) (hN : NW s)  {q : Tcu × Tsy}  {v3 : Int32} {v4 : Int64} {v6 : Int64} {z0 : Int32} (h : X8_readRow_43 tp se cu sy v3 v4 v6 z0 = some q) {ls : Array Slot} (hl : lv_has ls 13 [(0, .ref (ad 22)), (1, .ref (ad 3)), (2, .ref (ad 4)), (3, .int v3), (4, .long v4), (6, .long v6)]) {H : Heap} {locs : List Loc} (hP : va_P D vwCl (GX cy ad tk sp nm tp kp cu se ur ab lo im sy un en ra li i2) H) (hS : va_S (Ac ad 89) s.heap H locs) : W p l e ({ frames := 2, cells := 0, slots := 0, locals := 49 } : Room) s m args below meth c H locs 0 0 (MQ below (QR none D (GX cy ad tk sp nm tp kp q.1 se ur ab lo im q.2 un en ra li i2) (Ac ad 89)) args s 0 0 (Ac ad 89)) (F0 m 43 ls [.int z0]) := by
  obtain ⟨hx, hb, hml, hown, hts, hr, hlk⟩ := id C
  unfold X8_readRow_43 at h
  refine lv_istore (lv' := [(8, .int z0), (0, .ref (ad 22)), (1, .ref (ad 3)), (2, .ref (ad 4)), (3, .int v3), (4, .long v4), (6, .long v6)]) hx hb dX8_readRow_43 hl (by decide) rfl (fun ls hl => ?_)
  refine lv_iload hx hb dX8_readRow_45 (lv_at hl 0 rfl) ?_
  refine lv_if_eq (tgt := 71) hx hb dX8_readRow_47 (by decide) (fun c1 => ?_) (fun c1 => ?_)
  · rw [if_pos c1] at h
    obtain rfl := Option.some.inj h
    exact W.vret hx hb hr (fun t ht _ => ⟨rfl, by rw [ht]; exact hP, hS.F ht⟩) hS.2.2 dX8_readRow_71 hlk
  · rw [if_neg c1] at h
    refine lv_aload_n hx hb dX8_readRow_50 rfl (lv_at hl 2 rfl) ?_
    refine lv_iload_n hx hb dX8_readRow_51 rfl (lv_at hl 4 rfl) ?_
    refine lv_bipush (v := (6 : Int32)) hx hb dX8_readRow_52 (by decide) ?_
    refine lv_iadd hx hb dX8_readRow_54 ?_
    refine lv_iconst (v := (2 : Int32)) hx hb dX8_readRow_55 (by decide) ?_
    obtain ⟨q2, h3, h⟩ := bnd h
    refine cPl (run_V (rest := []) C (kX1_numberAt h3) caX1_numberAt w685 ⟨rfl, rfl, Nat.le_of_ble_eq_true rfl, Nat.le_of_ble_eq_true rfl⟩ hK hN hP (rX3 hK hP) rfl hl.1 rfl (Nat.le_of_ble_eq_true rfl) dX8_readRow_56 ⟨Nat.zero_le _, Nat.zero_le _⟩) ?_
    refine lv_lconst (v := (0 : Int64)) hx hb dX8_readRow_59 (by decide) ?_
    refine lc_eq (tgt := 71) hx hb dX8_readRow_60 dX8_readRow_61 (by decide) (fun c4 => ?_) (fun c4 => ?_)
    · rw [if_pos c4] at h
      obtain rfl := Option.some.inj h
      exact W.vret hx hb hr (fun t ht _ => ⟨rfl, by rw [ht]; exact hP, hS.F ht⟩) hS.2.2 dX8_readRow_71 hlk
    · rw [if_neg c4] at h
      refine lv_lload hx hb dX8_readRow_64 (lv_at hl 6 rfl) ?_
      refine lv_lconst (v := (0 : Int64)) hx hb dX8_readRow_66 (by decide) ?_
      refine lc_ne (tgt := 72) hx hb dX8_readRow_67 dX8_readRow_68 (by decide) (fun c5 => ?_) (fun c5 => ?_)
      · rw [if_neg c5] at h
        refine lv_lload hx hb dX8_readRow_72 (lv_at hl 5 rfl) ?_
        refine lv_lconst (v := (0 : Int64)) hx hb dX8_readRow_74 (by decide) ?_
        refine lc_lt (tgt := 96) hx hb dX8_readRow_75 dX8_readRow_76 (by decide) (fun c6 => ?_) (fun c6 => ?_)
        · rw [if_pos c6] at h
          exact bX8_readRow_96 C hI hK hN h (lv_sub hl [1, 2, 3, 4, 5, 6] rfl) hP hS
        · rw [if_neg c6] at h
          refine lv_lload hx hb dX8_readRow_79 (lv_at hl 6 rfl) ?_
          refine lv_lconst (v := (0 : Int64)) hx hb dX8_readRow_81 (by decide) ?_
          refine lc_lt (tgt := 96) hx hb dX8_readRow_82 dX8_readRow_83 (by decide) (fun c7 => ?_) (fun c7 => ?_)
          · rw [if_pos c7] at h
            exact bX8_readRow_96 C hI hK hN h (lv_sub hl [1, 2, 3, 4, 5, 6] rfl) hP hS
          · rw [if_neg c7] at h
            refine lv_lload hx hb dX8_readRow_86 (lv_at hl 5 rfl) ?_
            refine lv_lload hx hb dX8_readRow_88 (lv_at hl 6 rfl) ?_
            refine lv_ladd hx hb dX8_readRow_90 ?_
            refine lv_lconst (v := (0 : Int64)) hx hb dX8_readRow_91 (by decide) ?_
            refine lc_ge (tgt := 102) hx hb dX8_readRow_92 dX8_readRow_93 (by decide) (fun c8 => ?_) (fun c8 => ?_)
            · rw [if_neg c8] at h
              exact bX8_readRow_102 C hI hK hN h (lv_sub hl [1, 2, 3, 4, 5, 6] rfl) hP hS
            · rw [if_pos c8] at h
              exact bX8_readRow_96 C hI hK hN h (lv_sub hl [1, 2, 3, 4, 5, 6] rfl) hP hS
      · rw [if_pos c5] at h
        obtain rfl := Option.some.inj h
        exact W.vret hx hb hr (fun t ht _ => ⟨rfl, by rw [ht]; exact hP, hS.F ht⟩) hS.2.2 dX8_readRow_71 hlk
def X8_readRow (tp : Ttp) (cu : Tcu) (se : Tse) (sy : Tsy) (v3 : Int32) : Option (Tcu × Tsy) := ((X1_numberAt tp (v3 + (8 : Int32)) (8 : Int32)).bind fun q1 => ((X1_numberAt tp (v3 + (16 : Int32)) (8 : Int32)).bind fun q3 => ((X1_byteAt tp (v3 + (4 : Int32))).bind fun q5 => (if (q5 - q5 / (16 : Int32) * (16 : Int32)) = (2 : Int32) then X8_readRow_43 tp se cu sy v3 q1 q3 (1 : Int32) else X8_readRow_43 tp se cu sy v3 q1 q3 (0 : Int32)))))
set_option maxRecDepth 20000 in
theorem bX8_readRow_0 (C : Cx p s m args meth c cX8_readRow 13 none RX8 (.code yX8_readRow cX8_readRow 13 none)) (hI : Apart ad 89) (hK : va_K D vwCl (tysX cy) s) (hN : NW s)  {q : Tcu × Tsy}  {v3 : Int32} (h : X8_readRow tp cu se sy v3 = some q) {ls : Array Slot} (hl : lv_has ls 13 [(0, .ref (ad 22)), (1, .ref (ad 3)), (2, .ref (ad 4)), (3, .int v3)]) {H : Heap} {locs : List Loc} (hP : va_P D vwCl (GX cy ad tk sp nm tp kp cu se ur ab lo im sy un en ra li i2) H) (hS : va_S (Ac ad 89) s.heap H locs) : W p l e ({ frames := 2, cells := 0, slots := 0, locals := 49 } : Room) s m args below meth c H locs 0 0 (MQ below (QR none D (GX cy ad tk sp nm tp kp q.1 se ur ab lo im q.2 un en ra li i2) (Ac ad 89)) args s 0 0 (Ac ad 89)) (F0 m 0 ls []) := by
  obtain ⟨hx, hb, hml, hown, hts, hr, hlk⟩ := id C
  unfold X8_readRow at h
  refine lv_aload_n hx hb dX8_readRow_0 rfl (lv_at hl 1 rfl) ?_
  refine lv_iload_n hx hb dX8_readRow_1 rfl (lv_at hl 3 rfl) ?_
  refine lv_bipush (v := (8 : Int32)) hx hb dX8_readRow_2 (by decide) ?_
  refine lv_iadd hx hb dX8_readRow_4 ?_
  refine lv_bipush (v := (8 : Int32)) hx hb dX8_readRow_5 (by decide) ?_
  obtain ⟨q1, h2, h⟩ := bnd h
  refine cPl (run_V (rest := []) C (kX1_numberAt h2) caX1_numberAt w685 ⟨rfl, rfl, Nat.le_of_ble_eq_true rfl, Nat.le_of_ble_eq_true rfl⟩ hK hN hP (rX3 hK hP) rfl hl.1 rfl (Nat.le_of_ble_eq_true rfl) dX8_readRow_7 ⟨Nat.zero_le _, Nat.zero_le _⟩) ?_
  refine lv_lstore (lv' := [(4, .long q1), (0, .ref (ad 22)), (1, .ref (ad 3)), (2, .ref (ad 4)), (3, .int v3)]) hx hb dX8_readRow_10 hl (by decide) rfl (fun ls hl => ?_)
  refine lv_aload_n hx hb dX8_readRow_12 rfl (lv_at hl 2 rfl) ?_
  refine lv_iload_n hx hb dX8_readRow_13 rfl (lv_at hl 4 rfl) ?_
  refine lv_bipush (v := (16 : Int32)) hx hb dX8_readRow_14 (by decide) ?_
  refine lv_iadd hx hb dX8_readRow_16 ?_
  refine lv_bipush (v := (8 : Int32)) hx hb dX8_readRow_17 (by decide) ?_
  obtain ⟨q3, h4, h⟩ := bnd h
  refine cPl (run_V (rest := []) C (kX1_numberAt h4) caX1_numberAt w685 ⟨rfl, rfl, Nat.le_of_ble_eq_true rfl, Nat.le_of_ble_eq_true rfl⟩ hK hN hP (rX3 hK hP) rfl hl.1 rfl (Nat.le_of_ble_eq_true rfl) dX8_readRow_19 ⟨Nat.zero_le _, Nat.zero_le _⟩) ?_
  refine lv_lstore (lv' := [(6, .long q3), (4, .long q1), (0, .ref (ad 22)), (1, .ref (ad 3)), (2, .ref (ad 4)), (3, .int v3)]) hx hb dX8_readRow_22 hl (by decide) rfl (fun ls hl => ?_)
  refine lv_aload_n hx hb dX8_readRow_24 rfl (lv_at hl 3 rfl) ?_
  refine lv_iload_n hx hb dX8_readRow_25 rfl (lv_at hl 5 rfl) ?_
  refine lv_iconst (v := (4 : Int32)) hx hb dX8_readRow_26 (by decide) ?_
  refine lv_iadd hx hb dX8_readRow_27 ?_
  obtain ⟨q5, h6, h⟩ := bnd h
  refine cPi (run_V (rest := []) C (kX1_byteAt h6) caX1_byteAt w686 ⟨rfl, rfl, Nat.le_of_ble_eq_true rfl, Nat.le_of_ble_eq_true rfl⟩ hK hN hP (rX3 hK hP) rfl hl.1 rfl (Nat.le_of_ble_eq_true rfl) dX8_readRow_28 ⟨Nat.zero_le _, Nat.zero_le _⟩) ?_
  refine lv_bipush (v := (16 : Int32)) hx hb dX8_readRow_31 (by decide) ?_
  refine lv_irem hx hb dX8_readRow_33 (by decide) ?_
  refine lv_iconst (v := (2 : Int32)) hx hb dX8_readRow_34 (by decide) ?_
  refine lv_icmp_ne (tgt := 42) hx hb dX8_readRow_35 (by decide) (fun c7 => ?_) (fun c7 => ?_)
  · rw [if_neg c7] at h
    refine lv_iconst (v := (0 : Int32)) hx hb dX8_readRow_42 (by decide) ?_
    exact bX8_readRow_43 C hI hK hN h (lv_sub hl [2, 3, 4, 5, 1, 0] rfl) hP hS
  · rw [if_pos c7] at h
    refine lv_iconst (v := (1 : Int32)) hx hb dX8_readRow_38 (by decide) ?_
    refine lv_goto (tgt := 43) hx hb dX8_readRow_39 (by decide) ?_
    exact bX8_readRow_43 C hI hK hN h (lv_sub hl [2, 3, 4, 5, 1, 0] rfl) hP hS
theorem kX8_readRow (hI : Apart ad 89) {v3 : Int32} {q : Tcu × Tsy} (h : X8_readRow tp cu se sy v3 = some q) : Met l yX8_readRow (.code yX8_readRow cX8_readRow 13 none :: WA) ({ frames := 2, cells := 0, slots := 0, locals := 49 } : Room) (va_Pc [.ref (ad 22), .ref (ad 3), .ref (ad 4), .int v3] (PR D cy (GX cy ad tk sp nm tp kp cu se ur ab lo im sy un en ra li i2))) (QR none D (GX cy ad tk sp nm tp kp q.1 se ur ab lo im q.2 un en ra li i2) (Ac ad 89)) 0 0 (Ac ad 89) :=
  met_of (by decide) (Nat.le_of_ble_eq_true rfl) (fun p e s m below meth c ls C hP hK hN hl => bX8_readRow_0 C hI hK hN h hl hP va_S.rf)
def X8_read_63 (tp : Ttp) (se : Tse)  (cu : Tcu) (sy : Tsy) (v3 : Int32) (v4 : Int32) (v5 : Int32) : Option (Tcu × Tsy) := (if (v3 + (v5 * (24 : Int32))) < v4 then (letq (X1_refuse cu (1 : Int32) (v3 + (v5 * (24 : Int32)))) fun q2 => some (q2, sy)) else some (cu, sy))
set_option maxRecDepth 20000 in
theorem bX8_read_63 (C : Cx p s m args meth c cX8_read 7 none RX8 (.code yX8_read cX8_read 7 none)) (hI : Apart ad 89) (hK : va_K D vwCl (tysX cy) s) (hN : NW s)  {q : Tcu × Tsy}  {v3 : Int32} {v4 : Int32} {v5 : Int32} (h : X8_read_63 tp se cu sy v3 v4 v5 = some q) {ls : Array Slot} (hl : lv_has ls 7 [(1, .ref (ad 3)), (3, .int v3), (4, .int v4), (5, .int v5)]) {H : Heap} {locs : List Loc} (hP : va_P D vwCl (GX cy ad tk sp nm tp kp cu se ur ab lo im sy un en ra li i2) H) (hS : va_S (Ac ad 89) s.heap H locs) : W p l e ({ frames := 3, cells := 0, slots := 0, locals := 81 } : Room) s m args below meth c H locs 0 0 (MQ below (QR none D (GX cy ad tk sp nm tp kp q.1 se ur ab lo im q.2 un en ra li i2) (Ac ad 89)) args s 0 0 (Ac ad 89)) (F0 m 63 ls []) := by
  obtain ⟨hx, hb, hml, hown, hts, hr, hlk⟩ := id C
  unfold X8_read_63 at h
  refine lv_iload_n hx hb dX8_read_63 rfl (lv_at hl 1 rfl) ?_
  refine lv_iload hx hb dX8_read_64 (lv_at hl 3 rfl) ?_
  refine lv_bipush (v := (24 : Int32)) hx hb dX8_read_66 (by decide) ?_
  refine lv_imul hx hb dX8_read_68 ?_
  refine lv_iadd hx hb dX8_read_69 ?_
  refine lv_istore (lv' := [(6, .int (v3 + (v5 * (24 : Int32)))), (1, .ref (ad 3)), (3, .int v3), (4, .int v4), (5, .int v5)]) hx hb dX8_read_70 hl (by decide) rfl (fun ls hl => ?_)
  refine lv_iload hx hb dX8_read_72 (lv_at hl 0 rfl) ?_
  refine lv_iload hx hb dX8_read_74 (lv_at hl 3 rfl) ?_
  refine b_icmp_ge (tgt := 86) hx hb dX8_read_76 (by decide) (fun c1 => ?_) (fun c1 => ?_)
  · rw [if_neg c1] at h
    obtain rfl := Option.some.inj h
    exact W.vret hx hb hr (fun t ht _ => ⟨rfl, by rw [ht]; exact hP, hS.F ht⟩) hS.2.2 dX8_read_86 hlk
  · rw [if_pos c1] at h
    refine lv_aload_n hx hb dX8_read_79 rfl (lv_at hl 1 rfl) ?_
    refine lv_iconst (v := (1 : Int32)) hx hb dX8_read_80 (by decide) ?_
    refine lv_iload hx hb dX8_read_81 (lv_at hl 0 rfl) ?_
    obtain ⟨q2, h3, h⟩ := lets h
    refine cRv (run_V (rest := []) C (kX1_refuse hI h3) caX1_refuse w687 ⟨rfl, rfl, Nat.le_of_ble_eq_true rfl, Nat.le_of_ble_eq_true rfl⟩ hK hN hP (rX3 hK hP) rfl hl.1 rfl (Nat.le_of_ble_eq_true rfl) dX8_read_83 ⟨Nat.zero_le _, Nat.zero_le _⟩) hS (fun H locs hP hS => ?_)
    have hP : va_P D vwCl (GX cy ad tk sp nm tp kp q2 se ur ab lo im sy un en ra li i2) H := hP
    obtain rfl := Option.some.inj h
    exact W.vret hx hb hr (fun t ht _ => ⟨rfl, by rw [ht]; exact hP, hS.F ht⟩) hS.2.2 dX8_read_86 hlk
def X8_read_30b (tp : Ttp) (se : Tse)  (k30 : Tcu → Tsy → Int32 → Int32 → Int32 → Int32 → Option (Tcu × Tsy)) (cu : Tcu) (sy : Tsy) (v3 : Int32) (v4 : Int32) (v5 : Int32) (v6 : Int32) : Option (Tcu × Tsy) := (if v6 < v5 then (if (X1_sound cu) = 0 then X8_read_63 tp se cu sy v3 v4 v5 else ((X8_readRow tp cu se sy (v3 + (v6 * (24 : Int32)))).bind fun q3 => k30 q3.1 q3.2 v3 v4 v5 (v6 + (1 : Int32)))) else X8_read_63 tp se cu sy v3 v4 v5)
def X8_read_30 (tp : Ttp) (se : Tse)  (n : Nat) (st : Tcu × Tsy × Int32 × Int32 × Int32 × Int32) : Option (Tcu × Tsy) := lp (fun rec st => X8_read_30b tp se  (fun a0 a1 a2 a3 a4 a5 => rec (a0, a1, a2, a3, a4, a5)) st.1 st.2.1 st.2.2.1 st.2.2.2.1 st.2.2.2.2.1 st.2.2.2.2.2) n st
set_option maxRecDepth 20000 in
theorem bX8_read_30 (C : Cx p s m args meth c cX8_read 7 none RX8 (.code yX8_read cX8_read 7 none)) (hI : Apart ad 89) (hK : va_K D vwCl (tysX cy) s) (hN : NW s)  {q : Tcu × Tsy}  : ∀ (n : Nat) {cu : Tcu} {sy : Tsy} {v3 : Int32} {v4 : Int32} {v5 : Int32} {v6 : Int32}, X8_read_30 tp se  n (cu, sy, v3, v4, v5, v6) = some q → ∀ {ls : Array Slot}, lv_has ls 7 [(0, .ref (ad 22)), (1, .ref (ad 3)), (2, .ref (ad 4)), (3, .int v3), (4, .int v4), (5, .int v5), (6, .int v6)] → ∀ {H : Heap} {locs : List Loc}, va_P D vwCl (GX cy ad tk sp nm tp kp cu se ur ab lo im sy un en ra li i2) H → va_S (Ac ad 89) s.heap H locs → W p l e ({ frames := 3, cells := 0, slots := 0, locals := 81 } : Room) s m args below meth c H locs 0 0 (MQ below (QR none D (GX cy ad tk sp nm tp kp q.1 se ur ab lo im q.2 un en ra li i2) (Ac ad 89)) args s 0 0 (Ac ad 89)) (F0 m 30 ls []) := by
  obtain ⟨hx, hb, hml, hown, hts, hr, hlk⟩ := id C
  intro n
  induction n with
  | zero =>
    intro cu sy v3 v4 v5 v6 h ls hl H locs hP hS
    have h : (none : Option (Tcu × Tsy)) = some q := h
    cases h
  | succ n ih =>
    intro cu sy v3 v4 v5 v6 h ls hl H locs hP hS
    have h : X8_read_30b tp se  (fun a0 a1 a2 a3 a4 a5 => X8_read_30 tp se  n (a0, a1, a2, a3, a4, a5)) cu sy v3 v4 v5 v6 = some q := h
    unfold X8_read_30b at h
    refine lv_iload hx hb dX8_read_30 (lv_at hl 6 rfl) ?_
    refine lv_iload hx hb dX8_read_32 (lv_at hl 5 rfl) ?_
    refine b_icmp_ge (tgt := 63) hx hb dX8_read_34 (by decide) (fun c1 => ?_) (fun c1 => ?_)
    · rw [if_neg c1] at h
      exact bX8_read_63 C hI hK hN h (lv_sub hl [1, 3, 4, 5] rfl) hP hS
    · rw [if_pos c1] at h
      refine lv_aload_n hx hb dX8_read_37 rfl (lv_at hl 1 rfl) ?_
      refine cPi (run_V (rest := []) C (kX1_sound rfl) caX1_sound w680 ⟨rfl, rfl, Nat.le_of_ble_eq_true rfl, Nat.le_of_ble_eq_true rfl⟩ hK hN hP (rX3 hK hP) rfl hl.1 rfl (Nat.le_of_ble_eq_true rfl) dX8_read_38 ⟨Nat.zero_le _, Nat.zero_le _⟩) ?_
      refine lv_if_eq (tgt := 63) hx hb dX8_read_41 (by decide) (fun c2 => ?_) (fun c2 => ?_)
      · rw [if_pos c2] at h
        exact bX8_read_63 C hI hK hN h (lv_sub hl [1, 3, 4, 5] rfl) hP hS
      · rw [if_neg c2] at h
        refine lv_aload_n hx hb dX8_read_44 rfl (lv_at hl 0 rfl) ?_
        refine lv_aload_n hx hb dX8_read_45 rfl (lv_at hl 1 rfl) ?_
        refine lv_aload_n hx hb dX8_read_46 rfl (lv_at hl 2 rfl) ?_
        refine lv_iload_n hx hb dX8_read_47 rfl (lv_at hl 3 rfl) ?_
        refine lv_iload hx hb dX8_read_48 (lv_at hl 6 rfl) ?_
        refine lv_bipush (v := (24 : Int32)) hx hb dX8_read_50 (by decide) ?_
        refine lv_imul hx hb dX8_read_52 ?_
        refine lv_iadd hx hb dX8_read_53 ?_
        obtain ⟨q3, h4, h⟩ := bnd h
        refine cRv (run_V (rest := []) C (kX8_readRow hI h4) caX8_readRow w681 ⟨rfl, rfl, Nat.le_of_ble_eq_true rfl, Nat.le_of_ble_eq_true rfl⟩ hK hN hP (rX22 hK hP) rfl hl.1 rfl (Nat.le_of_ble_eq_true rfl) dX8_read_54 ⟨Nat.zero_le _, Nat.zero_le _⟩) hS (fun H locs hP hS => ?_)
        have hP : va_P D vwCl (GX cy ad tk sp nm tp kp q3.1 se ur ab lo im q3.2 un en ra li i2) H := hP
        refine lv_iinc (v := (v6 + (1 : Int32))) (lv' := [(6, .int (v6 + (1 : Int32))), (0, .ref (ad 22)), (1, .ref (ad 3)), (2, .ref (ad 4)), (3, .int v3), (4, .int v4), (5, .int v5)]) hx hb dX8_read_57 hl (k := 6) rfl rfl (by decide) rfl (fun ls hl => ?_)
        refine lv_goto (tgt := 30) hx hb dX8_read_60 (by decide) ?_
        exact ih h (lv_sub hl [1, 2, 3, 4, 5, 6, 0] rfl) hP hS
def X8_read (tp : Ttp) (cu : Tcu) (se : Tse) (sy : Tsy)  : Option (Tcu × Tsy) := X8_read_30 tp se FU (cu, (sy.1, sy.2.1, sy.2.2.1, sy.2.2.2.1, (0 : Int32)), (X7_beginOf se (0 : Int32)), (X7_stopOf se (0 : Int32)), (((X7_stopOf se (0 : Int32)) - (X7_beginOf se (0 : Int32))) / (24 : Int32)), (0 : Int32))
set_option maxRecDepth 20000 in
theorem bX8_read_0 (C : Cx p s m args meth c cX8_read 7 none RX8 (.code yX8_read cX8_read 7 none)) (hI : Apart ad 89) (hK : va_K D vwCl (tysX cy) s) (hN : NW s)  {q : Tcu × Tsy}   (h : X8_read tp cu se sy = some q) {ls : Array Slot} (hl : lv_has ls 7 [(0, .ref (ad 22)), (1, .ref (ad 3)), (2, .ref (ad 4))]) {H : Heap} {locs : List Loc} (hP : va_P D vwCl (GX cy ad tk sp nm tp kp cu se ur ab lo im sy un en ra li i2) H) (hS : va_S (Ac ad 89) s.heap H locs) : W p l e ({ frames := 3, cells := 0, slots := 0, locals := 81 } : Room) s m args below meth c H locs 0 0 (MQ below (QR none D (GX cy ad tk sp nm tp kp q.1 se ur ab lo im q.2 un en ra li i2) (Ac ad 89)) args s 0 0 (Ac ad 89)) (F0 m 0 ls []) := by
  obtain ⟨hx, hb, hml, hown, hts, hr, hlk⟩ := id C
  unfold X8_read at h
  refine lv_aload_n hx hb dX8_read_0 rfl (lv_at hl 0 rfl) ?_
  refine lv_iconst (v := (0 : Int32)) hx hb dX8_read_1 (by decide) ?_
  refine pX22_4 (v := (0 : Int32)) C hI hK hP hS w282 dX8_read_2 (fun H locs hP hS => ?_)
  have hP : va_P D vwCl (GX cy ad tk sp nm tp kp cu se ur ab lo im (sy.1, sy.2.1, sy.2.2.1, sy.2.2.2.1, (0 : Int32)) un en ra li i2) H := hP
  refine lv_aload_n hx hb dX8_read_5 rfl (lv_at hl 2 rfl) ?_
  refine lv_iconst (v := (0 : Int32)) hx hb dX8_read_6 (by decide) ?_
  refine cPi (run_V (rest := []) C (kX7_beginOf rfl) caX7_beginOf w672 ⟨rfl, rfl, Nat.le_of_ble_eq_true rfl, Nat.le_of_ble_eq_true rfl⟩ hK hN hP (rX4 hK hP) rfl hl.1 rfl (Nat.le_of_ble_eq_true rfl) dX8_read_7 ⟨Nat.zero_le _, Nat.zero_le _⟩) ?_
  refine lv_istore_n (lv' := [(3, .int (X7_beginOf se (0 : Int32))), (0, .ref (ad 22)), (1, .ref (ad 3)), (2, .ref (ad 4))]) hx hb dX8_read_10 rfl hl (by decide) rfl (fun ls hl => ?_)
  refine lv_aload_n hx hb dX8_read_11 rfl (lv_at hl 3 rfl) ?_
  refine lv_iconst (v := (0 : Int32)) hx hb dX8_read_12 (by decide) ?_
  refine cPi (run_V (rest := []) C (kX7_stopOf rfl) caX7_stopOf w676 ⟨rfl, rfl, Nat.le_of_ble_eq_true rfl, Nat.le_of_ble_eq_true rfl⟩ hK hN hP (rX4 hK hP) rfl hl.1 rfl (Nat.le_of_ble_eq_true rfl) dX8_read_13 ⟨Nat.zero_le _, Nat.zero_le _⟩) ?_
  refine lv_istore (lv' := [(4, .int (X7_stopOf se (0 : Int32))), (3, .int (X7_beginOf se (0 : Int32))), (0, .ref (ad 22)), (1, .ref (ad 3)), (2, .ref (ad 4))]) hx hb dX8_read_16 hl (by decide) rfl (fun ls hl => ?_)
  refine lv_iload hx hb dX8_read_18 (lv_at hl 0 rfl) ?_
  refine lv_iload_n hx hb dX8_read_20 rfl (lv_at hl 1 rfl) ?_
  refine lv_isub hx hb dX8_read_21 ?_
  refine lv_bipush (v := (24 : Int32)) hx hb dX8_read_22 (by decide) ?_
  refine lv_idiv hx hb dX8_read_24 (by decide) ?_
  refine lv_istore (lv' := [(5, .int (((X7_stopOf se (0 : Int32)) - (X7_beginOf se (0 : Int32))) / (24 : Int32))), (4, .int (X7_stopOf se (0 : Int32))), (3, .int (X7_beginOf se (0 : Int32))), (0, .ref (ad 22)), (1, .ref (ad 3)), (2, .ref (ad 4))]) hx hb dX8_read_25 hl (by decide) rfl (fun ls hl => ?_)
  refine lv_iconst (v := (0 : Int32)) hx hb dX8_read_27 (by decide) ?_
  refine lv_istore (lv' := [(6, .int (0 : Int32)), (5, .int (((X7_stopOf se (0 : Int32)) - (X7_beginOf se (0 : Int32))) / (24 : Int32))), (4, .int (X7_stopOf se (0 : Int32))), (3, .int (X7_beginOf se (0 : Int32))), (0, .ref (ad 22)), (1, .ref (ad 3)), (2, .ref (ad 4))]) hx hb dX8_read_28 hl (by decide) rfl (fun ls hl => ?_)
  exact bX8_read_30 C hI hK hN FU h (lv_sub hl [4, 5, 6, 3, 2, 1, 0] rfl) hP hS
theorem kX8_read (hI : Apart ad 89)  {q : Tcu × Tsy} (h : X8_read tp cu se sy = some q) : Met l yX8_read (.code yX8_read cX8_read 7 none :: WA) ({ frames := 3, cells := 0, slots := 0, locals := 81 } : Room) (va_Pc [.ref (ad 22), .ref (ad 3), .ref (ad 4)] (PR D cy (GX cy ad tk sp nm tp kp cu se ur ab lo im sy un en ra li i2))) (QR none D (GX cy ad tk sp nm tp kp q.1 se ur ab lo im q.2 un en ra li i2) (Ac ad 89)) 0 0 (Ac ad 89) :=
  met_of (by decide) (Nat.le_of_ble_eq_true rfl) (fun p e s m below meth c ls C hP hK hN hl => bX8_read_0 C hI hK hN h hl hP va_S.rf)
def X8_total (sy : Tsy)  : Int32 := sy.2.2.2.2
set_option maxRecDepth 20000 in
theorem bX8_total_0 (C : Cx p s m args meth c cX8_total 1 (some .int) RX8 (.code yX8_total cX8_total 1 (some .int))) (hK : va_K D vwCl (tysX cy) s) (hN : NW s)  {q : Int32}   (h : X8_total sy = q) {ls : Array Slot} (hl : lv_has ls 1 [(0, .ref (ad 22))]) (hP : va_P D vwCl (GX cy ad tk sp nm tp kp cu se ur ab lo im sy un en ra li i2) s.heap) : W p l e ({ frames := 0, cells := 0, slots := 0, locals := 0 } : Room) s m args below meth c s.heap [] 0 0 (MQ below (QP (some (.int q))) args s 0 0 (fun _ => False)) (F0 m 0 ls []) := by
  obtain ⟨hx, hb, hml, hown, hts, hr, hlk⟩ := id C
  unfold X8_total at h
  refine lv_aload_n hx hb dX8_total_0 rfl (lv_at hl 0 rfl) ?_
  refine gX22_4 (v := sy.2.2.2.2) C hK hP rfl w282 dX8_total_1 ?_
  obtain rfl := h
  exact W.iret hx hb hr (fun t ht _ => ⟨rfl, ht⟩) (fun _ h9 => by cases h9) dX8_total_4 hlk
theorem kX8_total   {q : Int32} (h : X8_total sy = q) : Met l yX8_total (.code yX8_total cX8_total 1 (some .int) :: WA) ({ frames := 0, cells := 0, slots := 0, locals := 0 } : Room) (va_Pc [.ref (ad 22)] (PR D cy (GX cy ad tk sp nm tp kp cu se ur ab lo im sy un en ra li i2))) (QP (some (.int q))) 0 0 (fun _ => False) :=
  met_of (by decide) (Nat.le_of_ble_eq_true rfl) (fun p e s m below meth c ls C hP hK hN hl => bX8_total_0 C hK hN h hl hP)
def X8_namePlaceOf (sy : Tsy) (v1 : Int32) : Int32 := (if v1 < 0 then (-1 : Int32) else (if v1 < sy.2.2.2.2 then (at_i 100 sy.2.2.1 v1) else (-1 : Int32)))
set_option maxRecDepth 20000 in
theorem bX8_namePlaceOf_0 (C : Cx p s m args meth c cX8_namePlaceOf 2 (some .int) RX8 (.code yX8_namePlaceOf cX8_namePlaceOf 2 (some .int))) (hK : va_K D vwCl (tysX cy) s) (hN : NW s)  {q : Int32}  {v1 : Int32} (h : X8_namePlaceOf sy v1 = q) {ls : Array Slot} (hl : lv_has ls 2 [(0, .ref (ad 22)), (1, .int v1)]) (hP : va_P D vwCl (GX cy ad tk sp nm tp kp cu se ur ab lo im sy un en ra li i2) s.heap) : W p l e ({ frames := 1, cells := 0, slots := 0, locals := 21 } : Room) s m args below meth c s.heap [] 0 0 (MQ below (QP (some (.int q))) args s 0 0 (fun _ => False)) (F0 m 0 ls []) := by
  obtain ⟨hx, hb, hml, hown, hts, hr, hlk⟩ := id C
  unfold X8_namePlaceOf at h
  refine lv_iload_n hx hb dX8_namePlaceOf_0 rfl (lv_at hl 1 rfl) ?_
  refine lv_if_lt (tgt := 23) hx hb dX8_namePlaceOf_1 (by decide) (fun c1 => ?_) (fun c1 => ?_)
  · rw [if_pos c1] at h
    refine lv_iconst (v := (-1 : Int32)) hx hb dX8_namePlaceOf_23 (by decide) ?_
    obtain rfl := h
    exact W.iret hx hb hr (fun t ht _ => ⟨rfl, ht⟩) (fun _ h9 => by cases h9) dX8_namePlaceOf_24 hlk
  · rw [if_neg c1] at h
    refine lv_iload_n hx hb dX8_namePlaceOf_4 rfl (lv_at hl 1 rfl) ?_
    refine lv_aload_n hx hb dX8_namePlaceOf_5 rfl (lv_at hl 0 rfl) ?_
    refine gX22_4 (v := sy.2.2.2.2) C hK hP rfl w282 dX8_namePlaceOf_6 ?_
    refine b_icmp_ge (tgt := 23) hx hb dX8_namePlaceOf_9 (by decide) (fun c2 => ?_) (fun c2 => ?_)
    · rw [if_neg c2] at h
      refine lv_iconst (v := (-1 : Int32)) hx hb dX8_namePlaceOf_23 (by decide) ?_
      obtain rfl := h
      exact W.iret hx hb hr (fun t ht _ => ⟨rfl, ht⟩) (fun _ h9 => by cases h9) dX8_namePlaceOf_24 hlk
    · rw [if_pos c2] at h
      refine lv_aload_n hx hb dX8_namePlaceOf_12 rfl (lv_at hl 0 rfl) ?_
      refine gX22_2 C hK hP w280 dX8_namePlaceOf_13 ?_
      refine lv_iload_n hx hb dX8_namePlaceOf_16 rfl (lv_at hl 1 rfl) ?_
      refine xat_i (rest := []) C hK hN hP eX25 (Nat.le_of_ble_eq_true rfl) w1314 hl.1 (Nat.le_of_ble_eq_true rfl) dX8_namePlaceOf_17 ⟨Nat.le_of_ble_eq_true rfl, Nat.le_of_ble_eq_true rfl⟩ ⟨Nat.zero_le _, Nat.zero_le _⟩ ?_
      refine lv_goto (tgt := 24) hx hb dX8_namePlaceOf_20 (by decide) ?_
      obtain rfl := h
      exact W.iret hx hb hr (fun t ht _ => ⟨rfl, ht⟩) (fun _ h9 => by cases h9) dX8_namePlaceOf_24 hlk
theorem kX8_namePlaceOf  {v1 : Int32} {q : Int32} (h : X8_namePlaceOf sy v1 = q) : Met l yX8_namePlaceOf (.code yX8_namePlaceOf cX8_namePlaceOf 2 (some .int) :: WA) ({ frames := 1, cells := 0, slots := 0, locals := 21 } : Room) (va_Pc [.ref (ad 22), .int v1] (PR D cy (GX cy ad tk sp nm tp kp cu se ur ab lo im sy un en ra li i2))) (QP (some (.int q))) 0 0 (fun _ => False) :=
  met_of (by decide) (Nat.le_of_ble_eq_true rfl) (fun p e s m below meth c ls C hP hK hN hl => bX8_namePlaceOf_0 C hK hN h hl hP)
def X8_nameLengthOf (sy : Tsy) (v1 : Int32) : Int32 := (if v1 < 0 then (-1 : Int32) else (if v1 < sy.2.2.2.2 then (at_i 100 sy.2.2.2.1 v1) else (-1 : Int32)))
set_option maxRecDepth 20000 in
theorem bX8_nameLengthOf_0 (C : Cx p s m args meth c cX8_nameLengthOf 2 (some .int) RX8 (.code yX8_nameLengthOf cX8_nameLengthOf 2 (some .int))) (hK : va_K D vwCl (tysX cy) s) (hN : NW s)  {q : Int32}  {v1 : Int32} (h : X8_nameLengthOf sy v1 = q) {ls : Array Slot} (hl : lv_has ls 2 [(0, .ref (ad 22)), (1, .int v1)]) (hP : va_P D vwCl (GX cy ad tk sp nm tp kp cu se ur ab lo im sy un en ra li i2) s.heap) : W p l e ({ frames := 1, cells := 0, slots := 0, locals := 21 } : Room) s m args below meth c s.heap [] 0 0 (MQ below (QP (some (.int q))) args s 0 0 (fun _ => False)) (F0 m 0 ls []) := by
  obtain ⟨hx, hb, hml, hown, hts, hr, hlk⟩ := id C
  unfold X8_nameLengthOf at h
  refine lv_iload_n hx hb dX8_nameLengthOf_0 rfl (lv_at hl 1 rfl) ?_
  refine lv_if_lt (tgt := 23) hx hb dX8_nameLengthOf_1 (by decide) (fun c1 => ?_) (fun c1 => ?_)
  · rw [if_pos c1] at h
    refine lv_iconst (v := (-1 : Int32)) hx hb dX8_nameLengthOf_23 (by decide) ?_
    obtain rfl := h
    exact W.iret hx hb hr (fun t ht _ => ⟨rfl, ht⟩) (fun _ h9 => by cases h9) dX8_nameLengthOf_24 hlk
  · rw [if_neg c1] at h
    refine lv_iload_n hx hb dX8_nameLengthOf_4 rfl (lv_at hl 1 rfl) ?_
    refine lv_aload_n hx hb dX8_nameLengthOf_5 rfl (lv_at hl 0 rfl) ?_
    refine gX22_4 (v := sy.2.2.2.2) C hK hP rfl w282 dX8_nameLengthOf_6 ?_
    refine b_icmp_ge (tgt := 23) hx hb dX8_nameLengthOf_9 (by decide) (fun c2 => ?_) (fun c2 => ?_)
    · rw [if_neg c2] at h
      refine lv_iconst (v := (-1 : Int32)) hx hb dX8_nameLengthOf_23 (by decide) ?_
      obtain rfl := h
      exact W.iret hx hb hr (fun t ht _ => ⟨rfl, ht⟩) (fun _ h9 => by cases h9) dX8_nameLengthOf_24 hlk
    · rw [if_pos c2] at h
      refine lv_aload_n hx hb dX8_nameLengthOf_12 rfl (lv_at hl 0 rfl) ?_
      refine gX22_3 C hK hP w281 dX8_nameLengthOf_13 ?_
      refine lv_iload_n hx hb dX8_nameLengthOf_16 rfl (lv_at hl 1 rfl) ?_
      refine xat_i (rest := []) C hK hN hP eX26 (Nat.le_of_ble_eq_true rfl) w1314 hl.1 (Nat.le_of_ble_eq_true rfl) dX8_nameLengthOf_17 ⟨Nat.le_of_ble_eq_true rfl, Nat.le_of_ble_eq_true rfl⟩ ⟨Nat.zero_le _, Nat.zero_le _⟩ ?_
      refine lv_goto (tgt := 24) hx hb dX8_nameLengthOf_20 (by decide) ?_
      obtain rfl := h
      exact W.iret hx hb hr (fun t ht _ => ⟨rfl, ht⟩) (fun _ h9 => by cases h9) dX8_nameLengthOf_24 hlk
theorem kX8_nameLengthOf  {v1 : Int32} {q : Int32} (h : X8_nameLengthOf sy v1 = q) : Met l yX8_nameLengthOf (.code yX8_nameLengthOf cX8_nameLengthOf 2 (some .int) :: WA) ({ frames := 1, cells := 0, slots := 0, locals := 21 } : Room) (va_Pc [.ref (ad 22), .int v1] (PR D cy (GX cy ad tk sp nm tp kp cu se ur ab lo im sy un en ra li i2))) (QP (some (.int q))) 0 0 (fun _ => False) :=
  met_of (by decide) (Nat.le_of_ble_eq_true rfl) (fun p e s m below meth c ls C hP hK hN hl => bX8_nameLengthOf_0 C hK hN h hl hP)
def X10_add (un : Tun) (v1 : Int32) (v2 : Int32) : Int32 × Tun := (if un.2.2.2.2.2.2.1 < (20 : Int32) then (((un.2.2.2.2.2.2.1 + (1 : Int32)) - (1 : Int32)), ((put_i 20 un.1 un.2.2.2.2.2.2.1 v1), (put_i 20 un.2.1 un.2.2.2.2.2.2.1 v2), (put_i 20 un.2.2.1 un.2.2.2.2.2.2.1 (0 : Int32)), (put_i 20 un.2.2.2.1 un.2.2.2.2.2.2.1 (0 : Int32)), un.2.2.2.2.1, un.2.2.2.2.2.1, (un.2.2.2.2.2.2.1 + (1 : Int32)), un.2.2.2.2.2.2.2)) else ((-1 : Int32), un))
set_option maxRecDepth 20000 in
theorem bX10_add_0 (C : Cx p s m args meth c cX10_add 3 (some .int) RX10 (.code yX10_add cX10_add 3 (some .int))) (hI : Apart ad 89) (hK : va_K D vwCl (tysX cy) s) (hN : NW s)  {q : Int32 × Tun}  {v1 : Int32} {v2 : Int32} (h : X10_add un v1 v2 = q) {ls : Array Slot} (hl : lv_has ls 3 [(0, .ref (ad 27)), (1, .int v1), (2, .int v2)]) {H : Heap} {locs : List Loc} (hP : va_P D vwCl (GX cy ad tk sp nm tp kp cu se ur ab lo im sy un en ra li i2) H) (hS : va_S (Ac ad 89) s.heap H locs) : W p l e ({ frames := 1, cells := 0, slots := 0, locals := 22 } : Room) s m args below meth c H locs 0 0 (MQ below (QR (some (.int q.1)) D (GX cy ad tk sp nm tp kp cu se ur ab lo im sy q.2 en ra li i2) (Ac ad 89)) args s 0 0 (Ac ad 89)) (F0 m 0 ls []) := by
  obtain ⟨hx, hb, hml, hown, hts, hr, hlk⟩ := id C
  unfold X10_add at h
  refine lv_aload_n hx hb dX10_add_0 rfl (lv_at hl 0 rfl) ?_
  refine gX27_6 (v := un.2.2.2.2.2.2.1) C hK hP rfl w306 dX10_add_1 ?_
  refine lv_bipush (v := (20 : Int32)) hx hb dX10_add_4 (by decide) ?_
  refine lv_icmp_lt (tgt := 11) hx hb dX10_add_6 (by decide) (fun c1 => ?_) (fun c1 => ?_)
  · rw [if_pos c1] at h
    refine lv_aload_n hx hb dX10_add_11 rfl (lv_at hl 0 rfl) ?_
    refine gX27_0 C hK hP w300 dX10_add_12 ?_
    refine lv_aload_n hx hb dX10_add_15 rfl (lv_at hl 0 rfl) ?_
    refine gX27_6 (v := un.2.2.2.2.2.2.1) C hK hP rfl w306 dX10_add_16 ?_
    refine lv_iload_n hx hb dX10_add_19 rfl (lv_at hl 1 rfl) ?_
    refine xput_i (rest := []) C hK hN hP (GX_D hI) hS eX28 (Nat.le_of_ble_eq_true rfl) w760 hl.1 (Nat.le_of_ble_eq_true rfl) dX10_add_20 ⟨Nat.le_of_ble_eq_true rfl, Nat.le_of_ble_eq_true rfl⟩ ⟨Nat.zero_le _, Nat.zero_le _⟩ (fun H locs hP hS => ?_)
    have hP : va_P D vwCl (GX cy ad tk sp nm tp kp cu se ur ab lo im sy ((put_i 20 un.1 un.2.2.2.2.2.2.1 v1), un.2.1, un.2.2.1, un.2.2.2.1, un.2.2.2.2.1, un.2.2.2.2.2.1, un.2.2.2.2.2.2.1, un.2.2.2.2.2.2.2) en ra li i2) H := hP
    refine lv_aload_n hx hb dX10_add_23 rfl (lv_at hl 0 rfl) ?_
    refine gX27_1 C hK hP w301 dX10_add_24 ?_
    refine lv_aload_n hx hb dX10_add_27 rfl (lv_at hl 0 rfl) ?_
    refine gX27_6 (v := un.2.2.2.2.2.2.1) C hK hP rfl w306 dX10_add_28 ?_
    refine lv_iload_n hx hb dX10_add_31 rfl (lv_at hl 2 rfl) ?_
    refine xput_i (rest := []) C hK hN hP (GX_D hI) hS eX29 (Nat.le_of_ble_eq_true rfl) w760 hl.1 (Nat.le_of_ble_eq_true rfl) dX10_add_32 ⟨Nat.le_of_ble_eq_true rfl, Nat.le_of_ble_eq_true rfl⟩ ⟨Nat.zero_le _, Nat.zero_le _⟩ (fun H locs hP hS => ?_)
    have hP : va_P D vwCl (GX cy ad tk sp nm tp kp cu se ur ab lo im sy ((put_i 20 un.1 un.2.2.2.2.2.2.1 v1), (put_i 20 un.2.1 un.2.2.2.2.2.2.1 v2), un.2.2.1, un.2.2.2.1, un.2.2.2.2.1, un.2.2.2.2.2.1, un.2.2.2.2.2.2.1, un.2.2.2.2.2.2.2) en ra li i2) H := hP
    refine lv_aload_n hx hb dX10_add_35 rfl (lv_at hl 0 rfl) ?_
    refine gX27_2 C hK hP w302 dX10_add_36 ?_
    refine lv_aload_n hx hb dX10_add_39 rfl (lv_at hl 0 rfl) ?_
    refine gX27_6 (v := un.2.2.2.2.2.2.1) C hK hP rfl w306 dX10_add_40 ?_
    refine lv_iconst (v := (0 : Int32)) hx hb dX10_add_43 (by decide) ?_
    refine xput_i (rest := []) C hK hN hP (GX_D hI) hS eX30 (Nat.le_of_ble_eq_true rfl) w760 hl.1 (Nat.le_of_ble_eq_true rfl) dX10_add_44 ⟨Nat.le_of_ble_eq_true rfl, Nat.le_of_ble_eq_true rfl⟩ ⟨Nat.zero_le _, Nat.zero_le _⟩ (fun H locs hP hS => ?_)
    have hP : va_P D vwCl (GX cy ad tk sp nm tp kp cu se ur ab lo im sy ((put_i 20 un.1 un.2.2.2.2.2.2.1 v1), (put_i 20 un.2.1 un.2.2.2.2.2.2.1 v2), (put_i 20 un.2.2.1 un.2.2.2.2.2.2.1 (0 : Int32)), un.2.2.2.1, un.2.2.2.2.1, un.2.2.2.2.2.1, un.2.2.2.2.2.2.1, un.2.2.2.2.2.2.2) en ra li i2) H := hP
    refine lv_aload_n hx hb dX10_add_47 rfl (lv_at hl 0 rfl) ?_
    refine gX27_3 C hK hP w303 dX10_add_48 ?_
    refine lv_aload_n hx hb dX10_add_51 rfl (lv_at hl 0 rfl) ?_
    refine gX27_6 (v := un.2.2.2.2.2.2.1) C hK hP rfl w306 dX10_add_52 ?_
    refine lv_iconst (v := (0 : Int32)) hx hb dX10_add_55 (by decide) ?_
    refine xput_i (rest := []) C hK hN hP (GX_D hI) hS eX31 (Nat.le_of_ble_eq_true rfl) w760 hl.1 (Nat.le_of_ble_eq_true rfl) dX10_add_56 ⟨Nat.le_of_ble_eq_true rfl, Nat.le_of_ble_eq_true rfl⟩ ⟨Nat.zero_le _, Nat.zero_le _⟩ (fun H locs hP hS => ?_)
    have hP : va_P D vwCl (GX cy ad tk sp nm tp kp cu se ur ab lo im sy ((put_i 20 un.1 un.2.2.2.2.2.2.1 v1), (put_i 20 un.2.1 un.2.2.2.2.2.2.1 v2), (put_i 20 un.2.2.1 un.2.2.2.2.2.2.1 (0 : Int32)), (put_i 20 un.2.2.2.1 un.2.2.2.2.2.2.1 (0 : Int32)), un.2.2.2.2.1, un.2.2.2.2.2.1, un.2.2.2.2.2.2.1, un.2.2.2.2.2.2.2) en ra li i2) H := hP
    refine lv_aload_n hx hb dX10_add_59 rfl (lv_at hl 0 rfl) ?_
    refine lv_dup hx hb dX10_add_60 rfl ?_
    refine gX27_6 (v := un.2.2.2.2.2.2.1) C hK hP rfl w306 dX10_add_61 ?_
    refine lv_iconst (v := (1 : Int32)) hx hb dX10_add_64 (by decide) ?_
    refine lv_iadd hx hb dX10_add_65 ?_
    refine pX27_6 (v := (un.2.2.2.2.2.2.1 + (1 : Int32))) C hI hK hP hS w306 dX10_add_66 (fun H locs hP hS => ?_)
    have hP : va_P D vwCl (GX cy ad tk sp nm tp kp cu se ur ab lo im sy ((put_i 20 un.1 un.2.2.2.2.2.2.1 v1), (put_i 20 un.2.1 un.2.2.2.2.2.2.1 v2), (put_i 20 un.2.2.1 un.2.2.2.2.2.2.1 (0 : Int32)), (put_i 20 un.2.2.2.1 un.2.2.2.2.2.2.1 (0 : Int32)), un.2.2.2.2.1, un.2.2.2.2.2.1, (un.2.2.2.2.2.2.1 + (1 : Int32)), un.2.2.2.2.2.2.2) en ra li i2) H := hP
    refine lv_aload_n hx hb dX10_add_69 rfl (lv_at hl 0 rfl) ?_
    refine gX27_6 (v := (un.2.2.2.2.2.2.1 + (1 : Int32))) C hK hP rfl w306 dX10_add_70 ?_
    refine lv_iconst (v := (1 : Int32)) hx hb dX10_add_73 (by decide) ?_
    refine lv_isub hx hb dX10_add_74 ?_
    obtain rfl := h
    exact W.iret hx hb hr (fun t ht _ => ⟨rfl, by rw [ht]; exact hP, hS.F ht⟩) hS.2.2 dX10_add_75 hlk
  · rw [if_neg c1] at h
    refine lv_iconst (v := (-1 : Int32)) hx hb dX10_add_9 (by decide) ?_
    obtain rfl := h
    exact W.iret hx hb hr (fun t ht _ => ⟨rfl, by rw [ht]; exact hP, hS.F ht⟩) hS.2.2 dX10_add_10 hlk
theorem kX10_add (hI : Apart ad 89) {v1 : Int32} {v2 : Int32} {q : Int32 × Tun} (h : X10_add un v1 v2 = q) : Met l yX10_add (.code yX10_add cX10_add 3 (some .int) :: WA) ({ frames := 1, cells := 0, slots := 0, locals := 22 } : Room) (va_Pc [.ref (ad 27), .int v1, .int v2] (PR D cy (GX cy ad tk sp nm tp kp cu se ur ab lo im sy un en ra li i2))) (QR (some (.int q.1)) D (GX cy ad tk sp nm tp kp cu se ur ab lo im sy q.2 en ra li i2) (Ac ad 89)) 0 0 (Ac ad 89) :=
  met_of (by decide) (Nat.le_of_ble_eq_true rfl) (fun p e s m below meth c ls C hP hK hN hl => bX10_add_0 C hI hK hN h hl hP va_S.rf)
def X10_clear (un : Tun)  : Tun := (un.1, un.2.1, un.2.2.1, un.2.2.2.1, un.2.2.2.2.1, un.2.2.2.2.2.1, (0 : Int32), (0 : Int32))
set_option maxRecDepth 20000 in
theorem bX10_clear_0 (C : Cx p s m args meth c cX10_clear 1 none RX10 (.code yX10_clear cX10_clear 1 none)) (hI : Apart ad 89) (hK : va_K D vwCl (tysX cy) s) (hN : NW s)  {q : Tun}   (h : X10_clear un = q) {ls : Array Slot} (hl : lv_has ls 1 [(0, .ref (ad 27))]) {H : Heap} {locs : List Loc} (hP : va_P D vwCl (GX cy ad tk sp nm tp kp cu se ur ab lo im sy un en ra li i2) H) (hS : va_S (Ac ad 89) s.heap H locs) : W p l e ({ frames := 0, cells := 0, slots := 0, locals := 0 } : Room) s m args below meth c H locs 0 0 (MQ below (QR none D (GX cy ad tk sp nm tp kp cu se ur ab lo im sy q en ra li i2) (Ac ad 89)) args s 0 0 (Ac ad 89)) (F0 m 0 ls []) := by
  obtain ⟨hx, hb, hml, hown, hts, hr, hlk⟩ := id C
  unfold X10_clear at h
  refine lv_aload_n hx hb dX10_clear_0 rfl (lv_at hl 0 rfl) ?_
  refine lv_iconst (v := (0 : Int32)) hx hb dX10_clear_1 (by decide) ?_
  refine pX27_6 (v := (0 : Int32)) C hI hK hP hS w306 dX10_clear_2 (fun H locs hP hS => ?_)
  have hP : va_P D vwCl (GX cy ad tk sp nm tp kp cu se ur ab lo im sy (un.1, un.2.1, un.2.2.1, un.2.2.2.1, un.2.2.2.2.1, un.2.2.2.2.2.1, (0 : Int32), un.2.2.2.2.2.2.2) en ra li i2) H := hP
  refine lv_aload_n hx hb dX10_clear_5 rfl (lv_at hl 0 rfl) ?_
  refine lv_iconst (v := (0 : Int32)) hx hb dX10_clear_6 (by decide) ?_
  refine pX27_7 (v := (0 : Int32)) C hI hK hP hS w307 dX10_clear_7 (fun H locs hP hS => ?_)
  have hP : va_P D vwCl (GX cy ad tk sp nm tp kp cu se ur ab lo im sy (un.1, un.2.1, un.2.2.1, un.2.2.2.1, un.2.2.2.2.1, un.2.2.2.2.2.1, (0 : Int32), (0 : Int32)) en ra li i2) H := hP
  obtain rfl := h
  exact W.vret hx hb hr (fun t ht _ => ⟨rfl, by rw [ht]; exact hP, hS.F ht⟩) hS.2.2 dX10_clear_10 hlk
theorem kX10_clear (hI : Apart ad 89)  {q : Tun} (h : X10_clear un = q) : Met l yX10_clear (.code yX10_clear cX10_clear 1 none :: WA) ({ frames := 0, cells := 0, slots := 0, locals := 0 } : Room) (va_Pc [.ref (ad 27)] (PR D cy (GX cy ad tk sp nm tp kp cu se ur ab lo im sy un en ra li i2))) (QR none D (GX cy ad tk sp nm tp kp cu se ur ab lo im sy q en ra li i2) (Ac ad 89)) 0 0 (Ac ad 89) :=
  met_of (by decide) (Nat.le_of_ble_eq_true rfl) (fun p e s m below meth c ls C hP hK hN hl => bX10_clear_0 C hI hK hN h hl hP va_S.rf)
def X9_isCountForm_35     : Int32 := (1 : Int32)
set_option maxRecDepth 20000 in
theorem bX9_isCountForm_35 (C : Cx p s m args meth c cX9_isCountForm 1 (some .boolean) RX9 (.code yX9_isCountForm cX9_isCountForm 1 (some .boolean))) (hK : va_K D vwCl (tysX cy) s) (hN : NW s)  {q : Int32}   (h : X9_isCountForm_35 = q) {ls : Array Slot} (hl : lv_has ls 1 []) (hP : va_P D vwCl (GX cy ad tk sp nm tp kp cu se ur ab lo im sy un en ra li i2) s.heap) : W p l e ({ frames := 0, cells := 0, slots := 0, locals := 0 } : Room) s m args below meth c s.heap [] 0 0 (MQ below (QP (some (.int q))) args s 0 0 (fun _ => False)) (F0 m 35 ls []) := by
  obtain ⟨hx, hb, hml, hown, hts, hr, hlk⟩ := id C
  unfold X9_isCountForm_35 at h
  refine lv_iconst (v := (1 : Int32)) hx hb dX9_isCountForm_35 (by decide) ?_
  refine lv_goto (tgt := 40) hx hb dX9_isCountForm_36 (by decide) ?_
  obtain rfl := h
  exact W.zret (ty := .boolean) hx hb hr (by decide) (fun t ht _ => ⟨rfl, ht⟩) (fun _ h9 => by cases h9) dX9_isCountForm_40 hlk
def X9_isCountForm  (v0 : Int32) : Int32 := (if v0 = (11 : Int32) then X9_isCountForm_35 else (if v0 = (5 : Int32) then X9_isCountForm_35 else (if v0 = (6 : Int32) then X9_isCountForm_35 else (if v0 = (7 : Int32) then X9_isCountForm_35 else (if v0 = (15 : Int32) then X9_isCountForm_35 else (if v0 = (33 : Int32) then X9_isCountForm_35 else (0 : Int32)))))))
set_option maxRecDepth 20000 in
theorem bX9_isCountForm_0 (C : Cx p s m args meth c cX9_isCountForm 1 (some .boolean) RX9 (.code yX9_isCountForm cX9_isCountForm 1 (some .boolean))) (hK : va_K D vwCl (tysX cy) s) (hN : NW s)  {q : Int32}  {v0 : Int32} (h : X9_isCountForm v0 = q) {ls : Array Slot} (hl : lv_has ls 1 [(0, .int v0)]) (hP : va_P D vwCl (GX cy ad tk sp nm tp kp cu se ur ab lo im sy un en ra li i2) s.heap) : W p l e ({ frames := 0, cells := 0, slots := 0, locals := 0 } : Room) s m args below meth c s.heap [] 0 0 (MQ below (QP (some (.int q))) args s 0 0 (fun _ => False)) (F0 m 0 ls []) := by
  obtain ⟨hx, hb, hml, hown, hts, hr, hlk⟩ := id C
  unfold X9_isCountForm at h
  refine lv_iload_n hx hb dX9_isCountForm_0 rfl (lv_at hl 0 rfl) ?_
  refine lv_bipush (v := (11 : Int32)) hx hb dX9_isCountForm_1 (by decide) ?_
  refine lv_icmp_eq (tgt := 35) hx hb dX9_isCountForm_3 (by decide) (fun c1 => ?_) (fun c1 => ?_)
  · rw [if_pos c1] at h
    exact bX9_isCountForm_35 C hK hN h (lv_sub hl [] rfl) hP
  · rw [if_neg c1] at h
    refine lv_iload_n hx hb dX9_isCountForm_6 rfl (lv_at hl 0 rfl) ?_
    refine lv_iconst (v := (5 : Int32)) hx hb dX9_isCountForm_7 (by decide) ?_
    refine lv_icmp_eq (tgt := 35) hx hb dX9_isCountForm_8 (by decide) (fun c2 => ?_) (fun c2 => ?_)
    · rw [if_pos c2] at h
      exact bX9_isCountForm_35 C hK hN h (lv_sub hl [] rfl) hP
    · rw [if_neg c2] at h
      refine lv_iload_n hx hb dX9_isCountForm_11 rfl (lv_at hl 0 rfl) ?_
      refine lv_bipush (v := (6 : Int32)) hx hb dX9_isCountForm_12 (by decide) ?_
      refine lv_icmp_eq (tgt := 35) hx hb dX9_isCountForm_14 (by decide) (fun c3 => ?_) (fun c3 => ?_)
      · rw [if_pos c3] at h
        exact bX9_isCountForm_35 C hK hN h (lv_sub hl [] rfl) hP
      · rw [if_neg c3] at h
        refine lv_iload_n hx hb dX9_isCountForm_17 rfl (lv_at hl 0 rfl) ?_
        refine lv_bipush (v := (7 : Int32)) hx hb dX9_isCountForm_18 (by decide) ?_
        refine lv_icmp_eq (tgt := 35) hx hb dX9_isCountForm_20 (by decide) (fun c4 => ?_) (fun c4 => ?_)
        · rw [if_pos c4] at h
          exact bX9_isCountForm_35 C hK hN h (lv_sub hl [] rfl) hP
        · rw [if_neg c4] at h
          refine lv_iload_n hx hb dX9_isCountForm_23 rfl (lv_at hl 0 rfl) ?_
          refine lv_bipush (v := (15 : Int32)) hx hb dX9_isCountForm_24 (by decide) ?_
          refine lv_icmp_eq (tgt := 35) hx hb dX9_isCountForm_26 (by decide) (fun c5 => ?_) (fun c5 => ?_)
          · rw [if_pos c5] at h
            exact bX9_isCountForm_35 C hK hN h (lv_sub hl [] rfl) hP
          · rw [if_neg c5] at h
            refine lv_iload_n hx hb dX9_isCountForm_29 rfl (lv_at hl 0 rfl) ?_
            refine lv_bipush (v := (33 : Int32)) hx hb dX9_isCountForm_30 (by decide) ?_
            refine lv_icmp_ne (tgt := 39) hx hb dX9_isCountForm_32 (by decide) (fun c6 => ?_) (fun c6 => ?_)
            · rw [if_neg c6] at h
              refine lv_iconst (v := (0 : Int32)) hx hb dX9_isCountForm_39 (by decide) ?_
              obtain rfl := h
              exact W.zret (ty := .boolean) hx hb hr (by decide) (fun t ht _ => ⟨rfl, ht⟩) (fun _ h9 => by cases h9) dX9_isCountForm_40 hlk
            · rw [if_pos c6] at h
              exact bX9_isCountForm_35 C hK hN h (lv_sub hl [] rfl) hP
theorem kX9_isCountForm  {v0 : Int32} {q : Int32} (h : X9_isCountForm v0 = q) : Met l yX9_isCountForm (.code yX9_isCountForm cX9_isCountForm 1 (some .boolean) :: WA) ({ frames := 0, cells := 0, slots := 0, locals := 0 } : Room) (va_Pc [.int v0] (PR D cy (GX cy ad tk sp nm tp kp cu se ur ab lo im sy un en ra li i2))) (QP (some (.int q))) 0 0 (fun _ => False) :=
  met_of (by decide) (Nat.le_of_ble_eq_true rfl) (fun p e s m below meth c ls C hP hK hN hl => bX9_isCountForm_0 C hK hN h hl hP)
def X9_columnOf_103    (v0 : Int64) (v2 : Int32) : Int32 := (if (X9_isCountForm v2) = 0 then (-1 : Int32) else (if v0 = (89 : Int64) then (8 : Int32) else (-1 : Int32)))
set_option maxRecDepth 20000 in
theorem bX9_columnOf_103 (C : Cx p s m args meth c cX9_columnOf 3 (some .int) RX9 (.code yX9_columnOf cX9_columnOf 3 (some .int))) (hK : va_K D vwCl (tysX cy) s) (hN : NW s)  {q : Int32}  {v0 : Int64} {v2 : Int32} (h : X9_columnOf_103 v0 v2 = q) {ls : Array Slot} (hl : lv_has ls 3 [(0, .long v0), (2, .int v2)]) (hP : va_P D vwCl (GX cy ad tk sp nm tp kp cu se ur ab lo im sy un en ra li i2) s.heap) : W p l e ({ frames := 1, cells := 0, slots := 0, locals := 20 } : Room) s m args below meth c s.heap [] 0 0 (MQ below (QP (some (.int q))) args s 0 0 (fun _ => False)) (F0 m 103 ls []) := by
  obtain ⟨hx, hb, hml, hown, hts, hr, hlk⟩ := id C
  unfold X9_columnOf_103 at h
  refine lv_iload_n hx hb dX9_columnOf_103 rfl (lv_at hl 1 rfl) ?_
  refine cPi (run_S (rest := []) C (kX9_isCountForm rfl) caX9_isCountForm w895 ⟨rfl, rfl, Nat.le_of_ble_eq_true rfl, Nat.le_of_ble_eq_true rfl⟩ hK hN hP rfl hl.1 rfl (Nat.le_of_ble_eq_true rfl) dX9_columnOf_104 ⟨Nat.zero_le _, Nat.zero_le _⟩) ?_
  refine lv_if_eq (tgt := 123) hx hb dX9_columnOf_107 (by decide) (fun c1 => ?_) (fun c1 => ?_)
  · rw [if_pos c1] at h
    refine lv_iconst (v := (-1 : Int32)) hx hb dX9_columnOf_123 (by decide) ?_
    obtain rfl := h
    exact W.iret hx hb hr (fun t ht _ => ⟨rfl, ht⟩) (fun _ h9 => by cases h9) dX9_columnOf_124 hlk
  · rw [if_neg c1] at h
    refine lv_lload_n hx hb dX9_columnOf_110 rfl (lv_at hl 0 rfl) ?_
    refine lv_ldc2 (v := (89 : Int64)) hx hb hown (hts _ (List.mem_cons_of_mem _ w907)) dX9_columnOf_111 ?_
    refine lc_ne (tgt := 123) hx hb dX9_columnOf_114 dX9_columnOf_115 (by decide) (fun c2 => ?_) (fun c2 => ?_)
    · rw [if_neg c2] at h
      refine lv_iconst (v := (-1 : Int32)) hx hb dX9_columnOf_123 (by decide) ?_
      obtain rfl := h
      exact W.iret hx hb hr (fun t ht _ => ⟨rfl, ht⟩) (fun _ h9 => by cases h9) dX9_columnOf_124 hlk
    · rw [if_pos c2] at h
      refine lv_bipush (v := (8 : Int32)) hx hb dX9_columnOf_118 (by decide) ?_
      refine lv_goto (tgt := 124) hx hb dX9_columnOf_120 (by decide) ?_
      obtain rfl := h
      exact W.iret hx hb hr (fun t ht _ => ⟨rfl, ht⟩) (fun _ h9 => by cases h9) dX9_columnOf_124 hlk
def X9_columnOf_85    (v0 : Int64) (v2 : Int32) : Int32 := (if (X9_isCountForm v2) = 0 then X9_columnOf_103 v0 v2 else (if v0 = (88 : Int64) then (7 : Int32) else X9_columnOf_103 v0 v2))
set_option maxRecDepth 20000 in
theorem bX9_columnOf_85 (C : Cx p s m args meth c cX9_columnOf 3 (some .int) RX9 (.code yX9_columnOf cX9_columnOf 3 (some .int))) (hK : va_K D vwCl (tysX cy) s) (hN : NW s)  {q : Int32}  {v0 : Int64} {v2 : Int32} (h : X9_columnOf_85 v0 v2 = q) {ls : Array Slot} (hl : lv_has ls 3 [(0, .long v0), (2, .int v2)]) (hP : va_P D vwCl (GX cy ad tk sp nm tp kp cu se ur ab lo im sy un en ra li i2) s.heap) : W p l e ({ frames := 1, cells := 0, slots := 0, locals := 20 } : Room) s m args below meth c s.heap [] 0 0 (MQ below (QP (some (.int q))) args s 0 0 (fun _ => False)) (F0 m 85 ls []) := by
  obtain ⟨hx, hb, hml, hown, hts, hr, hlk⟩ := id C
  unfold X9_columnOf_85 at h
  refine lv_iload_n hx hb dX9_columnOf_85 rfl (lv_at hl 1 rfl) ?_
  refine cPi (run_S (rest := []) C (kX9_isCountForm rfl) caX9_isCountForm w895 ⟨rfl, rfl, Nat.le_of_ble_eq_true rfl, Nat.le_of_ble_eq_true rfl⟩ hK hN hP rfl hl.1 rfl (Nat.le_of_ble_eq_true rfl) dX9_columnOf_86 ⟨Nat.zero_le _, Nat.zero_le _⟩) ?_
  refine lv_if_eq (tgt := 103) hx hb dX9_columnOf_89 (by decide) (fun c1 => ?_) (fun c1 => ?_)
  · rw [if_pos c1] at h
    exact bX9_columnOf_103 C hK hN h (lv_sub hl [0, 1] rfl) hP
  · rw [if_neg c1] at h
    refine lv_lload_n hx hb dX9_columnOf_92 rfl (lv_at hl 0 rfl) ?_
    refine lv_ldc2 (v := (88 : Int64)) hx hb hown (hts _ (List.mem_cons_of_mem _ w906)) dX9_columnOf_93 ?_
    refine lc_ne (tgt := 103) hx hb dX9_columnOf_96 dX9_columnOf_97 (by decide) (fun c2 => ?_) (fun c2 => ?_)
    · rw [if_neg c2] at h
      exact bX9_columnOf_103 C hK hN h (lv_sub hl [0, 1] rfl) hP
    · rw [if_pos c2] at h
      refine lv_bipush (v := (7 : Int32)) hx hb dX9_columnOf_100 (by decide) ?_
      obtain rfl := h
      exact W.iret hx hb hr (fun t ht _ => ⟨rfl, ht⟩) (fun _ h9 => by cases h9) dX9_columnOf_102 hlk
def X9_columnOf_68    (v0 : Int64) (v2 : Int32) : Int32 := (if v2 = (23 : Int32) then (if v0 = (16 : Int64) then (9 : Int32) else X9_columnOf_85 v0 v2) else X9_columnOf_85 v0 v2)
set_option maxRecDepth 20000 in
theorem bX9_columnOf_68 (C : Cx p s m args meth c cX9_columnOf 3 (some .int) RX9 (.code yX9_columnOf cX9_columnOf 3 (some .int))) (hK : va_K D vwCl (tysX cy) s) (hN : NW s)  {q : Int32}  {v0 : Int64} {v2 : Int32} (h : X9_columnOf_68 v0 v2 = q) {ls : Array Slot} (hl : lv_has ls 3 [(0, .long v0), (2, .int v2)]) (hP : va_P D vwCl (GX cy ad tk sp nm tp kp cu se ur ab lo im sy un en ra li i2) s.heap) : W p l e ({ frames := 1, cells := 0, slots := 0, locals := 20 } : Room) s m args below meth c s.heap [] 0 0 (MQ below (QP (some (.int q))) args s 0 0 (fun _ => False)) (F0 m 68 ls []) := by
  obtain ⟨hx, hb, hml, hown, hts, hr, hlk⟩ := id C
  unfold X9_columnOf_68 at h
  refine lv_iload_n hx hb dX9_columnOf_68 rfl (lv_at hl 1 rfl) ?_
  refine lv_bipush (v := (23 : Int32)) hx hb dX9_columnOf_69 (by decide) ?_
  refine lv_icmp_ne (tgt := 85) hx hb dX9_columnOf_71 (by decide) (fun c1 => ?_) (fun c1 => ?_)
  · rw [if_neg c1] at h
    exact bX9_columnOf_85 C hK hN h (lv_sub hl [0, 1] rfl) hP
  · rw [if_pos c1] at h
    refine lv_lload_n hx hb dX9_columnOf_74 rfl (lv_at hl 0 rfl) ?_
    refine lv_ldc2 (v := (16 : Int64)) hx hb hown (hts _ (List.mem_cons_of_mem _ w905)) dX9_columnOf_75 ?_
    refine lc_ne (tgt := 85) hx hb dX9_columnOf_78 dX9_columnOf_79 (by decide) (fun c2 => ?_) (fun c2 => ?_)
    · rw [if_neg c2] at h
      exact bX9_columnOf_85 C hK hN h (lv_sub hl [0, 1] rfl) hP
    · rw [if_pos c2] at h
      refine lv_bipush (v := (9 : Int32)) hx hb dX9_columnOf_82 (by decide) ?_
      obtain rfl := h
      exact W.iret hx hb hr (fun t ht _ => ⟨rfl, ht⟩) (fun _ h9 => by cases h9) dX9_columnOf_84 hlk
def X9_columnOf_52    (v0 : Int64) (v2 : Int32) : Int32 := (if v2 = (23 : Int32) then (if v0 = (85 : Int64) then (4 : Int32) else X9_columnOf_68 v0 v2) else X9_columnOf_68 v0 v2)
set_option maxRecDepth 20000 in
theorem bX9_columnOf_52 (C : Cx p s m args meth c cX9_columnOf 3 (some .int) RX9 (.code yX9_columnOf cX9_columnOf 3 (some .int))) (hK : va_K D vwCl (tysX cy) s) (hN : NW s)  {q : Int32}  {v0 : Int64} {v2 : Int32} (h : X9_columnOf_52 v0 v2 = q) {ls : Array Slot} (hl : lv_has ls 3 [(0, .long v0), (2, .int v2)]) (hP : va_P D vwCl (GX cy ad tk sp nm tp kp cu se ur ab lo im sy un en ra li i2) s.heap) : W p l e ({ frames := 1, cells := 0, slots := 0, locals := 20 } : Room) s m args below meth c s.heap [] 0 0 (MQ below (QP (some (.int q))) args s 0 0 (fun _ => False)) (F0 m 52 ls []) := by
  obtain ⟨hx, hb, hml, hown, hts, hr, hlk⟩ := id C
  unfold X9_columnOf_52 at h
  refine lv_iload_n hx hb dX9_columnOf_52 rfl (lv_at hl 1 rfl) ?_
  refine lv_bipush (v := (23 : Int32)) hx hb dX9_columnOf_53 (by decide) ?_
  refine lv_icmp_ne (tgt := 68) hx hb dX9_columnOf_55 (by decide) (fun c1 => ?_) (fun c1 => ?_)
  · rw [if_neg c1] at h
    exact bX9_columnOf_68 C hK hN h (lv_sub hl [0, 1] rfl) hP
  · rw [if_pos c1] at h
    refine lv_lload_n hx hb dX9_columnOf_58 rfl (lv_at hl 0 rfl) ?_
    refine lv_ldc2 (v := (85 : Int64)) hx hb hown (hts _ (List.mem_cons_of_mem _ w904)) dX9_columnOf_59 ?_
    refine lc_ne (tgt := 68) hx hb dX9_columnOf_62 dX9_columnOf_63 (by decide) (fun c2 => ?_) (fun c2 => ?_)
    · rw [if_neg c2] at h
      exact bX9_columnOf_68 C hK hN h (lv_sub hl [0, 1] rfl) hP
    · rw [if_pos c2] at h
      refine lv_iconst (v := (4 : Int32)) hx hb dX9_columnOf_66 (by decide) ?_
      obtain rfl := h
      exact W.iret hx hb hr (fun t ht _ => ⟨rfl, ht⟩) (fun _ h9 => by cases h9) dX9_columnOf_67 hlk
def X9_columnOf_35    (v0 : Int64) (v2 : Int32) : Int32 := (if v2 = (19 : Int32) then (if v0 = (71 : Int64) then (6 : Int32) else X9_columnOf_52 v0 v2) else X9_columnOf_52 v0 v2)
set_option maxRecDepth 20000 in
theorem bX9_columnOf_35 (C : Cx p s m args meth c cX9_columnOf 3 (some .int) RX9 (.code yX9_columnOf cX9_columnOf 3 (some .int))) (hK : va_K D vwCl (tysX cy) s) (hN : NW s)  {q : Int32}  {v0 : Int64} {v2 : Int32} (h : X9_columnOf_35 v0 v2 = q) {ls : Array Slot} (hl : lv_has ls 3 [(0, .long v0), (2, .int v2)]) (hP : va_P D vwCl (GX cy ad tk sp nm tp kp cu se ur ab lo im sy un en ra li i2) s.heap) : W p l e ({ frames := 1, cells := 0, slots := 0, locals := 20 } : Room) s m args below meth c s.heap [] 0 0 (MQ below (QP (some (.int q))) args s 0 0 (fun _ => False)) (F0 m 35 ls []) := by
  obtain ⟨hx, hb, hml, hown, hts, hr, hlk⟩ := id C
  unfold X9_columnOf_35 at h
  refine lv_iload_n hx hb dX9_columnOf_35 rfl (lv_at hl 1 rfl) ?_
  refine lv_bipush (v := (19 : Int32)) hx hb dX9_columnOf_36 (by decide) ?_
  refine lv_icmp_ne (tgt := 52) hx hb dX9_columnOf_38 (by decide) (fun c1 => ?_) (fun c1 => ?_)
  · rw [if_neg c1] at h
    exact bX9_columnOf_52 C hK hN h (lv_sub hl [0, 1] rfl) hP
  · rw [if_pos c1] at h
    refine lv_lload_n hx hb dX9_columnOf_41 rfl (lv_at hl 0 rfl) ?_
    refine lv_ldc2 (v := (71 : Int64)) hx hb hown (hts _ (List.mem_cons_of_mem _ w903)) dX9_columnOf_42 ?_
    refine lc_ne (tgt := 52) hx hb dX9_columnOf_45 dX9_columnOf_46 (by decide) (fun c2 => ?_) (fun c2 => ?_)
    · rw [if_neg c2] at h
      exact bX9_columnOf_52 C hK hN h (lv_sub hl [0, 1] rfl) hP
    · rw [if_pos c2] at h
      refine lv_bipush (v := (6 : Int32)) hx hb dX9_columnOf_49 (by decide) ?_
      obtain rfl := h
      exact W.iret hx hb hr (fun t ht _ => ⟨rfl, ht⟩) (fun _ h9 => by cases h9) dX9_columnOf_51 hlk
def X9_columnOf  (v0 : Int64) (v2 : Int32) : Int32 := (if v2 = (1 : Int32) then (if v0 = (17 : Int64) then (1 : Int32) else (-1 : Int32)) else (if v2 = (19 : Int32) then (if v0 = (49 : Int64) then (5 : Int32) else X9_columnOf_35 v0 v2) else X9_columnOf_35 v0 v2))
set_option maxRecDepth 20000 in
theorem bX9_columnOf_0 (C : Cx p s m args meth c cX9_columnOf 3 (some .int) RX9 (.code yX9_columnOf cX9_columnOf 3 (some .int))) (hK : va_K D vwCl (tysX cy) s) (hN : NW s)  {q : Int32}  {v0 : Int64} {v2 : Int32} (h : X9_columnOf v0 v2 = q) {ls : Array Slot} (hl : lv_has ls 3 [(0, .long v0), (2, .int v2)]) (hP : va_P D vwCl (GX cy ad tk sp nm tp kp cu se ur ab lo im sy un en ra li i2) s.heap) : W p l e ({ frames := 1, cells := 0, slots := 0, locals := 20 } : Room) s m args below meth c s.heap [] 0 0 (MQ below (QP (some (.int q))) args s 0 0 (fun _ => False)) (F0 m 0 ls []) := by
  obtain ⟨hx, hb, hml, hown, hts, hr, hlk⟩ := id C
  unfold X9_columnOf at h
  refine lv_iload_n hx hb dX9_columnOf_0 rfl (lv_at hl 1 rfl) ?_
  refine lv_iconst (v := (1 : Int32)) hx hb dX9_columnOf_1 (by decide) ?_
  refine lv_icmp_ne (tgt := 19) hx hb dX9_columnOf_2 (by decide) (fun c1 => ?_) (fun c1 => ?_)
  · rw [if_neg c1] at h
    refine lv_iload_n hx hb dX9_columnOf_19 rfl (lv_at hl 1 rfl) ?_
    refine lv_bipush (v := (19 : Int32)) hx hb dX9_columnOf_20 (by decide) ?_
    refine lv_icmp_ne (tgt := 35) hx hb dX9_columnOf_22 (by decide) (fun c2 => ?_) (fun c2 => ?_)
    · rw [if_neg c2] at h
      exact bX9_columnOf_35 C hK hN h (lv_sub hl [0, 1] rfl) hP
    · rw [if_pos c2] at h
      refine lv_lload_n hx hb dX9_columnOf_25 rfl (lv_at hl 0 rfl) ?_
      refine lv_ldc2 (v := (49 : Int64)) hx hb hown (hts _ (List.mem_cons_of_mem _ w902)) dX9_columnOf_26 ?_
      refine lc_ne (tgt := 35) hx hb dX9_columnOf_29 dX9_columnOf_30 (by decide) (fun c3 => ?_) (fun c3 => ?_)
      · rw [if_neg c3] at h
        exact bX9_columnOf_35 C hK hN h (lv_sub hl [0, 1] rfl) hP
      · rw [if_pos c3] at h
        refine lv_iconst (v := (5 : Int32)) hx hb dX9_columnOf_33 (by decide) ?_
        obtain rfl := h
        exact W.iret hx hb hr (fun t ht _ => ⟨rfl, ht⟩) (fun _ h9 => by cases h9) dX9_columnOf_34 hlk
  · rw [if_pos c1] at h
    refine lv_lload_n hx hb dX9_columnOf_5 rfl (lv_at hl 0 rfl) ?_
    refine lv_ldc2 (v := (17 : Int64)) hx hb hown (hts _ (List.mem_cons_of_mem _ w901)) dX9_columnOf_6 ?_
    refine lc_ne (tgt := 17) hx hb dX9_columnOf_9 dX9_columnOf_10 (by decide) (fun c4 => ?_) (fun c4 => ?_)
    · rw [if_neg c4] at h
      refine lv_iconst (v := (-1 : Int32)) hx hb dX9_columnOf_17 (by decide) ?_
      obtain rfl := h
      exact W.iret hx hb hr (fun t ht _ => ⟨rfl, ht⟩) (fun _ h9 => by cases h9) dX9_columnOf_18 hlk
    · rw [if_pos c4] at h
      refine lv_iconst (v := (1 : Int32)) hx hb dX9_columnOf_13 (by decide) ?_
      refine lv_goto (tgt := 18) hx hb dX9_columnOf_14 (by decide) ?_
      obtain rfl := h
      exact W.iret hx hb hr (fun t ht _ => ⟨rfl, ht⟩) (fun _ h9 => by cases h9) dX9_columnOf_18 hlk
theorem kX9_columnOf  {v0 : Int64} {v2 : Int32} {q : Int32} (h : X9_columnOf v0 v2 = q) : Met l yX9_columnOf (.code yX9_columnOf cX9_columnOf 3 (some .int) :: WA) ({ frames := 1, cells := 0, slots := 0, locals := 20 } : Room) (va_Pc [.long v0, .int v2] (PR D cy (GX cy ad tk sp nm tp kp cu se ur ab lo im sy un en ra li i2))) (QP (some (.int q))) 0 0 (fun _ => False) :=
  met_of (by decide) (Nat.le_of_ble_eq_true rfl) (fun p e s m below meth c ls C hP hK hN hl => bX9_columnOf_0 C hK hN h hl hP)
def X9_keepHigh_26   (en : Ten) (v2 : Int32) (v3 : Int32) (v4 : Int64) : Ten := (if (X9_isCountForm v3) = 0 then en else (if (X2_isTold en v2 (2 : Int32)) = 0 then (letq (X2_keepFirst en v2 (3 : Int32) v4) fun q3 => q3.2) else en))
set_option maxRecDepth 20000 in
theorem bX9_keepHigh_26 (C : Cx p s m args meth c cX9_keepHigh 6 none RX9 (.code yX9_keepHigh cX9_keepHigh 6 none)) (hI : Apart ad 89) (hK : va_K D vwCl (tysX cy) s) (hN : NW s)  {q : Ten}  {v2 : Int32} {v3 : Int32} {v4 : Int64} (h : X9_keepHigh_26 en v2 v3 v4 = q) {ls : Array Slot} (hl : lv_has ls 6 [(1, .ref (ad 34)), (2, .int v2), (3, .int v3), (4, .long v4)]) {H : Heap} {locs : List Loc} (hP : va_P D vwCl (GX cy ad tk sp nm tp kp cu se ur ab lo im sy un en ra li i2) H) (hS : va_S (Ac ad 89) s.heap H locs) : W p l e ({ frames := 2, cells := 0, slots := 0, locals := 49 } : Room) s m args below meth c H locs 0 0 (MQ below (QR none D (GX cy ad tk sp nm tp kp cu se ur ab lo im sy un q ra li i2) (Ac ad 89)) args s 0 0 (Ac ad 89)) (F0 m 26 ls []) := by
  obtain ⟨hx, hb, hml, hown, hts, hr, hlk⟩ := id C
  unfold X9_keepHigh_26 at h
  refine lv_iload_n hx hb dX9_keepHigh_26 rfl (lv_at hl 2 rfl) ?_
  refine cPi (run_S (rest := []) C (kX9_isCountForm rfl) caX9_isCountForm w895 ⟨rfl, rfl, Nat.le_of_ble_eq_true rfl, Nat.le_of_ble_eq_true rfl⟩ hK hN hP rfl hl.1 rfl (Nat.le_of_ble_eq_true rfl) dX9_keepHigh_27 ⟨Nat.zero_le _, Nat.zero_le _⟩) ?_
  refine lv_if_eq (tgt := 51) hx hb dX9_keepHigh_30 (by decide) (fun c1 => ?_) (fun c1 => ?_)
  · rw [if_pos c1] at h
    obtain rfl := h
    exact W.vret hx hb hr (fun t ht _ => ⟨rfl, by rw [ht]; exact hP, hS.F ht⟩) hS.2.2 dX9_keepHigh_51 hlk
  · rw [if_neg c1] at h
    refine lv_aload_n hx hb dX9_keepHigh_33 rfl (lv_at hl 0 rfl) ?_
    refine lv_iload_n hx hb dX9_keepHigh_34 rfl (lv_at hl 1 rfl) ?_
    refine lv_iconst (v := (2 : Int32)) hx hb dX9_keepHigh_35 (by decide) ?_
    refine cPi (run_V (rest := []) C (kX2_isTold rfl) caX2_isTold w890 ⟨rfl, rfl, Nat.le_of_ble_eq_true rfl, Nat.le_of_ble_eq_true rfl⟩ hK hN hP (rX34 hK hP) rfl hl.1 rfl (Nat.le_of_ble_eq_true rfl) dX9_keepHigh_36 ⟨Nat.zero_le _, Nat.zero_le _⟩) ?_
    refine lv_if_ne (tgt := 51) hx hb dX9_keepHigh_39 (by decide) (fun c2 => ?_) (fun c2 => ?_)
    · rw [if_neg c2] at h
      obtain rfl := h
      exact W.vret hx hb hr (fun t ht _ => ⟨rfl, by rw [ht]; exact hP, hS.F ht⟩) hS.2.2 dX9_keepHigh_51 hlk
    · rw [if_pos c2] at h
      refine lv_aload_n hx hb dX9_keepHigh_42 rfl (lv_at hl 0 rfl) ?_
      refine lv_iload_n hx hb dX9_keepHigh_43 rfl (lv_at hl 1 rfl) ?_
      refine lv_iconst (v := (3 : Int32)) hx hb dX9_keepHigh_44 (by decide) ?_
      refine lv_lload hx hb dX9_keepHigh_45 (lv_at hl 3 rfl) ?_
      obtain ⟨q3, h4, h⟩ := lets h
      refine cRi (run_V (rest := []) C (kX2_keepFirst hI h4) caX2_keepFirst w894 ⟨rfl, rfl, Nat.le_of_ble_eq_true rfl, Nat.le_of_ble_eq_true rfl⟩ hK hN hP (rX34 hK hP) rfl hl.1 rfl (Nat.le_of_ble_eq_true rfl) dX9_keepHigh_47 ⟨Nat.zero_le _, Nat.zero_le _⟩) hS (fun H locs hP hS => ?_)
      have hP : va_P D vwCl (GX cy ad tk sp nm tp kp cu se ur ab lo im sy un q3.2 ra li i2) H := hP
      refine lv_pop hx hb dX9_keepHigh_50 rfl ?_
      obtain rfl := h
      exact W.vret hx hb hr (fun t ht _ => ⟨rfl, by rw [ht]; exact hP, hS.F ht⟩) hS.2.2 dX9_keepHigh_51 hlk
def X9_keepHigh (en : Ten) (v2 : Int32) (v3 : Int32) (v4 : Int64) : Ten := (if v3 = (1 : Int32) then (if (X2_isTold en v2 (3 : Int32)) = 0 then (letq (X2_keepFirst en v2 (2 : Int32) v4) fun q3 => q3.2) else X9_keepHigh_26 en v2 v3 v4) else X9_keepHigh_26 en v2 v3 v4)
set_option maxRecDepth 20000 in
theorem bX9_keepHigh_0 (C : Cx p s m args meth c cX9_keepHigh 6 none RX9 (.code yX9_keepHigh cX9_keepHigh 6 none)) (hI : Apart ad 89) (hK : va_K D vwCl (tysX cy) s) (hN : NW s)  {q : Ten}  {v2 : Int32} {v3 : Int32} {v4 : Int64} (h : X9_keepHigh en v2 v3 v4 = q) {ls : Array Slot} (hl : lv_has ls 6 [(0, .ref (ad 8)), (1, .ref (ad 34)), (2, .int v2), (3, .int v3), (4, .long v4)]) {H : Heap} {locs : List Loc} (hP : va_P D vwCl (GX cy ad tk sp nm tp kp cu se ur ab lo im sy un en ra li i2) H) (hS : va_S (Ac ad 89) s.heap H locs) : W p l e ({ frames := 2, cells := 0, slots := 0, locals := 49 } : Room) s m args below meth c H locs 0 0 (MQ below (QR none D (GX cy ad tk sp nm tp kp cu se ur ab lo im sy un q ra li i2) (Ac ad 89)) args s 0 0 (Ac ad 89)) (F0 m 0 ls []) := by
  obtain ⟨hx, hb, hml, hown, hts, hr, hlk⟩ := id C
  unfold X9_keepHigh at h
  refine lv_iload_n hx hb dX9_keepHigh_0 rfl (lv_at hl 3 rfl) ?_
  refine lv_iconst (v := (1 : Int32)) hx hb dX9_keepHigh_1 (by decide) ?_
  refine lv_icmp_ne (tgt := 26) hx hb dX9_keepHigh_2 (by decide) (fun c1 => ?_) (fun c1 => ?_)
  · rw [if_neg c1] at h
    exact bX9_keepHigh_26 C hI hK hN h (lv_sub hl [1, 2, 3, 4] rfl) hP hS
  · rw [if_pos c1] at h
    refine lv_aload_n hx hb dX9_keepHigh_5 rfl (lv_at hl 1 rfl) ?_
    refine lv_iload_n hx hb dX9_keepHigh_6 rfl (lv_at hl 2 rfl) ?_
    refine lv_iconst (v := (3 : Int32)) hx hb dX9_keepHigh_7 (by decide) ?_
    refine cPi (run_V (rest := []) C (kX2_isTold rfl) caX2_isTold w890 ⟨rfl, rfl, Nat.le_of_ble_eq_true rfl, Nat.le_of_ble_eq_true rfl⟩ hK hN hP (rX34 hK hP) rfl hl.1 rfl (Nat.le_of_ble_eq_true rfl) dX9_keepHigh_8 ⟨Nat.zero_le _, Nat.zero_le _⟩) ?_
    refine lv_if_ne (tgt := 26) hx hb dX9_keepHigh_11 (by decide) (fun c2 => ?_) (fun c2 => ?_)
    · rw [if_neg c2] at h
      exact bX9_keepHigh_26 C hI hK hN h (lv_sub hl [1, 2, 3, 4] rfl) hP hS
    · rw [if_pos c2] at h
      refine lv_aload_n hx hb dX9_keepHigh_14 rfl (lv_at hl 1 rfl) ?_
      refine lv_iload_n hx hb dX9_keepHigh_15 rfl (lv_at hl 2 rfl) ?_
      refine lv_iconst (v := (2 : Int32)) hx hb dX9_keepHigh_16 (by decide) ?_
      refine lv_lload hx hb dX9_keepHigh_17 (lv_at hl 4 rfl) ?_
      obtain ⟨q3, h4, h⟩ := lets h
      refine cRi (run_V (rest := []) C (kX2_keepFirst hI h4) caX2_keepFirst w894 ⟨rfl, rfl, Nat.le_of_ble_eq_true rfl, Nat.le_of_ble_eq_true rfl⟩ hK hN hP (rX34 hK hP) rfl hl.1 rfl (Nat.le_of_ble_eq_true rfl) dX9_keepHigh_19 ⟨Nat.zero_le _, Nat.zero_le _⟩) hS (fun H locs hP hS => ?_)
      have hP : va_P D vwCl (GX cy ad tk sp nm tp kp cu se ur ab lo im sy un q3.2 ra li i2) H := hP
      refine lv_pop hx hb dX9_keepHigh_22 rfl ?_
      refine lv_goto (tgt := 51) hx hb dX9_keepHigh_23 (by decide) ?_
      obtain rfl := h
      exact W.vret hx hb hr (fun t ht _ => ⟨rfl, by rw [ht]; exact hP, hS.F ht⟩) hS.2.2 dX9_keepHigh_51 hlk
theorem kX9_keepHigh (hI : Apart ad 89) {v2 : Int32} {v3 : Int32} {v4 : Int64} {q : Ten} (h : X9_keepHigh en v2 v3 v4 = q) : Met l yX9_keepHigh (.code yX9_keepHigh cX9_keepHigh 6 none :: WA) ({ frames := 2, cells := 0, slots := 0, locals := 49 } : Room) (va_Pc [.ref (ad 8), .ref (ad 34), .int v2, .int v3, .long v4] (PR D cy (GX cy ad tk sp nm tp kp cu se ur ab lo im sy un en ra li i2))) (QR none D (GX cy ad tk sp nm tp kp cu se ur ab lo im sy un q ra li i2) (Ac ad 89)) 0 0 (Ac ad 89) :=
  met_of (by decide) (Nat.le_of_ble_eq_true rfl) (fun p e s m below meth c ls C hP hK hN hl => bX9_keepHigh_0 C hI hK hN h hl hP va_S.rf)
def X9_keepValue_22 (ur : Tur)  (en : Ten) (v2 : Int32) : Ten := (letq (X2_keepName en v2 ur.2.2.2.2.2.1 ur.2.2.2.2.2.2) fun q1 => q1)
set_option maxRecDepth 20000 in
theorem bX9_keepValue_22 (C : Cx p s m args meth c cX9_keepValue 9 none RX9 (.code yX9_keepValue cX9_keepValue 9 none)) (hI : Apart ad 89) (hK : va_K D vwCl (tysX cy) s) (hN : NW s)  {q : Ten}  {v2 : Int32} (h : X9_keepValue_22 ur en v2 = q) {ls : Array Slot} (hl : lv_has ls 9 [(0, .ref (ad 8)), (1, .ref (ad 34)), (2, .int v2)]) {H : Heap} {locs : List Loc} (hP : va_P D vwCl (GX cy ad tk sp nm tp kp cu se ur ab lo im sy un en ra li i2) H) (hS : va_S (Ac ad 89) s.heap H locs) : W p l e ({ frames := 3, cells := 0, slots := 0, locals := 74 } : Room) s m args below meth c H locs 0 0 (MQ below (QR none D (GX cy ad tk sp nm tp kp cu se ur ab lo im sy un q ra li i2) (Ac ad 89)) args s 0 0 (Ac ad 89)) (F0 m 22 ls []) := by
  obtain ⟨hx, hb, hml, hown, hts, hr, hlk⟩ := id C
  unfold X9_keepValue_22 at h
  refine lv_aload_n hx hb dX9_keepValue_22 rfl (lv_at hl 1 rfl) ?_
  refine lv_iload_n hx hb dX9_keepValue_23 rfl (lv_at hl 2 rfl) ?_
  refine lv_aload_n hx hb dX9_keepValue_24 rfl (lv_at hl 0 rfl) ?_
  refine gX8_8 (v := ur.2.2.2.2.2.1) C hK hP rfl w221 dX9_keepValue_25 ?_
  refine lv_aload_n hx hb dX9_keepValue_28 rfl (lv_at hl 0 rfl) ?_
  refine gX8_9 (v := ur.2.2.2.2.2.2) C hK hP rfl w222 dX9_keepValue_29 ?_
  obtain ⟨q1, h2, h⟩ := lets h
  refine cRv (run_V (rest := []) C (kX2_keepName hI h2) caX2_keepName w872 ⟨rfl, rfl, Nat.le_of_ble_eq_true rfl, Nat.le_of_ble_eq_true rfl⟩ hK hN hP (rX34 hK hP) rfl hl.1 rfl (Nat.le_of_ble_eq_true rfl) dX9_keepValue_32 ⟨Nat.zero_le _, Nat.zero_le _⟩) hS (fun H locs hP hS => ?_)
  have hP : va_P D vwCl (GX cy ad tk sp nm tp kp cu se ur ab lo im sy un q1 ra li i2) H := hP
  refine lv_goto (tgt := 83) hx hb dX9_keepValue_35 (by decide) ?_
  obtain rfl := h
  exact W.vret hx hb hr (fun t ht _ => ⟨rfl, by rw [ht]; exact hP, hS.F ht⟩) hS.2.2 dX9_keepValue_83 hlk
def X9_keepValue_38 (ur : Tur)  (en : Ten) (v2 : Int32) (v3 : Int64) (v5 : Int32) (v6 : Int64) : Ten := (if v3 = (18 : Int64) then (letq (X9_keepHigh en v2 v5 v6) fun q5 => q5) else (if (X9_columnOf v3 v5) = (-1 : Int32) then en else (letq (X2_keepFirst en v2 (X9_columnOf v3 v5) v6) fun q3 => q3.2)))
set_option maxRecDepth 20000 in
theorem bX9_keepValue_38 (C : Cx p s m args meth c cX9_keepValue 9 none RX9 (.code yX9_keepValue cX9_keepValue 9 none)) (hI : Apart ad 89) (hK : va_K D vwCl (tysX cy) s) (hN : NW s)  {q : Ten}  {v2 : Int32} {v3 : Int64} {v5 : Int32} {v6 : Int64} (h : X9_keepValue_38 ur en v2 v3 v5 v6 = q) {ls : Array Slot} (hl : lv_has ls 9 [(0, .ref (ad 8)), (1, .ref (ad 34)), (2, .int v2), (3, .long v3), (5, .int v5), (6, .long v6)]) {H : Heap} {locs : List Loc} (hP : va_P D vwCl (GX cy ad tk sp nm tp kp cu se ur ab lo im sy un en ra li i2) H) (hS : va_S (Ac ad 89) s.heap H locs) : W p l e ({ frames := 3, cells := 0, slots := 0, locals := 74 } : Room) s m args below meth c H locs 0 0 (MQ below (QR none D (GX cy ad tk sp nm tp kp cu se ur ab lo im sy un q ra li i2) (Ac ad 89)) args s 0 0 (Ac ad 89)) (F0 m 38 ls []) := by
  obtain ⟨hx, hb, hml, hown, hts, hr, hlk⟩ := id C
  unfold X9_keepValue_38 at h
  refine lv_lload_n hx hb dX9_keepValue_38 rfl (lv_at hl 3 rfl) ?_
  refine lv_ldc2 (v := (18 : Int64)) hx hb hown (hts _ (List.mem_cons_of_mem _ w885)) dX9_keepValue_39 ?_
  refine lc_ne (tgt := 59) hx hb dX9_keepValue_42 dX9_keepValue_43 (by decide) (fun c1 => ?_) (fun c1 => ?_)
  · rw [if_neg c1] at h
    refine lv_lload_n hx hb dX9_keepValue_59 rfl (lv_at hl 3 rfl) ?_
    refine lv_iload hx hb dX9_keepValue_60 (lv_at hl 4 rfl) ?_
    refine cPi (run_S (rest := []) C (kX9_columnOf rfl) caX9_columnOf w898 ⟨rfl, rfl, Nat.le_of_ble_eq_true rfl, Nat.le_of_ble_eq_true rfl⟩ hK hN hP rfl hl.1 rfl (Nat.le_of_ble_eq_true rfl) dX9_keepValue_62 ⟨Nat.zero_le _, Nat.zero_le _⟩) ?_
    refine lv_istore (lv' := [(8, .int (X9_columnOf v3 v5)), (0, .ref (ad 8)), (1, .ref (ad 34)), (2, .int v2), (3, .long v3), (5, .int v5), (6, .long v6)]) hx hb dX9_keepValue_65 hl (by decide) rfl (fun ls hl => ?_)
    refine lv_iload hx hb dX9_keepValue_67 (lv_at hl 0 rfl) ?_
    refine lv_iconst (v := (-1 : Int32)) hx hb dX9_keepValue_69 (by decide) ?_
    refine lv_icmp_eq (tgt := 83) hx hb dX9_keepValue_70 (by decide) (fun c2 => ?_) (fun c2 => ?_)
    · rw [if_pos c2] at h
      obtain rfl := h
      exact W.vret hx hb hr (fun t ht _ => ⟨rfl, by rw [ht]; exact hP, hS.F ht⟩) hS.2.2 dX9_keepValue_83 hlk
    · rw [if_neg c2] at h
      refine lv_aload_n hx hb dX9_keepValue_73 rfl (lv_at hl 2 rfl) ?_
      refine lv_iload_n hx hb dX9_keepValue_74 rfl (lv_at hl 3 rfl) ?_
      refine lv_iload hx hb dX9_keepValue_75 (lv_at hl 0 rfl) ?_
      refine lv_lload hx hb dX9_keepValue_77 (lv_at hl 6 rfl) ?_
      obtain ⟨q3, h4, h⟩ := lets h
      refine cRi (run_V (rest := []) C (kX2_keepFirst hI h4) caX2_keepFirst w894 ⟨rfl, rfl, Nat.le_of_ble_eq_true rfl, Nat.le_of_ble_eq_true rfl⟩ hK hN hP (rX34 hK hP) rfl hl.1 rfl (Nat.le_of_ble_eq_true rfl) dX9_keepValue_79 ⟨Nat.zero_le _, Nat.zero_le _⟩) hS (fun H locs hP hS => ?_)
      have hP : va_P D vwCl (GX cy ad tk sp nm tp kp cu se ur ab lo im sy un q3.2 ra li i2) H := hP
      refine lv_pop hx hb dX9_keepValue_82 rfl ?_
      obtain rfl := h
      exact W.vret hx hb hr (fun t ht _ => ⟨rfl, by rw [ht]; exact hP, hS.F ht⟩) hS.2.2 dX9_keepValue_83 hlk
  · rw [if_pos c1] at h
    refine lv_aload_n hx hb dX9_keepValue_46 rfl (lv_at hl 0 rfl) ?_
    refine lv_aload_n hx hb dX9_keepValue_47 rfl (lv_at hl 1 rfl) ?_
    refine lv_iload_n hx hb dX9_keepValue_48 rfl (lv_at hl 2 rfl) ?_
    refine lv_iload hx hb dX9_keepValue_49 (lv_at hl 4 rfl) ?_
    refine lv_lload hx hb dX9_keepValue_51 (lv_at hl 5 rfl) ?_
    obtain ⟨q5, h6, h⟩ := lets h
    refine cRv (run_V (rest := []) C (kX9_keepHigh hI h6) caX9_keepHigh w886 ⟨rfl, rfl, Nat.le_of_ble_eq_true rfl, Nat.le_of_ble_eq_true rfl⟩ hK hN hP (rX8 hK hP) rfl hl.1 rfl (Nat.le_of_ble_eq_true rfl) dX9_keepValue_53 ⟨Nat.zero_le _, Nat.zero_le _⟩) hS (fun H locs hP hS => ?_)
    have hP : va_P D vwCl (GX cy ad tk sp nm tp kp cu se ur ab lo im sy un q5 ra li i2) H := hP
    refine lv_goto (tgt := 83) hx hb dX9_keepValue_56 (by decide) ?_
    obtain rfl := h
    exact W.vret hx hb hr (fun t ht _ => ⟨rfl, by rw [ht]; exact hP, hS.F ht⟩) hS.2.2 dX9_keepValue_83 hlk
def X9_keepValue (ur : Tur) (en : Ten) (v2 : Int32) (v3 : Int64) (v5 : Int32) (v6 : Int64) : Ten := (if v3 = (3 : Int64) then (if v5 = (8 : Int32) then X9_keepValue_22 ur en v2 else (if v5 = (14 : Int32) then X9_keepValue_22 ur en v2 else X9_keepValue_38 ur en v2 v3 v5 v6)) else X9_keepValue_38 ur en v2 v3 v5 v6)
set_option maxRecDepth 20000 in
theorem bX9_keepValue_0 (C : Cx p s m args meth c cX9_keepValue 9 none RX9 (.code yX9_keepValue cX9_keepValue 9 none)) (hI : Apart ad 89) (hK : va_K D vwCl (tysX cy) s) (hN : NW s)  {q : Ten}  {v2 : Int32} {v3 : Int64} {v5 : Int32} {v6 : Int64} (h : X9_keepValue ur en v2 v3 v5 v6 = q) {ls : Array Slot} (hl : lv_has ls 9 [(0, .ref (ad 8)), (1, .ref (ad 34)), (2, .int v2), (3, .long v3), (5, .int v5), (6, .long v6)]) {H : Heap} {locs : List Loc} (hP : va_P D vwCl (GX cy ad tk sp nm tp kp cu se ur ab lo im sy un en ra li i2) H) (hS : va_S (Ac ad 89) s.heap H locs) : W p l e ({ frames := 3, cells := 0, slots := 0, locals := 74 } : Room) s m args below meth c H locs 0 0 (MQ below (QR none D (GX cy ad tk sp nm tp kp cu se ur ab lo im sy un q ra li i2) (Ac ad 89)) args s 0 0 (Ac ad 89)) (F0 m 0 ls []) := by
  obtain ⟨hx, hb, hml, hown, hts, hr, hlk⟩ := id C
  unfold X9_keepValue at h
  refine lv_lload_n hx hb dX9_keepValue_0 rfl (lv_at hl 3 rfl) ?_
  refine lv_ldc2 (v := (3 : Int64)) hx hb hown (hts _ (List.mem_cons_of_mem _ w871)) dX9_keepValue_1 ?_
  refine lc_ne (tgt := 38) hx hb dX9_keepValue_4 dX9_keepValue_5 (by decide) (fun c1 => ?_) (fun c1 => ?_)
  · rw [if_neg c1] at h
    exact bX9_keepValue_38 C hI hK hN h (lv_sub hl [0, 1, 2, 3, 4, 5] rfl) hP hS
  · rw [if_pos c1] at h
    refine lv_iload hx hb dX9_keepValue_8 (lv_at hl 4 rfl) ?_
    refine lv_bipush (v := (8 : Int32)) hx hb dX9_keepValue_10 (by decide) ?_
    refine lv_icmp_eq (tgt := 22) hx hb dX9_keepValue_12 (by decide) (fun c2 => ?_) (fun c2 => ?_)
    · rw [if_pos c2] at h
      exact bX9_keepValue_22 C hI hK hN h (lv_sub hl [0, 1, 2] rfl) hP hS
    · rw [if_neg c2] at h
      refine lv_iload hx hb dX9_keepValue_15 (lv_at hl 4 rfl) ?_
      refine lv_bipush (v := (14 : Int32)) hx hb dX9_keepValue_17 (by decide) ?_
      refine lv_icmp_ne (tgt := 38) hx hb dX9_keepValue_19 (by decide) (fun c3 => ?_) (fun c3 => ?_)
      · rw [if_neg c3] at h
        exact bX9_keepValue_38 C hI hK hN h (lv_sub hl [0, 1, 2, 3, 4, 5] rfl) hP hS
      · rw [if_pos c3] at h
        exact bX9_keepValue_22 C hI hK hN h (lv_sub hl [0, 1, 2] rfl) hP hS
theorem kX9_keepValue (hI : Apart ad 89) {v2 : Int32} {v3 : Int64} {v5 : Int32} {v6 : Int64} {q : Ten} (h : X9_keepValue ur en v2 v3 v5 v6 = q) : Met l yX9_keepValue (.code yX9_keepValue cX9_keepValue 9 none :: WA) ({ frames := 3, cells := 0, slots := 0, locals := 74 } : Room) (va_Pc [.ref (ad 8), .ref (ad 34), .int v2, .long v3, .int v5, .long v6] (PR D cy (GX cy ad tk sp nm tp kp cu se ur ab lo im sy un en ra li i2))) (QR none D (GX cy ad tk sp nm tp kp cu se ur ab lo im sy un q ra li i2) (Ac ad 89)) 0 0 (Ac ad 89) :=
  met_of (by decide) (Nat.le_of_ble_eq_true rfl) (fun p e s m below meth c ls C hP hK hN hl => bX9_keepValue_0 C hI hK hN h hl hP va_S.rf)
def X9_readAddress (tp : Ttp) (cu : Tcu)  : Option (Int64 × Tcu) := ((X1_number tp cu (8 : Int32)).bind fun q1 => (if q1.1 < (0 : Int64) then (letq (X1_refuse q1.2 (2 : Int32) (X1_place cu)) fun q4 => some (q1.1, q4)) else some (q1.1, q1.2)))
set_option maxRecDepth 20000 in
theorem bX9_readAddress_0 (C : Cx p s m args meth c cX9_readAddress 4 (some .long) RX9 (.code yX9_readAddress cX9_readAddress 4 (some .long))) (hI : Apart ad 89) (hK : va_K D vwCl (tysX cy) s) (hN : NW s)  {q : Int64 × Tcu}   (h : X9_readAddress tp cu = some q) {ls : Array Slot} (hl : lv_has ls 4 [(0, .ref (ad 8))]) {H : Heap} {locs : List Loc} (hP : va_P D vwCl (GX cy ad tk sp nm tp kp cu se ur ab lo im sy un en ra li i2) H) (hS : va_S (Ac ad 89) s.heap H locs) : W p l e ({ frames := 2, cells := 0, slots := 0, locals := 51 } : Room) s m args below meth c H locs 0 0 (MQ below (QR (some (.long q.1)) D (GX cy ad tk sp nm tp kp q.2 se ur ab lo im sy un en ra li i2) (Ac ad 89)) args s 0 0 (Ac ad 89)) (F0 m 0 ls []) := by
  obtain ⟨hx, hb, hml, hown, hts, hr, hlk⟩ := id C
  unfold X9_readAddress at h
  refine lv_aload_n hx hb dX9_readAddress_0 rfl (lv_at hl 0 rfl) ?_
  refine gX8_0 C hK hP w213 dX9_readAddress_1 ?_
  refine cPi (run_V (rest := []) C (kX1_place rfl) caX1_place w737 ⟨rfl, rfl, Nat.le_of_ble_eq_true rfl, Nat.le_of_ble_eq_true rfl⟩ hK hN hP (rX3 hK hP) rfl hl.1 rfl (Nat.le_of_ble_eq_true rfl) dX9_readAddress_4 ⟨Nat.zero_le _, Nat.zero_le _⟩) ?_
  refine lv_istore_n (lv' := [(1, .int (X1_place cu)), (0, .ref (ad 8))]) hx hb dX9_readAddress_7 rfl hl (by decide) rfl (fun ls hl => ?_)
  refine lv_aload_n hx hb dX9_readAddress_8 rfl (lv_at hl 1 rfl) ?_
  refine gX8_0 C hK hP w213 dX9_readAddress_9 ?_
  refine lv_bipush (v := (8 : Int32)) hx hb dX9_readAddress_12 (by decide) ?_
  obtain ⟨q1, h2, h⟩ := bnd h
  refine cRl (run_V (rest := []) C (kX1_number hI h2) caX1_number w741 ⟨rfl, rfl, Nat.le_of_ble_eq_true rfl, Nat.le_of_ble_eq_true rfl⟩ hK hN hP (rX3 hK hP) rfl hl.1 rfl (Nat.le_of_ble_eq_true rfl) dX9_readAddress_14 ⟨Nat.zero_le _, Nat.zero_le _⟩) hS (fun H locs hP hS => ?_)
  have hP : va_P D vwCl (GX cy ad tk sp nm tp kp q1.2 se ur ab lo im sy un en ra li i2) H := hP
  refine lv_lstore_n (lv' := [(2, .long q1.1), (1, .int (X1_place cu)), (0, .ref (ad 8))]) hx hb dX9_readAddress_17 rfl hl (by decide) rfl (fun ls hl => ?_)
  refine lv_lload_n hx hb dX9_readAddress_18 rfl (lv_at hl 0 rfl) ?_
  refine lv_lconst (v := (0 : Int64)) hx hb dX9_readAddress_19 (by decide) ?_
  refine lc_ge (tgt := 33) hx hb dX9_readAddress_20 dX9_readAddress_21 (by decide) (fun c3 => ?_) (fun c3 => ?_)
  · rw [if_neg c3] at h
    refine lv_lload_n hx hb dX9_readAddress_33 rfl (lv_at hl 0 rfl) ?_
    obtain rfl := Option.some.inj h
    exact W.lret hx hb hr (fun t ht _ => ⟨rfl, by rw [ht]; exact hP, hS.F ht⟩) hS.2.2 dX9_readAddress_34 hlk
  · rw [if_pos c3] at h
    refine lv_aload_n hx hb dX9_readAddress_24 rfl (lv_at hl 2 rfl) ?_
    refine gX8_0 C hK hP w213 dX9_readAddress_25 ?_
    refine lv_iconst (v := (2 : Int32)) hx hb dX9_readAddress_28 (by decide) ?_
    refine lv_iload_n hx hb dX9_readAddress_29 rfl (lv_at hl 1 rfl) ?_
    obtain ⟨q4, h5, h⟩ := lets h
    refine cRv (run_V (rest := []) C (kX1_refuse hI h5) caX1_refuse w732 ⟨rfl, rfl, Nat.le_of_ble_eq_true rfl, Nat.le_of_ble_eq_true rfl⟩ hK hN hP (rX3 hK hP) rfl hl.1 rfl (Nat.le_of_ble_eq_true rfl) dX9_readAddress_30 ⟨Nat.zero_le _, Nat.zero_le _⟩) hS (fun H locs hP hS => ?_)
    have hP : va_P D vwCl (GX cy ad tk sp nm tp kp q4 se ur ab lo im sy un en ra li i2) H := hP
    refine lv_lload_n hx hb dX9_readAddress_33 rfl (lv_at hl 0 rfl) ?_
    obtain rfl := Option.some.inj h
    exact W.lret hx hb hr (fun t ht _ => ⟨rfl, by rw [ht]; exact hP, hS.F ht⟩) hS.2.2 dX9_readAddress_34 hlk
theorem kX9_readAddress (hI : Apart ad 89)  {q : Int64 × Tcu} (h : X9_readAddress tp cu = some q) : Met l yX9_readAddress (.code yX9_readAddress cX9_readAddress 4 (some .long) :: WA) ({ frames := 2, cells := 0, slots := 0, locals := 51 } : Room) (va_Pc [.ref (ad 8)] (PR D cy (GX cy ad tk sp nm tp kp cu se ur ab lo im sy un en ra li i2))) (QR (some (.long q.1)) D (GX cy ad tk sp nm tp kp q.2 se ur ab lo im sy un en ra li i2) (Ac ad 89)) 0 0 (Ac ad 89) :=
  met_of (by decide) (Nat.le_of_ble_eq_true rfl) (fun p e s m below meth c ls C hP hK hN hl => bX9_readAddress_0 C hI hK hN h hl hP va_S.rf)
def X9_readReference (tp : Ttp) (cu : Tcu) (ur : Tur)  : Option (Int64 × Tcu × Tur) := ((X1_number tp cu (4 : Int32)).bind fun q1 => (if (X1_sound q1.2) = 0 then some ((((ur.2.2.2.2.1).toInt64) + q1.1), q1.2, ur) else some ((((ur.2.2.2.2.1).toInt64) + q1.1), q1.2, (ur.1, ur.2.1, (put_i 2000 ur.2.2.1 ur.2.2.2.1 (X1_place cu)), (ur.2.2.2.1 + (1 : Int32)), ur.2.2.2.2.1, ur.2.2.2.2.2.1, ur.2.2.2.2.2.2))))
set_option maxRecDepth 20000 in
theorem bX9_readReference_0 (C : Cx p s m args meth c cX9_readReference 4 (some .long) RX9 (.code yX9_readReference cX9_readReference 4 (some .long))) (hI : Apart ad 89) (hK : va_K D vwCl (tysX cy) s) (hN : NW s)  {q : Int64 × Tcu × Tur}   (h : X9_readReference tp cu ur = some q) {ls : Array Slot} (hl : lv_has ls 4 [(0, .ref (ad 8))]) {H : Heap} {locs : List Loc} (hP : va_P D vwCl (GX cy ad tk sp nm tp kp cu se ur ab lo im sy un en ra li i2) H) (hS : va_S (Ac ad 89) s.heap H locs) : W p l e ({ frames := 2, cells := 0, slots := 0, locals := 51 } : Room) s m args below meth c H locs 0 0 (MQ below (QR (some (.long q.1)) D (GX cy ad tk sp nm tp kp q.2.1 se q.2.2 ab lo im sy un en ra li i2) (Ac ad 89)) args s 0 0 (Ac ad 89)) (F0 m 0 ls []) := by
  obtain ⟨hx, hb, hml, hown, hts, hr, hlk⟩ := id C
  unfold X9_readReference at h
  refine lv_aload_n hx hb dX9_readReference_0 rfl (lv_at hl 0 rfl) ?_
  refine gX8_0 C hK hP w213 dX9_readReference_1 ?_
  refine cPi (run_V (rest := []) C (kX1_place rfl) caX1_place w737 ⟨rfl, rfl, Nat.le_of_ble_eq_true rfl, Nat.le_of_ble_eq_true rfl⟩ hK hN hP (rX3 hK hP) rfl hl.1 rfl (Nat.le_of_ble_eq_true rfl) dX9_readReference_4 ⟨Nat.zero_le _, Nat.zero_le _⟩) ?_
  refine lv_istore_n (lv' := [(1, .int (X1_place cu)), (0, .ref (ad 8))]) hx hb dX9_readReference_7 rfl hl (by decide) rfl (fun ls hl => ?_)
  refine lv_aload_n hx hb dX9_readReference_8 rfl (lv_at hl 1 rfl) ?_
  refine gX8_7 (v := ur.2.2.2.2.1) C hK hP rfl w220 dX9_readReference_9 ?_
  refine lv_i2l (v := ((ur.2.2.2.2.1).toInt64)) hx hb dX9_readReference_12 rfl ?_
  refine lv_aload_n hx hb dX9_readReference_13 rfl (lv_at hl 1 rfl) ?_
  refine gX8_0 C hK hP w213 dX9_readReference_14 ?_
  refine lv_iconst (v := (4 : Int32)) hx hb dX9_readReference_17 (by decide) ?_
  obtain ⟨q1, h2, h⟩ := bnd h
  refine cRl (run_V (rest := [.long ((ur.2.2.2.2.1).toInt64)]) C (kX1_number hI h2) caX1_number w741 ⟨rfl, rfl, Nat.le_of_ble_eq_true rfl, Nat.le_of_ble_eq_true rfl⟩ hK hN hP (rX3 hK hP) rfl hl.1 rfl (Nat.le_of_ble_eq_true rfl) dX9_readReference_18 ⟨Nat.zero_le _, Nat.zero_le _⟩) hS (fun H locs hP hS => ?_)
  have hP : va_P D vwCl (GX cy ad tk sp nm tp kp q1.2 se ur ab lo im sy un en ra li i2) H := hP
  refine lv_ladd hx hb dX9_readReference_21 ?_
  refine lv_lstore_n (lv' := [(2, .long (((ur.2.2.2.2.1).toInt64) + q1.1)), (1, .int (X1_place cu)), (0, .ref (ad 8))]) hx hb dX9_readReference_22 rfl hl (by decide) rfl (fun ls hl => ?_)
  refine lv_aload_n hx hb dX9_readReference_23 rfl (lv_at hl 2 rfl) ?_
  refine gX8_0 C hK hP w213 dX9_readReference_24 ?_
  refine cPi (run_V (rest := []) C (kX1_sound rfl) caX1_sound w707 ⟨rfl, rfl, Nat.le_of_ble_eq_true rfl, Nat.le_of_ble_eq_true rfl⟩ hK hN hP (rX3 hK hP) rfl hl.1 rfl (Nat.le_of_ble_eq_true rfl) dX9_readReference_27 ⟨Nat.zero_le _, Nat.zero_le _⟩) ?_
  refine lv_if_eq (tgt := 55) hx hb dX9_readReference_30 (by decide) (fun c3 => ?_) (fun c3 => ?_)
  · rw [if_pos c3] at h
    refine lv_lload_n hx hb dX9_readReference_55 rfl (lv_at hl 0 rfl) ?_
    obtain rfl := Option.some.inj h
    exact W.lret hx hb hr (fun t ht _ => ⟨rfl, by rw [ht]; exact hP, hS.F ht⟩) hS.2.2 dX9_readReference_56 hlk
  · rw [if_neg c3] at h
    refine lv_aload_n hx hb dX9_readReference_33 rfl (lv_at hl 2 rfl) ?_
    refine gX8_5 C hK hP w218 dX9_readReference_34 ?_
    refine lv_aload_n hx hb dX9_readReference_37 rfl (lv_at hl 2 rfl) ?_
    refine gX8_6 (v := ur.2.2.2.1) C hK hP rfl w219 dX9_readReference_38 ?_
    refine lv_iload_n hx hb dX9_readReference_41 rfl (lv_at hl 1 rfl) ?_
    refine xput_i (rest := []) C hK hN hP (GX_D hI) hS eX10 (Nat.le_of_ble_eq_true rfl) w857 hl.1 (Nat.le_of_ble_eq_true rfl) dX9_readReference_42 ⟨Nat.le_of_ble_eq_true rfl, Nat.le_of_ble_eq_true rfl⟩ ⟨Nat.zero_le _, Nat.zero_le _⟩ (fun H locs hP hS => ?_)
    have hP : va_P D vwCl (GX cy ad tk sp nm tp kp q1.2 se (ur.1, ur.2.1, (put_i 2000 ur.2.2.1 ur.2.2.2.1 (X1_place cu)), ur.2.2.2.1, ur.2.2.2.2.1, ur.2.2.2.2.2.1, ur.2.2.2.2.2.2) ab lo im sy un en ra li i2) H := hP
    refine lv_aload_n hx hb dX9_readReference_45 rfl (lv_at hl 2 rfl) ?_
    refine lv_dup hx hb dX9_readReference_46 rfl ?_
    refine gX8_6 (v := ur.2.2.2.1) C hK hP rfl w219 dX9_readReference_47 ?_
    refine lv_iconst (v := (1 : Int32)) hx hb dX9_readReference_50 (by decide) ?_
    refine lv_iadd hx hb dX9_readReference_51 ?_
    refine pX8_6 (v := (ur.2.2.2.1 + (1 : Int32))) C hI hK hP hS w219 dX9_readReference_52 (fun H locs hP hS => ?_)
    have hP : va_P D vwCl (GX cy ad tk sp nm tp kp q1.2 se (ur.1, ur.2.1, (put_i 2000 ur.2.2.1 ur.2.2.2.1 (X1_place cu)), (ur.2.2.2.1 + (1 : Int32)), ur.2.2.2.2.1, ur.2.2.2.2.2.1, ur.2.2.2.2.2.2) ab lo im sy un en ra li i2) H := hP
    refine lv_lload_n hx hb dX9_readReference_55 rfl (lv_at hl 0 rfl) ?_
    obtain rfl := Option.some.inj h
    exact W.lret hx hb hr (fun t ht _ => ⟨rfl, by rw [ht]; exact hP, hS.F ht⟩) hS.2.2 dX9_readReference_56 hlk
theorem kX9_readReference (hI : Apart ad 89)  {q : Int64 × Tcu × Tur} (h : X9_readReference tp cu ur = some q) : Met l yX9_readReference (.code yX9_readReference cX9_readReference 4 (some .long) :: WA) ({ frames := 2, cells := 0, slots := 0, locals := 51 } : Room) (va_Pc [.ref (ad 8)] (PR D cy (GX cy ad tk sp nm tp kp cu se ur ab lo im sy un en ra li i2))) (QR (some (.long q.1)) D (GX cy ad tk sp nm tp kp q.2.1 se q.2.2 ab lo im sy un en ra li i2) (Ac ad 89)) 0 0 (Ac ad 89) :=
  met_of (by decide) (Nat.le_of_ble_eq_true rfl) (fun p e s m below meth c ls C hP hK hN hl => bX9_readReference_0 C hI hK hN h hl hP va_S.rf)
def X9_readToldText (tp : Ttp) (cu : Tcu) (se : Tse) (ur : Tur)  : Option (Int64 × Tcu × Tur) := ((X1_number tp cu (4 : Int32)).bind fun q1 => ((X1_toldText tp q1.2 (X7_beginOf se (4 : Int32)) (X7_stopOf se (4 : Int32)) q1.1 (X1_place cu)).bind fun q3 => (if (X1_sound q3.2) = 0 then some ((((-1 : Int32)).toInt64), q3.2, (ur.1, ur.2.1, ur.2.2.1, ur.2.2.2.1, ur.2.2.2.2.1, (-1 : Int32), q3.1)) else some (((((X7_beginOf se (4 : Int32)) + ((q1.1).toInt32))).toInt64), q3.2, (ur.1, ur.2.1, ur.2.2.1, ur.2.2.2.1, ur.2.2.2.2.1, ((X7_beginOf se (4 : Int32)) + ((q1.1).toInt32)), q3.1)))))
set_option maxRecDepth 20000 in
theorem bX9_readToldText_0 (C : Cx p s m args meth c cX9_readToldText 5 (some .long) RX9 (.code yX9_readToldText cX9_readToldText 5 (some .long))) (hI : Apart ad 89) (hK : va_K D vwCl (tysX cy) s) (hN : NW s)  {q : Int64 × Tcu × Tur}   (h : X9_readToldText tp cu se ur = some q) {ls : Array Slot} (hl : lv_has ls 5 [(0, .ref (ad 8))]) {H : Heap} {locs : List Loc} (hP : va_P D vwCl (GX cy ad tk sp nm tp kp cu se ur ab lo im sy un en ra li i2) H) (hS : va_S (Ac ad 89) s.heap H locs) : W p l e ({ frames := 2, cells := 0, slots := 0, locals := 51 } : Room) s m args below meth c H locs 0 0 (MQ below (QR (some (.long q.1)) D (GX cy ad tk sp nm tp kp q.2.1 se q.2.2 ab lo im sy un en ra li i2) (Ac ad 89)) args s 0 0 (Ac ad 89)) (F0 m 0 ls []) := by
  obtain ⟨hx, hb, hml, hown, hts, hr, hlk⟩ := id C
  unfold X9_readToldText at h
  refine lv_aload_n hx hb dX9_readToldText_0 rfl (lv_at hl 0 rfl) ?_
  refine gX8_0 C hK hP w213 dX9_readToldText_1 ?_
  refine cPi (run_V (rest := []) C (kX1_place rfl) caX1_place w737 ⟨rfl, rfl, Nat.le_of_ble_eq_true rfl, Nat.le_of_ble_eq_true rfl⟩ hK hN hP (rX3 hK hP) rfl hl.1 rfl (Nat.le_of_ble_eq_true rfl) dX9_readToldText_4 ⟨Nat.zero_le _, Nat.zero_le _⟩) ?_
  refine lv_istore_n (lv' := [(1, .int (X1_place cu)), (0, .ref (ad 8))]) hx hb dX9_readToldText_7 rfl hl (by decide) rfl (fun ls hl => ?_)
  refine lv_aload_n hx hb dX9_readToldText_8 rfl (lv_at hl 1 rfl) ?_
  refine gX8_0 C hK hP w213 dX9_readToldText_9 ?_
  refine lv_iconst (v := (4 : Int32)) hx hb dX9_readToldText_12 (by decide) ?_
  obtain ⟨q1, h2, h⟩ := bnd h
  refine cRl (run_V (rest := []) C (kX1_number hI h2) caX1_number w741 ⟨rfl, rfl, Nat.le_of_ble_eq_true rfl, Nat.le_of_ble_eq_true rfl⟩ hK hN hP (rX3 hK hP) rfl hl.1 rfl (Nat.le_of_ble_eq_true rfl) dX9_readToldText_13 ⟨Nat.zero_le _, Nat.zero_le _⟩) hS (fun H locs hP hS => ?_)
  have hP : va_P D vwCl (GX cy ad tk sp nm tp kp q1.2 se ur ab lo im sy un en ra li i2) H := hP
  refine lv_lstore_n (lv' := [(2, .long q1.1), (1, .int (X1_place cu)), (0, .ref (ad 8))]) hx hb dX9_readToldText_16 rfl hl (by decide) rfl (fun ls hl => ?_)
  refine lv_aload_n hx hb dX9_readToldText_17 rfl (lv_at hl 2 rfl) ?_
  refine gX8_1 C hK hP w214 dX9_readToldText_18 ?_
  refine lv_iconst (v := (4 : Int32)) hx hb dX9_readToldText_21 (by decide) ?_
  refine cPi (run_V (rest := []) C (kX7_beginOf rfl) caX7_beginOf w706 ⟨rfl, rfl, Nat.le_of_ble_eq_true rfl, Nat.le_of_ble_eq_true rfl⟩ hK hN hP (rX4 hK hP) rfl hl.1 rfl (Nat.le_of_ble_eq_true rfl) dX9_readToldText_22 ⟨Nat.zero_le _, Nat.zero_le _⟩) ?_
  refine lv_istore (lv' := [(4, .int (X7_beginOf se (4 : Int32))), (2, .long q1.1), (1, .int (X1_place cu)), (0, .ref (ad 8))]) hx hb dX9_readToldText_25 hl (by decide) rfl (fun ls hl => ?_)
  refine lv_aload_n hx hb dX9_readToldText_27 rfl (lv_at hl 3 rfl) ?_
  refine lv_aload_n hx hb dX9_readToldText_28 rfl (lv_at hl 3 rfl) ?_
  refine gX8_0 C hK hP w213 dX9_readToldText_29 ?_
  refine lv_iload hx hb dX9_readToldText_32 (lv_at hl 0 rfl) ?_
  refine lv_aload_n hx hb dX9_readToldText_34 rfl (lv_at hl 3 rfl) ?_
  refine gX8_1 C hK hP w214 dX9_readToldText_35 ?_
  refine lv_iconst (v := (4 : Int32)) hx hb dX9_readToldText_38 (by decide) ?_
  refine cPi (run_V (rest := [.int (X7_beginOf se (4 : Int32)), .ref (ad 3), .ref (ad 8)]) C (kX7_stopOf rfl) caX7_stopOf w705 ⟨rfl, rfl, Nat.le_of_ble_eq_true rfl, Nat.le_of_ble_eq_true rfl⟩ hK hN hP (rX4 hK hP) rfl hl.1 rfl (Nat.le_of_ble_eq_true rfl) dX9_readToldText_39 ⟨Nat.zero_le _, Nat.zero_le _⟩) ?_
  refine lv_lload_n hx hb dX9_readToldText_42 rfl (lv_at hl 1 rfl) ?_
  refine lv_iload_n hx hb dX9_readToldText_43 rfl (lv_at hl 2 rfl) ?_
  obtain ⟨q3, h4, h⟩ := bnd h
  refine cRi (run_V (rest := [.ref (ad 8)]) C (kX1_toldText hI h4) caX1_toldText w852 ⟨rfl, rfl, Nat.le_of_ble_eq_true rfl, Nat.le_of_ble_eq_true rfl⟩ hK hN hP (rX3 hK hP) rfl hl.1 rfl (Nat.le_of_ble_eq_true rfl) dX9_readToldText_44 ⟨Nat.zero_le _, Nat.zero_le _⟩) hS (fun H locs hP hS => ?_)
  have hP : va_P D vwCl (GX cy ad tk sp nm tp kp q3.2 se ur ab lo im sy un en ra li i2) H := hP
  refine pX8_9 (v := q3.1) C hI hK hP hS w222 dX9_readToldText_47 (fun H locs hP hS => ?_)
  have hP : va_P D vwCl (GX cy ad tk sp nm tp kp q3.2 se (ur.1, ur.2.1, ur.2.2.1, ur.2.2.2.1, ur.2.2.2.2.1, ur.2.2.2.2.2.1, q3.1) ab lo im sy un en ra li i2) H := hP
  refine lv_aload_n hx hb dX9_readToldText_50 rfl (lv_at hl 3 rfl) ?_
  refine lv_aload_n hx hb dX9_readToldText_51 rfl (lv_at hl 3 rfl) ?_
  refine gX8_0 C hK hP w213 dX9_readToldText_52 ?_
  refine cPi (run_V (rest := [.ref (ad 8)]) C (kX1_sound rfl) caX1_sound w707 ⟨rfl, rfl, Nat.le_of_ble_eq_true rfl, Nat.le_of_ble_eq_true rfl⟩ hK hN hP (rX3 hK hP) rfl hl.1 rfl (Nat.le_of_ble_eq_true rfl) dX9_readToldText_55 ⟨Nat.zero_le _, Nat.zero_le _⟩) ?_
  refine lv_if_eq (tgt := 69) hx hb dX9_readToldText_58 (by decide) (fun c5 => ?_) (fun c5 => ?_)
  · rw [if_pos c5] at h
    refine lv_iconst (v := (-1 : Int32)) hx hb dX9_readToldText_69 (by decide) ?_
    refine pX8_8 (v := (-1 : Int32)) C hI hK hP hS w221 dX9_readToldText_70 (fun H locs hP hS => ?_)
    have hP : va_P D vwCl (GX cy ad tk sp nm tp kp q3.2 se (ur.1, ur.2.1, ur.2.2.1, ur.2.2.2.1, ur.2.2.2.2.1, (-1 : Int32), q3.1) ab lo im sy un en ra li i2) H := hP
    refine lv_aload_n hx hb dX9_readToldText_73 rfl (lv_at hl 3 rfl) ?_
    refine gX8_8 (v := (-1 : Int32)) C hK hP rfl w221 dX9_readToldText_74 ?_
    refine lv_i2l (v := (((-1 : Int32)).toInt64)) hx hb dX9_readToldText_77 rfl ?_
    obtain rfl := Option.some.inj h
    exact W.lret hx hb hr (fun t ht _ => ⟨rfl, by rw [ht]; exact hP, hS.F ht⟩) hS.2.2 dX9_readToldText_78 hlk
  · rw [if_neg c5] at h
    refine lv_iload hx hb dX9_readToldText_61 (lv_at hl 0 rfl) ?_
    refine lv_lload_n hx hb dX9_readToldText_63 rfl (lv_at hl 1 rfl) ?_
    refine lv_l2i (v := ((q1.1).toInt32)) hx hb dX9_readToldText_64 rfl ?_
    refine lv_iadd hx hb dX9_readToldText_65 ?_
    refine lv_goto (tgt := 70) hx hb dX9_readToldText_66 (by decide) ?_
    refine pX8_8 (v := ((X7_beginOf se (4 : Int32)) + ((q1.1).toInt32))) C hI hK hP hS w221 dX9_readToldText_70 (fun H locs hP hS => ?_)
    have hP : va_P D vwCl (GX cy ad tk sp nm tp kp q3.2 se (ur.1, ur.2.1, ur.2.2.1, ur.2.2.2.1, ur.2.2.2.2.1, ((X7_beginOf se (4 : Int32)) + ((q1.1).toInt32)), q3.1) ab lo im sy un en ra li i2) H := hP
    refine lv_aload_n hx hb dX9_readToldText_73 rfl (lv_at hl 3 rfl) ?_
    refine gX8_8 (v := ((X7_beginOf se (4 : Int32)) + ((q1.1).toInt32))) C hK hP rfl w221 dX9_readToldText_74 ?_
    refine lv_i2l (v := ((((X7_beginOf se (4 : Int32)) + ((q1.1).toInt32))).toInt64)) hx hb dX9_readToldText_77 rfl ?_
    obtain rfl := Option.some.inj h
    exact W.lret hx hb hr (fun t ht _ => ⟨rfl, by rw [ht]; exact hP, hS.F ht⟩) hS.2.2 dX9_readToldText_78 hlk
theorem kX9_readToldText (hI : Apart ad 89)  {q : Int64 × Tcu × Tur} (h : X9_readToldText tp cu se ur = some q) : Met l yX9_readToldText (.code yX9_readToldText cX9_readToldText 5 (some .long) :: WA) ({ frames := 2, cells := 0, slots := 0, locals := 51 } : Room) (va_Pc [.ref (ad 8)] (PR D cy (GX cy ad tk sp nm tp kp cu se ur ab lo im sy un en ra li i2))) (QR (some (.long q.1)) D (GX cy ad tk sp nm tp kp q.2.1 se q.2.2 ab lo im sy un en ra li i2) (Ac ad 89)) 0 0 (Ac ad 89) :=
  met_of (by decide) (Nat.le_of_ble_eq_true rfl) (fun p e s m below meth c ls C hP hK hN hl => bX9_readToldText_0 C hI hK hN h hl hP va_S.rf)
def X9_skipBytes (tp : Ttp) (cu : Tcu)  : Option (Int64 × Tcu) := ((X1_uleb tp cu).bind fun q1 => (if (X1_hasLeft q1.2 q1.1) = 0 then (letq (X1_refuse q1.2 (1 : Int32) (X1_place cu)) fun q6 => some ((0 : Int64), q6)) else (letq (X1_within q1.2 ((X1_place q1.2) + ((q1.1).toInt32)) (X1_stop q1.2)) fun q4 => some (q1.1, q4))))
set_option maxRecDepth 20000 in
theorem bX9_skipBytes_0 (C : Cx p s m args meth c cX9_skipBytes 4 (some .long) RX9 (.code yX9_skipBytes cX9_skipBytes 4 (some .long))) (hI : Apart ad 89) (hK : va_K D vwCl (tysX cy) s) (hN : NW s)  {q : Int64 × Tcu}   (h : X9_skipBytes tp cu = some q) {ls : Array Slot} (hl : lv_has ls 4 [(0, .ref (ad 8))]) {H : Heap} {locs : List Loc} (hP : va_P D vwCl (GX cy ad tk sp nm tp kp cu se ur ab lo im sy un en ra li i2) H) (hS : va_S (Ac ad 89) s.heap H locs) : W p l e ({ frames := 2, cells := 0, slots := 0, locals := 46 } : Room) s m args below meth c H locs 0 0 (MQ below (QR (some (.long q.1)) D (GX cy ad tk sp nm tp kp q.2 se ur ab lo im sy un en ra li i2) (Ac ad 89)) args s 0 0 (Ac ad 89)) (F0 m 0 ls []) := by
  obtain ⟨hx, hb, hml, hown, hts, hr, hlk⟩ := id C
  unfold X9_skipBytes at h
  refine lv_aload_n hx hb dX9_skipBytes_0 rfl (lv_at hl 0 rfl) ?_
  refine gX8_0 C hK hP w213 dX9_skipBytes_1 ?_
  refine cPi (run_V (rest := []) C (kX1_place rfl) caX1_place w737 ⟨rfl, rfl, Nat.le_of_ble_eq_true rfl, Nat.le_of_ble_eq_true rfl⟩ hK hN hP (rX3 hK hP) rfl hl.1 rfl (Nat.le_of_ble_eq_true rfl) dX9_skipBytes_4 ⟨Nat.zero_le _, Nat.zero_le _⟩) ?_
  refine lv_istore_n (lv' := [(1, .int (X1_place cu)), (0, .ref (ad 8))]) hx hb dX9_skipBytes_7 rfl hl (by decide) rfl (fun ls hl => ?_)
  refine lv_aload_n hx hb dX9_skipBytes_8 rfl (lv_at hl 1 rfl) ?_
  refine gX8_0 C hK hP w213 dX9_skipBytes_9 ?_
  obtain ⟨q1, h2, h⟩ := bnd h
  refine cRl (run_V (rest := []) C (kX1_uleb hI h2) caX1_uleb w806 ⟨rfl, rfl, Nat.le_of_ble_eq_true rfl, Nat.le_of_ble_eq_true rfl⟩ hK hN hP (rX3 hK hP) rfl hl.1 rfl (Nat.le_of_ble_eq_true rfl) dX9_skipBytes_12 ⟨Nat.zero_le _, Nat.zero_le _⟩) hS (fun H locs hP hS => ?_)
  have hP : va_P D vwCl (GX cy ad tk sp nm tp kp q1.2 se ur ab lo im sy un en ra li i2) H := hP
  refine lv_lstore_n (lv' := [(2, .long q1.1), (1, .int (X1_place cu)), (0, .ref (ad 8))]) hx hb dX9_skipBytes_15 rfl hl (by decide) rfl (fun ls hl => ?_)
  refine lv_aload_n hx hb dX9_skipBytes_16 rfl (lv_at hl 2 rfl) ?_
  refine gX8_0 C hK hP w213 dX9_skipBytes_17 ?_
  refine lv_lload_n hx hb dX9_skipBytes_20 rfl (lv_at hl 0 rfl) ?_
  refine cPi (run_V (rest := []) C (kX1_hasLeft rfl) caX1_hasLeft w862 ⟨rfl, rfl, Nat.le_of_ble_eq_true rfl, Nat.le_of_ble_eq_true rfl⟩ hK hN hP (rX3 hK hP) rfl hl.1 rfl (Nat.le_of_ble_eq_true rfl) dX9_skipBytes_21 ⟨Nat.zero_le _, Nat.zero_le _⟩) ?_
  refine lv_if_ne (tgt := 38) hx hb dX9_skipBytes_24 (by decide) (fun c3 => ?_) (fun c3 => ?_)
  · rw [if_neg c3] at h
    refine lv_aload_n hx hb dX9_skipBytes_38 rfl (lv_at hl 2 rfl) ?_
    refine gX8_0 C hK hP w213 dX9_skipBytes_39 ?_
    refine lv_aload_n hx hb dX9_skipBytes_42 rfl (lv_at hl 2 rfl) ?_
    refine gX8_0 C hK hP w213 dX9_skipBytes_43 ?_
    refine cPi (run_V (rest := [.ref (ad 3)]) C (kX1_place rfl) caX1_place w737 ⟨rfl, rfl, Nat.le_of_ble_eq_true rfl, Nat.le_of_ble_eq_true rfl⟩ hK hN hP (rX3 hK hP) rfl hl.1 rfl (Nat.le_of_ble_eq_true rfl) dX9_skipBytes_46 ⟨Nat.zero_le _, Nat.zero_le _⟩) ?_
    refine lv_lload_n hx hb dX9_skipBytes_49 rfl (lv_at hl 0 rfl) ?_
    refine lv_l2i (v := ((q1.1).toInt32)) hx hb dX9_skipBytes_50 rfl ?_
    refine lv_iadd hx hb dX9_skipBytes_51 ?_
    refine lv_aload_n hx hb dX9_skipBytes_52 rfl (lv_at hl 2 rfl) ?_
    refine gX8_0 C hK hP w213 dX9_skipBytes_53 ?_
    refine cPi (run_V (rest := [.int ((X1_place q1.2) + ((q1.1).toInt32)), .ref (ad 3)]) C (kX1_stop rfl) caX1_stop w748 ⟨rfl, rfl, Nat.le_of_ble_eq_true rfl, Nat.le_of_ble_eq_true rfl⟩ hK hN hP (rX3 hK hP) rfl hl.1 rfl (Nat.le_of_ble_eq_true rfl) dX9_skipBytes_56 ⟨Nat.zero_le _, Nat.zero_le _⟩) ?_
    obtain ⟨q4, h5, h⟩ := lets h
    refine cRv (run_V (rest := []) C (kX1_within hI h5) caX1_within w708 ⟨rfl, rfl, Nat.le_of_ble_eq_true rfl, Nat.le_of_ble_eq_true rfl⟩ hK hN hP (rX3 hK hP) rfl hl.1 rfl (Nat.le_of_ble_eq_true rfl) dX9_skipBytes_59 ⟨Nat.zero_le _, Nat.zero_le _⟩) hS (fun H locs hP hS => ?_)
    have hP : va_P D vwCl (GX cy ad tk sp nm tp kp q4 se ur ab lo im sy un en ra li i2) H := hP
    refine lv_lload_n hx hb dX9_skipBytes_62 rfl (lv_at hl 0 rfl) ?_
    obtain rfl := Option.some.inj h
    exact W.lret hx hb hr (fun t ht _ => ⟨rfl, by rw [ht]; exact hP, hS.F ht⟩) hS.2.2 dX9_skipBytes_63 hlk
  · rw [if_pos c3] at h
    refine lv_aload_n hx hb dX9_skipBytes_27 rfl (lv_at hl 2 rfl) ?_
    refine gX8_0 C hK hP w213 dX9_skipBytes_28 ?_
    refine lv_iconst (v := (1 : Int32)) hx hb dX9_skipBytes_31 (by decide) ?_
    refine lv_iload_n hx hb dX9_skipBytes_32 rfl (lv_at hl 1 rfl) ?_
    obtain ⟨q6, h7, h⟩ := lets h
    refine cRv (run_V (rest := []) C (kX1_refuse hI h7) caX1_refuse w732 ⟨rfl, rfl, Nat.le_of_ble_eq_true rfl, Nat.le_of_ble_eq_true rfl⟩ hK hN hP (rX3 hK hP) rfl hl.1 rfl (Nat.le_of_ble_eq_true rfl) dX9_skipBytes_33 ⟨Nat.zero_le _, Nat.zero_le _⟩) hS (fun H locs hP hS => ?_)
    have hP : va_P D vwCl (GX cy ad tk sp nm tp kp q6 se ur ab lo im sy un en ra li i2) H := hP
    refine lv_lconst (v := (0 : Int64)) hx hb dX9_skipBytes_36 (by decide) ?_
    obtain rfl := Option.some.inj h
    exact W.lret hx hb hr (fun t ht _ => ⟨rfl, by rw [ht]; exact hP, hS.F ht⟩) hS.2.2 dX9_skipBytes_37 hlk
theorem kX9_skipBytes (hI : Apart ad 89)  {q : Int64 × Tcu} (h : X9_skipBytes tp cu = some q) : Met l yX9_skipBytes (.code yX9_skipBytes cX9_skipBytes 4 (some .long) :: WA) ({ frames := 2, cells := 0, slots := 0, locals := 46 } : Room) (va_Pc [.ref (ad 8)] (PR D cy (GX cy ad tk sp nm tp kp cu se ur ab lo im sy un en ra li i2))) (QR (some (.long q.1)) D (GX cy ad tk sp nm tp kp q.2 se ur ab lo im sy un en ra li i2) (Ac ad 89)) 0 0 (Ac ad 89) :=
  met_of (by decide) (Nat.le_of_ble_eq_true rfl) (fun p e s m below meth c ls C hP hK hN hl => bX9_skipBytes_0 C hI hK hN h hl hP va_S.rf)
end
