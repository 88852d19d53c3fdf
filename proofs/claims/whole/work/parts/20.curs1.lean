section
variable {p : Program} {l : Launch} {e : Env} {s : State} {m : MethodId} {args : Array Value} {below : List Frame} {meth : Method} {c : Code} {D : va_G} {cy : Nat → ClassId} {ad : Nat → Nat}
variable {tk : Nat} {sp : Nat} {nm : Tnm} {tp : Ttp} {kp : Tkp} {cu : Tcu} {se : Tse} {ur : Tur} {ab : Tab} {lo : Tlo} {im : Tim} {sy : Tsy} {un : Tun} {en : Ten} {ra : Tra} {li : Tli} {i2 : Ti2}
def X1_within (cu : Tcu) (v1 : Int32) (v2 : Int32) : Tcu := (cu.1, v1, v2, cu.2.2.2.1, cu.2.2.2.2)
set_option maxRecDepth 20000 in
theorem bX1_within_0 (C : Cx p s m args meth c cX1_within 3 none RX1 (.code yX1_within cX1_within 3 none)) (hI : Apart ad 89) (hK : va_K D vwCl (tysX cy) s) (hN : NW s)  {q : Tcu}  {v1 : Int32} {v2 : Int32} (h : X1_within cu v1 v2 = q) {ls : Array Slot} (hl : lv_has ls 3 [(0, .ref (ad 3)), (1, .int v1), (2, .int v2)]) {H : Heap} {locs : List Loc} (hP : va_P D vwCl (GX cy ad tk sp nm tp kp cu se ur ab lo im sy un en ra li i2) H) (hS : va_S (Ac ad 89) s.heap H locs) : W p l e ({ frames := 0, cells := 0, slots := 0, locals := 0 } : Room) s m args below meth c H locs 0 0 (MQ below (QR none D (GX cy ad tk sp nm tp kp q se ur ab lo im sy un en ra li i2) (Ac ad 89)) args s 0 0 (Ac ad 89)) (F0 m 0 ls []) := by
  obtain ⟨hx, hb, hml, hown, hts, hr, hlk⟩ := id C
  unfold X1_within at h
  refine lv_aload_n hx hb dX1_within_0 rfl (lv_at hl 0 rfl) ?_
  refine lv_iload_n hx hb dX1_within_1 rfl (lv_at hl 1 rfl) ?_
  refine pX3_2 (v := v1) C hI hK hP hS w127 dX1_within_2 (fun H locs hP hS => ?_)
  have hP : va_P D vwCl (GX cy ad tk sp nm tp kp (cu.1, v1, cu.2.2.1, cu.2.2.2.1, cu.2.2.2.2) se ur ab lo im sy un en ra li i2) H := hP
  refine lv_aload_n hx hb dX1_within_5 rfl (lv_at hl 0 rfl) ?_
  refine lv_iload_n hx hb dX1_within_6 rfl (lv_at hl 2 rfl) ?_
  refine pX3_3 (v := v2) C hI hK hP hS w128 dX1_within_7 (fun H locs hP hS => ?_)
  have hP : va_P D vwCl (GX cy ad tk sp nm tp kp (cu.1, v1, v2, cu.2.2.2.1, cu.2.2.2.2) se ur ab lo im sy un en ra li i2) H := hP
  obtain rfl := h
  exact W.vret hx hb hr (fun t ht _ => ⟨rfl, by rw [ht]; exact hP, hS.F ht⟩) hS.2.2 dX1_within_10 hlk
theorem kX1_within (hI : Apart ad 89) {v1 : Int32} {v2 : Int32} {q : Tcu} (h : X1_within cu v1 v2 = q) : Met l yX1_within (.code yX1_within cX1_within 3 none :: WA) ({ frames := 0, cells := 0, slots := 0, locals := 0 } : Room) (va_Pc [.ref (ad 3), .int v1, .int v2] (PR D cy (GX cy ad tk sp nm tp kp cu se ur ab lo im sy un en ra li i2))) (QR none D (GX cy ad tk sp nm tp kp q se ur ab lo im sy un en ra li i2) (Ac ad 89)) 0 0 (Ac ad 89) :=
  met_of (by decide) (Nat.le_of_ble_eq_true rfl) (fun p e s m below meth c ls C hP hK hN hl => bX1_within_0 C hI hK hN h hl hP va_S.rf)
def X1_open (cu : Tcu) (v1 : Int32) : Tcu := (letq (X1_within (v1, cu.2.1, cu.2.2.1, (0 : Int32), (-1 : Int32)) (0 : Int32) v1) fun q1 => q1)
set_option maxRecDepth 20000 in
theorem bX1_open_0 (C : Cx p s m args meth c cX1_open 2 none RX1 (.code yX1_open cX1_open 2 none)) (hI : Apart ad 89) (hK : va_K D vwCl (tysX cy) s) (hN : NW s)  {q : Tcu}  {v1 : Int32} (h : X1_open cu v1 = q) {ls : Array Slot} (hl : lv_has ls 2 [(0, .ref (ad 3)), (1, .int v1)]) {H : Heap} {locs : List Loc} (hP : va_P D vwCl (GX cy ad tk sp nm tp kp cu se ur ab lo im sy un en ra li i2) H) (hS : va_S (Ac ad 89) s.heap H locs) : W p l e ({ frames := 1, cells := 0, slots := 0, locals := 22 } : Room) s m args below meth c H locs 0 0 (MQ below (QR none D (GX cy ad tk sp nm tp kp q se ur ab lo im sy un en ra li i2) (Ac ad 89)) args s 0 0 (Ac ad 89)) (F0 m 0 ls []) := by
  obtain ⟨hx, hb, hml, hown, hts, hr, hlk⟩ := id C
  unfold X1_open at h
  refine lv_aload_n hx hb dX1_open_0 rfl (lv_at hl 0 rfl) ?_
  refine lv_iload_n hx hb dX1_open_1 rfl (lv_at hl 1 rfl) ?_
  refine pX3_1 (v := v1) C hI hK hP hS w126 dX1_open_2 (fun H locs hP hS => ?_)
  have hP : va_P D vwCl (GX cy ad tk sp nm tp kp (v1, cu.2.1, cu.2.2.1, cu.2.2.2.1, cu.2.2.2.2) se ur ab lo im sy un en ra li i2) H := hP
  refine lv_aload_n hx hb dX1_open_5 rfl (lv_at hl 0 rfl) ?_
  refine lv_iconst (v := (0 : Int32)) hx hb dX1_open_6 (by decide) ?_
  refine pX3_4 (v := (0 : Int32)) C hI hK hP hS w129 dX1_open_7 (fun H locs hP hS => ?_)
  have hP : va_P D vwCl (GX cy ad tk sp nm tp kp (v1, cu.2.1, cu.2.2.1, (0 : Int32), cu.2.2.2.2) se ur ab lo im sy un en ra li i2) H := hP
  refine lv_aload_n hx hb dX1_open_10 rfl (lv_at hl 0 rfl) ?_
  refine lv_iconst (v := (-1 : Int32)) hx hb dX1_open_11 (by decide) ?_
  refine pX3_5 (v := (-1 : Int32)) C hI hK hP hS w130 dX1_open_12 (fun H locs hP hS => ?_)
  have hP : va_P D vwCl (GX cy ad tk sp nm tp kp (v1, cu.2.1, cu.2.2.1, (0 : Int32), (-1 : Int32)) se ur ab lo im sy un en ra li i2) H := hP
  refine lv_aload_n hx hb dX1_open_15 rfl (lv_at hl 0 rfl) ?_
  refine lv_iconst (v := (0 : Int32)) hx hb dX1_open_16 (by decide) ?_
  refine lv_iload_n hx hb dX1_open_17 rfl (lv_at hl 1 rfl) ?_
  obtain ⟨q1, h2, h⟩ := lets h
  refine cRv (run_V (rest := []) C (kX1_within hI h2) caX1_within w524 ⟨rfl, rfl, Nat.le_of_ble_eq_true rfl, Nat.le_of_ble_eq_true rfl⟩ hK hN hP (rX3 hK hP) rfl hl.1 rfl (Nat.le_of_ble_eq_true rfl) dX1_open_18 ⟨Nat.zero_le _, Nat.zero_le _⟩) hS (fun H locs hP hS => ?_)
  have hP : va_P D vwCl (GX cy ad tk sp nm tp kp q1 se ur ab lo im sy un en ra li i2) H := hP
  obtain rfl := h
  exact W.vret hx hb hr (fun t ht _ => ⟨rfl, by rw [ht]; exact hP, hS.F ht⟩) hS.2.2 dX1_open_21 hlk
theorem kX1_open (hI : Apart ad 89) {v1 : Int32} {q : Tcu} (h : X1_open cu v1 = q) : Met l yX1_open (.code yX1_open cX1_open 2 none :: WA) ({ frames := 1, cells := 0, slots := 0, locals := 22 } : Room) (va_Pc [.ref (ad 3), .int v1] (PR D cy (GX cy ad tk sp nm tp kp cu se ur ab lo im sy un en ra li i2))) (QR none D (GX cy ad tk sp nm tp kp q se ur ab lo im sy un en ra li i2) (Ac ad 89)) 0 0 (Ac ad 89) :=
  met_of (by decide) (Nat.le_of_ble_eq_true rfl) (fun p e s m below meth c ls C hP hK hN hl => bX1_open_0 C hI hK hN h hl hP va_S.rf)
def X1_size (cu : Tcu)  : Int32 := cu.1
set_option maxRecDepth 20000 in
theorem bX1_size_0 (C : Cx p s m args meth c cX1_size 1 (some .int) RX1 (.code yX1_size cX1_size 1 (some .int))) (hK : va_K D vwCl (tysX cy) s) (hN : NW s)  {q : Int32}   (h : X1_size cu = q) {ls : Array Slot} (hl : lv_has ls 1 [(0, .ref (ad 3))]) (hP : va_P D vwCl (GX cy ad tk sp nm tp kp cu se ur ab lo im sy un en ra li i2) s.heap) : W p l e ({ frames := 0, cells := 0, slots := 0, locals := 0 } : Room) s m args below meth c s.heap [] 0 0 (MQ below (QP (some (.int q))) args s 0 0 (fun _ => False)) (F0 m 0 ls []) := by
  obtain ⟨hx, hb, hml, hown, hts, hr, hlk⟩ := id C
  unfold X1_size at h
  refine lv_aload_n hx hb dX1_size_0 rfl (lv_at hl 0 rfl) ?_
  refine gX3_1 (v := cu.1) C hK hP rfl w126 dX1_size_1 ?_
  obtain rfl := h
  exact W.iret hx hb hr (fun t ht _ => ⟨rfl, ht⟩) (fun _ h9 => by cases h9) dX1_size_4 hlk
theorem kX1_size   {q : Int32} (h : X1_size cu = q) : Met l yX1_size (.code yX1_size cX1_size 1 (some .int) :: WA) ({ frames := 0, cells := 0, slots := 0, locals := 0 } : Room) (va_Pc [.ref (ad 3)] (PR D cy (GX cy ad tk sp nm tp kp cu se ur ab lo im sy un en ra li i2))) (QP (some (.int q))) 0 0 (fun _ => False) :=
  met_of (by decide) (Nat.le_of_ble_eq_true rfl) (fun p e s m below meth c ls C hP hK hN hl => bX1_size_0 C hK hN h hl hP)
def X1_place (cu : Tcu)  : Int32 := cu.2.1
set_option maxRecDepth 20000 in
theorem bX1_place_0 (C : Cx p s m args meth c cX1_place 1 (some .int) RX1 (.code yX1_place cX1_place 1 (some .int))) (hK : va_K D vwCl (tysX cy) s) (hN : NW s)  {q : Int32}   (h : X1_place cu = q) {ls : Array Slot} (hl : lv_has ls 1 [(0, .ref (ad 3))]) (hP : va_P D vwCl (GX cy ad tk sp nm tp kp cu se ur ab lo im sy un en ra li i2) s.heap) : W p l e ({ frames := 0, cells := 0, slots := 0, locals := 0 } : Room) s m args below meth c s.heap [] 0 0 (MQ below (QP (some (.int q))) args s 0 0 (fun _ => False)) (F0 m 0 ls []) := by
  obtain ⟨hx, hb, hml, hown, hts, hr, hlk⟩ := id C
  unfold X1_place at h
  refine lv_aload_n hx hb dX1_place_0 rfl (lv_at hl 0 rfl) ?_
  refine gX3_2 (v := cu.2.1) C hK hP rfl w127 dX1_place_1 ?_
  obtain rfl := h
  exact W.iret hx hb hr (fun t ht _ => ⟨rfl, ht⟩) (fun _ h9 => by cases h9) dX1_place_4 hlk
theorem kX1_place   {q : Int32} (h : X1_place cu = q) : Met l yX1_place (.code yX1_place cX1_place 1 (some .int) :: WA) ({ frames := 0, cells := 0, slots := 0, locals := 0 } : Room) (va_Pc [.ref (ad 3)] (PR D cy (GX cy ad tk sp nm tp kp cu se ur ab lo im sy un en ra li i2))) (QP (some (.int q))) 0 0 (fun _ => False) :=
  met_of (by decide) (Nat.le_of_ble_eq_true rfl) (fun p e s m below meth c ls C hP hK hN hl => bX1_place_0 C hK hN h hl hP)
def X1_stop (cu : Tcu)  : Int32 := cu.2.2.1
set_option maxRecDepth 20000 in
theorem bX1_stop_0 (C : Cx p s m args meth c cX1_stop 1 (some .int) RX1 (.code yX1_stop cX1_stop 1 (some .int))) (hK : va_K D vwCl (tysX cy) s) (hN : NW s)  {q : Int32}   (h : X1_stop cu = q) {ls : Array Slot} (hl : lv_has ls 1 [(0, .ref (ad 3))]) (hP : va_P D vwCl (GX cy ad tk sp nm tp kp cu se ur ab lo im sy un en ra li i2) s.heap) : W p l e ({ frames := 0, cells := 0, slots := 0, locals := 0 } : Room) s m args below meth c s.heap [] 0 0 (MQ below (QP (some (.int q))) args s 0 0 (fun _ => False)) (F0 m 0 ls []) := by
  obtain ⟨hx, hb, hml, hown, hts, hr, hlk⟩ := id C
  unfold X1_stop at h
  refine lv_aload_n hx hb dX1_stop_0 rfl (lv_at hl 0 rfl) ?_
  refine gX3_3 (v := cu.2.2.1) C hK hP rfl w128 dX1_stop_1 ?_
  obtain rfl := h
  exact W.iret hx hb hr (fun t ht _ => ⟨rfl, ht⟩) (fun _ h9 => by cases h9) dX1_stop_4 hlk
theorem kX1_stop   {q : Int32} (h : X1_stop cu = q) : Met l yX1_stop (.code yX1_stop cX1_stop 1 (some .int) :: WA) ({ frames := 0, cells := 0, slots := 0, locals := 0 } : Room) (va_Pc [.ref (ad 3)] (PR D cy (GX cy ad tk sp nm tp kp cu se ur ab lo im sy un en ra li i2))) (QP (some (.int q))) 0 0 (fun _ => False) :=
  met_of (by decide) (Nat.le_of_ble_eq_true rfl) (fun p e s m below meth c ls C hP hK hN hl => bX1_stop_0 C hK hN h hl hP)
def X1_sound (cu : Tcu)  : Int32 := (if cu.2.2.2.1 = 0 then (1 : Int32) else (0 : Int32))
set_option maxRecDepth 20000 in
theorem bX1_sound_0 (C : Cx p s m args meth c cX1_sound 1 (some .boolean) RX1 (.code yX1_sound cX1_sound 1 (some .boolean))) (hK : va_K D vwCl (tysX cy) s) (hN : NW s)  {q : Int32}   (h : X1_sound cu = q) {ls : Array Slot} (hl : lv_has ls 1 [(0, .ref (ad 3))]) (hP : va_P D vwCl (GX cy ad tk sp nm tp kp cu se ur ab lo im sy un en ra li i2) s.heap) : W p l e ({ frames := 0, cells := 0, slots := 0, locals := 0 } : Room) s m args below meth c s.heap [] 0 0 (MQ below (QP (some (.int q))) args s 0 0 (fun _ => False)) (F0 m 0 ls []) := by
  obtain ⟨hx, hb, hml, hown, hts, hr, hlk⟩ := id C
  unfold X1_sound at h
  refine lv_aload_n hx hb dX1_sound_0 rfl (lv_at hl 0 rfl) ?_
  refine gX3_4 (v := cu.2.2.2.1) C hK hP rfl w129 dX1_sound_1 ?_
  refine lv_if_ne (tgt := 11) hx hb dX1_sound_4 (by decide) (fun c1 => ?_) (fun c1 => ?_)
  · rw [if_neg c1] at h
    refine lv_iconst (v := (0 : Int32)) hx hb dX1_sound_11 (by decide) ?_
    obtain rfl := h
    exact W.zret (ty := .boolean) hx hb hr (by decide) (fun t ht _ => ⟨rfl, ht⟩) (fun _ h9 => by cases h9) dX1_sound_12 hlk
  · rw [if_pos c1] at h
    refine lv_iconst (v := (1 : Int32)) hx hb dX1_sound_7 (by decide) ?_
    refine lv_goto (tgt := 12) hx hb dX1_sound_8 (by decide) ?_
    obtain rfl := h
    exact W.zret (ty := .boolean) hx hb hr (by decide) (fun t ht _ => ⟨rfl, ht⟩) (fun _ h9 => by cases h9) dX1_sound_12 hlk
theorem kX1_sound   {q : Int32} (h : X1_sound cu = q) : Met l yX1_sound (.code yX1_sound cX1_sound 1 (some .boolean) :: WA) ({ frames := 0, cells := 0, slots := 0, locals := 0 } : Room) (va_Pc [.ref (ad 3)] (PR D cy (GX cy ad tk sp nm tp kp cu se ur ab lo im sy un en ra li i2))) (QP (some (.int q))) 0 0 (fun _ => False) :=
  met_of (by decide) (Nat.le_of_ble_eq_true rfl) (fun p e s m below meth c ls C hP hK hN hl => bX1_sound_0 C hK hN h hl hP)
def X1_faultNumber (cu : Tcu)  : Int32 := cu.2.2.2.1
set_option maxRecDepth 20000 in
theorem bX1_faultNumber_0 (C : Cx p s m args meth c cX1_faultNumber 1 (some .int) RX1 (.code yX1_faultNumber cX1_faultNumber 1 (some .int))) (hK : va_K D vwCl (tysX cy) s) (hN : NW s)  {q : Int32}   (h : X1_faultNumber cu = q) {ls : Array Slot} (hl : lv_has ls 1 [(0, .ref (ad 3))]) (hP : va_P D vwCl (GX cy ad tk sp nm tp kp cu se ur ab lo im sy un en ra li i2) s.heap) : W p l e ({ frames := 0, cells := 0, slots := 0, locals := 0 } : Room) s m args below meth c s.heap [] 0 0 (MQ below (QP (some (.int q))) args s 0 0 (fun _ => False)) (F0 m 0 ls []) := by
  obtain ⟨hx, hb, hml, hown, hts, hr, hlk⟩ := id C
  unfold X1_faultNumber at h
  refine lv_aload_n hx hb dX1_faultNumber_0 rfl (lv_at hl 0 rfl) ?_
  refine gX3_4 (v := cu.2.2.2.1) C hK hP rfl w129 dX1_faultNumber_1 ?_
  obtain rfl := h
  exact W.iret hx hb hr (fun t ht _ => ⟨rfl, ht⟩) (fun _ h9 => by cases h9) dX1_faultNumber_4 hlk
theorem kX1_faultNumber   {q : Int32} (h : X1_faultNumber cu = q) : Met l yX1_faultNumber (.code yX1_faultNumber cX1_faultNumber 1 (some .int) :: WA) ({ frames := 0, cells := 0, slots := 0, locals := 0 } : Room) (va_Pc [.ref (ad 3)] (PR D cy (GX cy ad tk sp nm tp kp cu se ur ab lo im sy un en ra li i2))) (QP (some (.int q))) 0 0 (fun _ => False) :=
  met_of (by decide) (Nat.le_of_ble_eq_true rfl) (fun p e s m below meth c ls C hP hK hN hl => bX1_faultNumber_0 C hK hN h hl hP)
def X1_faultPlace (cu : Tcu)  : Int32 := cu.2.2.2.2
set_option maxRecDepth 20000 in
theorem bX1_faultPlace_0 (C : Cx p s m args meth c cX1_faultPlace 1 (some .int) RX1 (.code yX1_faultPlace cX1_faultPlace 1 (some .int))) (hK : va_K D vwCl (tysX cy) s) (hN : NW s)  {q : Int32}   (h : X1_faultPlace cu = q) {ls : Array Slot} (hl : lv_has ls 1 [(0, .ref (ad 3))]) (hP : va_P D vwCl (GX cy ad tk sp nm tp kp cu se ur ab lo im sy un en ra li i2) s.heap) : W p l e ({ frames := 0, cells := 0, slots := 0, locals := 0 } : Room) s m args below meth c s.heap [] 0 0 (MQ below (QP (some (.int q))) args s 0 0 (fun _ => False)) (F0 m 0 ls []) := by
  obtain ⟨hx, hb, hml, hown, hts, hr, hlk⟩ := id C
  unfold X1_faultPlace at h
  refine lv_aload_n hx hb dX1_faultPlace_0 rfl (lv_at hl 0 rfl) ?_
  refine gX3_5 (v := cu.2.2.2.2) C hK hP rfl w130 dX1_faultPlace_1 ?_
  obtain rfl := h
  exact W.iret hx hb hr (fun t ht _ => ⟨rfl, ht⟩) (fun _ h9 => by cases h9) dX1_faultPlace_4 hlk
theorem kX1_faultPlace   {q : Int32} (h : X1_faultPlace cu = q) : Met l yX1_faultPlace (.code yX1_faultPlace cX1_faultPlace 1 (some .int) :: WA) ({ frames := 0, cells := 0, slots := 0, locals := 0 } : Room) (va_Pc [.ref (ad 3)] (PR D cy (GX cy ad tk sp nm tp kp cu se ur ab lo im sy un en ra li i2))) (QP (some (.int q))) 0 0 (fun _ => False) :=
  met_of (by decide) (Nat.le_of_ble_eq_true rfl) (fun p e s m below meth c ls C hP hK hN hl => bX1_faultPlace_0 C hK hN h hl hP)
def X1_refuse (cu : Tcu) (v1 : Int32) (v2 : Int32) : Tcu := (if cu.2.2.2.1 = 0 then (cu.1, cu.2.1, cu.2.2.1, v1, v2) else cu)
set_option maxRecDepth 20000 in
theorem bX1_refuse_0 (C : Cx p s m args meth c cX1_refuse 3 none RX1 (.code yX1_refuse cX1_refuse 3 none)) (hI : Apart ad 89) (hK : va_K D vwCl (tysX cy) s) (hN : NW s)  {q : Tcu}  {v1 : Int32} {v2 : Int32} (h : X1_refuse cu v1 v2 = q) {ls : Array Slot} (hl : lv_has ls 3 [(0, .ref (ad 3)), (1, .int v1), (2, .int v2)]) {H : Heap} {locs : List Loc} (hP : va_P D vwCl (GX cy ad tk sp nm tp kp cu se ur ab lo im sy un en ra li i2) H) (hS : va_S (Ac ad 89) s.heap H locs) : W p l e ({ frames := 0, cells := 0, slots := 0, locals := 0 } : Room) s m args below meth c H locs 0 0 (MQ below (QR none D (GX cy ad tk sp nm tp kp q se ur ab lo im sy un en ra li i2) (Ac ad 89)) args s 0 0 (Ac ad 89)) (F0 m 0 ls []) := by
  obtain ⟨hx, hb, hml, hown, hts, hr, hlk⟩ := id C
  unfold X1_refuse at h
  refine lv_aload_n hx hb dX1_refuse_0 rfl (lv_at hl 0 rfl) ?_
  refine gX3_4 (v := cu.2.2.2.1) C hK hP rfl w129 dX1_refuse_1 ?_
  refine lv_if_ne (tgt := 17) hx hb dX1_refuse_4 (by decide) (fun c1 => ?_) (fun c1 => ?_)
  · rw [if_neg c1] at h
    obtain rfl := h
    exact W.vret hx hb hr (fun t ht _ => ⟨rfl, by rw [ht]; exact hP, hS.F ht⟩) hS.2.2 dX1_refuse_17 hlk
  · rw [if_pos c1] at h
    refine lv_aload_n hx hb dX1_refuse_7 rfl (lv_at hl 0 rfl) ?_
    refine lv_iload_n hx hb dX1_refuse_8 rfl (lv_at hl 1 rfl) ?_
    refine pX3_4 (v := v1) C hI hK hP hS w129 dX1_refuse_9 (fun H locs hP hS => ?_)
    have hP : va_P D vwCl (GX cy ad tk sp nm tp kp (cu.1, cu.2.1, cu.2.2.1, v1, cu.2.2.2.2) se ur ab lo im sy un en ra li i2) H := hP
    refine lv_aload_n hx hb dX1_refuse_12 rfl (lv_at hl 0 rfl) ?_
    refine lv_iload_n hx hb dX1_refuse_13 rfl (lv_at hl 2 rfl) ?_
    refine pX3_5 (v := v2) C hI hK hP hS w130 dX1_refuse_14 (fun H locs hP hS => ?_)
    have hP : va_P D vwCl (GX cy ad tk sp nm tp kp (cu.1, cu.2.1, cu.2.2.1, v1, v2) se ur ab lo im sy un en ra li i2) H := hP
    obtain rfl := h
    exact W.vret hx hb hr (fun t ht _ => ⟨rfl, by rw [ht]; exact hP, hS.F ht⟩) hS.2.2 dX1_refuse_17 hlk
theorem kX1_refuse (hI : Apart ad 89) {v1 : Int32} {v2 : Int32} {q : Tcu} (h : X1_refuse cu v1 v2 = q) : Met l yX1_refuse (.code yX1_refuse cX1_refuse 3 none :: WA) ({ frames := 0, cells := 0, slots := 0, locals := 0 } : Room) (va_Pc [.ref (ad 3), .int v1, .int v2] (PR D cy (GX cy ad tk sp nm tp kp cu se ur ab lo im sy un en ra li i2))) (QR none D (GX cy ad tk sp nm tp kp q se ur ab lo im sy un en ra li i2) (Ac ad 89)) 0 0 (Ac ad 89) :=
  met_of (by decide) (Nat.le_of_ble_eq_true rfl) (fun p e s m below meth c ls C hP hK hN hl => bX1_refuse_0 C hI hK hN h hl hP va_S.rf)
def X1_hasLeft (cu : Tcu) (v1 : Int64) : Int32 := (if v1 < (0 : Int64) then (0 : Int32) else (if (((cu.2.2.1 - cu.2.1)).toInt64) < v1 then (0 : Int32) else (1 : Int32)))
set_option maxRecDepth 20000 in
theorem bX1_hasLeft_0 (C : Cx p s m args meth c cX1_hasLeft 3 (some .boolean) RX1 (.code yX1_hasLeft cX1_hasLeft 3 (some .boolean))) (hK : va_K D vwCl (tysX cy) s) (hN : NW s)  {q : Int32}  {v1 : Int64} (h : X1_hasLeft cu v1 = q) {ls : Array Slot} (hl : lv_has ls 3 [(0, .ref (ad 3)), (1, .long v1)]) (hP : va_P D vwCl (GX cy ad tk sp nm tp kp cu se ur ab lo im sy un en ra li i2) s.heap) : W p l e ({ frames := 0, cells := 0, slots := 0, locals := 0 } : Room) s m args below meth c s.heap [] 0 0 (MQ below (QP (some (.int q))) args s 0 0 (fun _ => False)) (F0 m 0 ls []) := by
  obtain ⟨hx, hb, hml, hown, hts, hr, hlk⟩ := id C
  unfold X1_hasLeft at h
  refine lv_lload_n hx hb dX1_hasLeft_0 rfl (lv_at hl 1 rfl) ?_
  refine lv_lconst (v := (0 : Int64)) hx hb dX1_hasLeft_1 (by decide) ?_
  refine lc_lt (tgt := 25) hx hb dX1_hasLeft_2 dX1_hasLeft_3 (by decide) (fun c1 => ?_) (fun c1 => ?_)
  · rw [if_pos c1] at h
    refine lv_iconst (v := (0 : Int32)) hx hb dX1_hasLeft_25 (by decide) ?_
    obtain rfl := h
    exact W.zret (ty := .boolean) hx hb hr (by decide) (fun t ht _ => ⟨rfl, ht⟩) (fun _ h9 => by cases h9) dX1_hasLeft_26 hlk
  · rw [if_neg c1] at h
    refine lv_lload_n hx hb dX1_hasLeft_6 rfl (lv_at hl 1 rfl) ?_
    refine lv_aload_n hx hb dX1_hasLeft_7 rfl (lv_at hl 0 rfl) ?_
    refine gX3_3 (v := cu.2.2.1) C hK hP rfl w128 dX1_hasLeft_8 ?_
    refine lv_aload_n hx hb dX1_hasLeft_11 rfl (lv_at hl 0 rfl) ?_
    refine gX3_2 (v := cu.2.1) C hK hP rfl w127 dX1_hasLeft_12 ?_
    refine lv_isub hx hb dX1_hasLeft_15 ?_
    refine lv_i2l (v := (((cu.2.2.1 - cu.2.1)).toInt64)) hx hb dX1_hasLeft_16 rfl ?_
    refine lc_gt (tgt := 25) hx hb dX1_hasLeft_17 dX1_hasLeft_18 (by decide) (fun c2 => ?_) (fun c2 => ?_)
    · rw [if_pos c2] at h
      refine lv_iconst (v := (0 : Int32)) hx hb dX1_hasLeft_25 (by decide) ?_
      obtain rfl := h
      exact W.zret (ty := .boolean) hx hb hr (by decide) (fun t ht _ => ⟨rfl, ht⟩) (fun _ h9 => by cases h9) dX1_hasLeft_26 hlk
    · rw [if_neg c2] at h
      refine lv_iconst (v := (1 : Int32)) hx hb dX1_hasLeft_21 (by decide) ?_
      refine lv_goto (tgt := 26) hx hb dX1_hasLeft_22 (by decide) ?_
      obtain rfl := h
      exact W.zret (ty := .boolean) hx hb hr (by decide) (fun t ht _ => ⟨rfl, ht⟩) (fun _ h9 => by cases h9) dX1_hasLeft_26 hlk
theorem kX1_hasLeft  {v1 : Int64} {q : Int32} (h : X1_hasLeft cu v1 = q) : Met l yX1_hasLeft (.code yX1_hasLeft cX1_hasLeft 3 (some .boolean) :: WA) ({ frames := 0, cells := 0, slots := 0, locals := 0 } : Room) (va_Pc [.ref (ad 3), .long v1] (PR D cy (GX cy ad tk sp nm tp kp cu se ur ab lo im sy un en ra li i2))) (QP (some (.int q))) 0 0 (fun _ => False) :=
  met_of (by decide) (Nat.le_of_ble_eq_true rfl) (fun p e s m below meth c ls C hP hK hN hl => bX1_hasLeft_0 C hK hN h hl hP)
def X1_lies (cu : Tcu) (v1 : Int64) (v3 : Int64) : Int32 := (if v1 < (0 : Int64) then (0 : Int32) else (if v3 < (0 : Int64) then (0 : Int32) else (if ((cu.1).toInt64) < v1 then (0 : Int32) else (if (((cu.1).toInt64) - v1) < v3 then (0 : Int32) else (1 : Int32)))))
set_option maxRecDepth 20000 in
theorem bX1_lies_0 (C : Cx p s m args meth c cX1_lies 5 (some .boolean) RX1 (.code yX1_lies cX1_lies 5 (some .boolean))) (hK : va_K D vwCl (tysX cy) s) (hN : NW s)  {q : Int32}  {v1 : Int64} {v3 : Int64} (h : X1_lies cu v1 v3 = q) {ls : Array Slot} (hl : lv_has ls 5 [(0, .ref (ad 3)), (1, .long v1), (3, .long v3)]) (hP : va_P D vwCl (GX cy ad tk sp nm tp kp cu se ur ab lo im sy un en ra li i2) s.heap) : W p l e ({ frames := 0, cells := 0, slots := 0, locals := 0 } : Room) s m args below meth c s.heap [] 0 0 (MQ below (QP (some (.int q))) args s 0 0 (fun _ => False)) (F0 m 0 ls []) := by
  obtain ⟨hx, hb, hml, hown, hts, hr, hlk⟩ := id C
  unfold X1_lies at h
  refine lv_lload_n hx hb dX1_lies_0 rfl (lv_at hl 1 rfl) ?_
  refine lv_lconst (v := (0 : Int64)) hx hb dX1_lies_1 (by decide) ?_
  refine lc_lt (tgt := 38) hx hb dX1_lies_2 dX1_lies_3 (by decide) (fun c1 => ?_) (fun c1 => ?_)
  · rw [if_pos c1] at h
    refine lv_iconst (v := (0 : Int32)) hx hb dX1_lies_38 (by decide) ?_
    obtain rfl := h
    exact W.zret (ty := .boolean) hx hb hr (by decide) (fun t ht _ => ⟨rfl, ht⟩) (fun _ h9 => by cases h9) dX1_lies_39 hlk
  · rw [if_neg c1] at h
    refine lv_lload_n hx hb dX1_lies_6 rfl (lv_at hl 2 rfl) ?_
    refine lv_lconst (v := (0 : Int64)) hx hb dX1_lies_7 (by decide) ?_
    refine lc_lt (tgt := 38) hx hb dX1_lies_8 dX1_lies_9 (by decide) (fun c2 => ?_) (fun c2 => ?_)
    · rw [if_pos c2] at h
      refine lv_iconst (v := (0 : Int32)) hx hb dX1_lies_38 (by decide) ?_
      obtain rfl := h
      exact W.zret (ty := .boolean) hx hb hr (by decide) (fun t ht _ => ⟨rfl, ht⟩) (fun _ h9 => by cases h9) dX1_lies_39 hlk
    · rw [if_neg c2] at h
      refine lv_lload_n hx hb dX1_lies_12 rfl (lv_at hl 1 rfl) ?_
      refine lv_aload_n hx hb dX1_lies_13 rfl (lv_at hl 0 rfl) ?_
      refine gX3_1 (v := cu.1) C hK hP rfl w126 dX1_lies_14 ?_
      refine lv_i2l (v := ((cu.1).toInt64)) hx hb dX1_lies_17 rfl ?_
      refine lc_gt (tgt := 38) hx hb dX1_lies_18 dX1_lies_19 (by decide) (fun c3 => ?_) (fun c3 => ?_)
      · rw [if_pos c3] at h
        refine lv_iconst (v := (0 : Int32)) hx hb dX1_lies_38 (by decide) ?_
        obtain rfl := h
        exact W.zret (ty := .boolean) hx hb hr (by decide) (fun t ht _ => ⟨rfl, ht⟩) (fun _ h9 => by cases h9) dX1_lies_39 hlk
      · rw [if_neg c3] at h
        refine lv_lload_n hx hb dX1_lies_22 rfl (lv_at hl 2 rfl) ?_
        refine lv_aload_n hx hb dX1_lies_23 rfl (lv_at hl 0 rfl) ?_
        refine gX3_1 (v := cu.1) C hK hP rfl w126 dX1_lies_24 ?_
        refine lv_i2l (v := ((cu.1).toInt64)) hx hb dX1_lies_27 rfl ?_
        refine lv_lload_n hx hb dX1_lies_28 rfl (lv_at hl 1 rfl) ?_
        refine lv_lsub hx hb dX1_lies_29 ?_
        refine lc_gt (tgt := 38) hx hb dX1_lies_30 dX1_lies_31 (by decide) (fun c4 => ?_) (fun c4 => ?_)
        · rw [if_pos c4] at h
          refine lv_iconst (v := (0 : Int32)) hx hb dX1_lies_38 (by decide) ?_
          obtain rfl := h
          exact W.zret (ty := .boolean) hx hb hr (by decide) (fun t ht _ => ⟨rfl, ht⟩) (fun _ h9 => by cases h9) dX1_lies_39 hlk
        · rw [if_neg c4] at h
          refine lv_iconst (v := (1 : Int32)) hx hb dX1_lies_34 (by decide) ?_
          refine lv_goto (tgt := 39) hx hb dX1_lies_35 (by decide) ?_
          obtain rfl := h
          exact W.zret (ty := .boolean) hx hb hr (by decide) (fun t ht _ => ⟨rfl, ht⟩) (fun _ h9 => by cases h9) dX1_lies_39 hlk
theorem kX1_lies  {v1 : Int64} {v3 : Int64} {q : Int32} (h : X1_lies cu v1 v3 = q) : Met l yX1_lies (.code yX1_lies cX1_lies 5 (some .boolean) :: WA) ({ frames := 0, cells := 0, slots := 0, locals := 0 } : Room) (va_Pc [.ref (ad 3), .long v1, .long v3] (PR D cy (GX cy ad tk sp nm tp kp cu se ur ab lo im sy un en ra li i2))) (QP (some (.int q))) 0 0 (fun _ => False) :=
  met_of (by decide) (Nat.le_of_ble_eq_true rfl) (fun p e s m below meth c ls C hP hK hN hl => bX1_lies_0 C hK hN h hl hP)
def X1_byteAt (tp : Ttp) (v1 : Int32) : Option (Int32) := (if v1 < 0 then some (0 : Int32) else (if v1 < (8000 : Int32) then (if inb v1 8000 = true then some ((tp (v1).toNatClampNeg) &&& (255 : Int32)) else none) else some (0 : Int32)))
set_option maxRecDepth 20000 in
theorem bX1_byteAt_0 (C : Cx p s m args meth c cX1_byteAt 2 (some .int) RX1 (.code yX1_byteAt cX1_byteAt 2 (some .int))) (hK : va_K D vwCl (tysX cy) s) (hN : NW s)  {q : Int32}  {v1 : Int32} (h : X1_byteAt tp v1 = some q) {ls : Array Slot} (hl : lv_has ls 2 [(0, .ref (ad 3)), (1, .int v1)]) (hP : va_P D vwCl (GX cy ad tk sp nm tp kp cu se ur ab lo im sy un en ra li i2) s.heap) : W p l e ({ frames := 0, cells := 0, slots := 0, locals := 0 } : Room) s m args below meth c s.heap [] 0 0 (MQ below (QP (some (.int q))) args s 0 0 (fun _ => False)) (F0 m 0 ls []) := by
  obtain ⟨hx, hb, hml, hown, hts, hr, hlk⟩ := id C
  unfold X1_byteAt at h
  refine lv_iload_n hx hb dX1_byteAt_0 rfl (lv_at hl 1 rfl) ?_
  refine lv_if_lt (tgt := 26) hx hb dX1_byteAt_1 (by decide) (fun c1 => ?_) (fun c1 => ?_)
  · rw [if_pos c1] at h
    refine lv_iconst (v := (0 : Int32)) hx hb dX1_byteAt_26 (by decide) ?_
    obtain rfl := Option.some.inj h
    exact W.iret hx hb hr (fun t ht _ => ⟨rfl, ht⟩) (fun _ h9 => by cases h9) dX1_byteAt_27 hlk
  · rw [if_neg c1] at h
    refine lv_iload_n hx hb dX1_byteAt_4 rfl (lv_at hl 1 rfl) ?_
    refine lv_aload_n hx hb dX1_byteAt_5 rfl (lv_at hl 0 rfl) ?_
    refine gX3_0 C hK hP w125 dX1_byteAt_6 ?_
    refine lX1 C hK hP dX1_byteAt_9 ?_
    refine b_icmp_ge (tgt := 26) hx hb dX1_byteAt_10 (by decide) (fun c2 => ?_) (fun c2 => ?_)
    · rw [if_neg c2] at h
      refine lv_iconst (v := (0 : Int32)) hx hb dX1_byteAt_26 (by decide) ?_
      obtain rfl := Option.some.inj h
      exact W.iret hx hb hr (fun t ht _ => ⟨rfl, ht⟩) (fun _ h9 => by cases h9) dX1_byteAt_27 hlk
    · rw [if_pos c2] at h
      refine lv_aload_n hx hb dX1_byteAt_13 rfl (lv_at hl 0 rfl) ?_
      refine gX3_0 C hK hP w125 dX1_byteAt_14 ?_
      refine lv_iload_n hx hb dX1_byteAt_17 rfl (lv_at hl 1 rfl) ?_
      obtain ⟨n3, h⟩ := grd h
      refine aX1 (f := tp) C hK hP rfl n3 dX1_byteAt_18 ?_
      refine lv_sipush (v := (255 : Int32)) hx hb dX1_byteAt_19 (by decide) ?_
      refine lv_iand hx hb dX1_byteAt_22 ?_
      refine lv_goto (tgt := 27) hx hb dX1_byteAt_23 (by decide) ?_
      obtain rfl := Option.some.inj h
      exact W.iret hx hb hr (fun t ht _ => ⟨rfl, ht⟩) (fun _ h9 => by cases h9) dX1_byteAt_27 hlk
theorem kX1_byteAt  {v1 : Int32} {q : Int32} (h : X1_byteAt tp v1 = some q) : Met l yX1_byteAt (.code yX1_byteAt cX1_byteAt 2 (some .int) :: WA) ({ frames := 0, cells := 0, slots := 0, locals := 0 } : Room) (va_Pc [.ref (ad 3), .int v1] (PR D cy (GX cy ad tk sp nm tp kp cu se ur ab lo im sy un en ra li i2))) (QP (some (.int q))) 0 0 (fun _ => False) :=
  met_of (by decide) (Nat.le_of_ble_eq_true rfl) (fun p e s m below meth c ls C hP hK hN hl => bX1_byteAt_0 C hK hN h hl hP)
def X1_numberAt_48 (tp : Ttp) (k5 : Int32 → Int32 → Int64 → Int32 → Option (Int64))  (v1 : Int32) (v2 : Int32) (v3 : Int64) (v5 : Int32) (z0 : Int64) : Option (Int64) := k5 v1 v2 (v3 ||| (z0 <<< ((((8 : Int32) * v5)).toInt64 &&& 63))) (v5 + (1 : Int32))
set_option maxRecDepth 20000 in
theorem bX1_numberAt_48 (C : Cx p s m args meth c cX1_numberAt 9 (some .long) RX1 (.code yX1_numberAt cX1_numberAt 9 (some .long))) (hK : va_K D vwCl (tysX cy) s) (hN : NW s) {k5 : Int32 → Int32 → Int64 → Int32 → Option (Int64)} {q : Int64} (hk5 : ∀  {v1 : Int32} {v2 : Int32} {v3 : Int64} {v5 : Int32}, k5 v1 v2 v3 v5 = some q → ∀ {ls : Array Slot}, lv_has ls 9 [(0, .ref (ad 3)), (1, .int v1), (2, .int v2), (3, .long v3), (5, .int v5)] → va_P D vwCl (GX cy ad tk sp nm tp kp cu se ur ab lo im sy un en ra li i2) s.heap → W p l e ({ frames := 0, cells := 0, slots := 0, locals := 0 } : Room) s m args below meth c s.heap [] 0 0 (MQ below (QP (some (.long q))) args s 0 0 (fun _ => False)) (F0 m 5 ls [])) {v1 : Int32} {v2 : Int32} {v3 : Int64} {v5 : Int32} {z0 : Int64} (h : X1_numberAt_48 tp k5 v1 v2 v3 v5 z0 = some q) {ls : Array Slot} (hl : lv_has ls 9 [(0, .ref (ad 3)), (1, .int v1), (2, .int v2), (3, .long v3), (5, .int v5)]) (hP : va_P D vwCl (GX cy ad tk sp nm tp kp cu se ur ab lo im sy un en ra li i2) s.heap) : W p l e ({ frames := 0, cells := 0, slots := 0, locals := 0 } : Room) s m args below meth c s.heap [] 0 0 (MQ below (QP (some (.long q))) args s 0 0 (fun _ => False)) (F0 m 48 ls [.long z0]) := by
  obtain ⟨hx, hb, hml, hown, hts, hr, hlk⟩ := id C
  unfold X1_numberAt_48 at h
  refine lv_lstore (lv' := [(7, .long z0), (0, .ref (ad 3)), (1, .int v1), (2, .int v2), (3, .long v3), (5, .int v5)]) hx hb dX1_numberAt_48 hl (by decide) rfl (fun ls hl => ?_)
  refine lv_lload_n hx hb dX1_numberAt_50 rfl (lv_at hl 4 rfl) ?_
  refine lv_lload hx hb dX1_numberAt_51 (lv_at hl 0 rfl) ?_
  refine lv_bipush (v := (8 : Int32)) hx hb dX1_numberAt_53 (by decide) ?_
  refine lv_iload hx hb dX1_numberAt_55 (lv_at hl 5 rfl) ?_
  refine lv_imul hx hb dX1_numberAt_57 ?_
  refine lv_lshl (v := (z0 <<< ((((8 : Int32) * v5)).toInt64 &&& 63))) hx hb dX1_numberAt_58 rfl ?_
  refine lv_lor hx hb dX1_numberAt_59 ?_
  refine lv_lstore_n (lv' := [(3, .long (v3 ||| (z0 <<< ((((8 : Int32) * v5)).toInt64 &&& 63)))), (7, .long z0), (0, .ref (ad 3)), (1, .int v1), (2, .int v2), (5, .int v5)]) hx hb dX1_numberAt_60 rfl hl (by decide) rfl (fun ls hl => ?_)
  refine lv_iinc (v := (v5 + (1 : Int32))) (lv' := [(5, .int (v5 + (1 : Int32))), (3, .long (v3 ||| (z0 <<< ((((8 : Int32) * v5)).toInt64 &&& 63)))), (7, .long z0), (0, .ref (ad 3)), (1, .int v1), (2, .int v2)]) hx hb dX1_numberAt_61 hl (k := 5) rfl rfl (by decide) rfl (fun ls hl => ?_)
  refine lv_goto (tgt := 5) hx hb dX1_numberAt_64 (by decide) ?_
  exact hk5 h (lv_sub hl [3, 4, 5, 1, 0] rfl) hP
def X1_numberAt_47 (tp : Ttp) (k5 : Int32 → Int32 → Int64 → Int32 → Option (Int64))  (v1 : Int32) (v2 : Int32) (v3 : Int64) (v5 : Int32) : Option (Int64) := X1_numberAt_48 tp k5 v1 v2 v3 v5 (0 : Int64)
set_option maxRecDepth 20000 in
theorem bX1_numberAt_47 (C : Cx p s m args meth c cX1_numberAt 9 (some .long) RX1 (.code yX1_numberAt cX1_numberAt 9 (some .long))) (hK : va_K D vwCl (tysX cy) s) (hN : NW s) {k5 : Int32 → Int32 → Int64 → Int32 → Option (Int64)} {q : Int64} (hk5 : ∀  {v1 : Int32} {v2 : Int32} {v3 : Int64} {v5 : Int32}, k5 v1 v2 v3 v5 = some q → ∀ {ls : Array Slot}, lv_has ls 9 [(0, .ref (ad 3)), (1, .int v1), (2, .int v2), (3, .long v3), (5, .int v5)] → va_P D vwCl (GX cy ad tk sp nm tp kp cu se ur ab lo im sy un en ra li i2) s.heap → W p l e ({ frames := 0, cells := 0, slots := 0, locals := 0 } : Room) s m args below meth c s.heap [] 0 0 (MQ below (QP (some (.long q))) args s 0 0 (fun _ => False)) (F0 m 5 ls [])) {v1 : Int32} {v2 : Int32} {v3 : Int64} {v5 : Int32} (h : X1_numberAt_47 tp k5 v1 v2 v3 v5 = some q) {ls : Array Slot} (hl : lv_has ls 9 [(0, .ref (ad 3)), (1, .int v1), (2, .int v2), (3, .long v3), (5, .int v5)]) (hP : va_P D vwCl (GX cy ad tk sp nm tp kp cu se ur ab lo im sy un en ra li i2) s.heap) : W p l e ({ frames := 0, cells := 0, slots := 0, locals := 0 } : Room) s m args below meth c s.heap [] 0 0 (MQ below (QP (some (.long q))) args s 0 0 (fun _ => False)) (F0 m 47 ls []) := by
  obtain ⟨hx, hb, hml, hown, hts, hr, hlk⟩ := id C
  unfold X1_numberAt_47 at h
  refine lv_lconst (v := (0 : Int64)) hx hb dX1_numberAt_47 (by decide) ?_
  exact bX1_numberAt_48 C hK hN @hk5 h (lv_sub hl [0, 1, 2, 3, 4] rfl) hP
def X1_numberAt_5b (tp : Ttp)  (k5 : Int32 → Int32 → Int64 → Int32 → Option (Int64))  (v1 : Int32) (v2 : Int32) (v3 : Int64) (v5 : Int32) : Option (Int64) := (if v5 < v2 then (if (v1 + v5) < 0 then X1_numberAt_47 tp k5 v1 v2 v3 v5 else (if (v1 + v5) < (8000 : Int32) then (if inb (v1 + v5) 8000 = true then X1_numberAt_48 tp k5 v1 v2 v3 v5 ((((tp ((v1 + v5)).toNatClampNeg) &&& (255 : Int32))).toInt64) else none) else X1_numberAt_47 tp k5 v1 v2 v3 v5)) else some v3)
def X1_numberAt_5 (tp : Ttp)  (n : Nat) (st : Int32 × Int32 × Int64 × Int32) : Option (Int64) := lp (fun rec st => X1_numberAt_5b tp  (fun a0 a1 a2 a3 => rec (a0, a1, a2, a3)) st.1 st.2.1 st.2.2.1 st.2.2.2) n st
set_option maxRecDepth 20000 in
theorem bX1_numberAt_5 (C : Cx p s m args meth c cX1_numberAt 9 (some .long) RX1 (.code yX1_numberAt cX1_numberAt 9 (some .long))) (hK : va_K D vwCl (tysX cy) s) (hN : NW s)  {q : Int64}  : ∀ (n : Nat)  {v1 : Int32} {v2 : Int32} {v3 : Int64} {v5 : Int32}, X1_numberAt_5 tp  n (v1, v2, v3, v5) = some q → ∀ {ls : Array Slot}, lv_has ls 9 [(0, .ref (ad 3)), (1, .int v1), (2, .int v2), (3, .long v3), (5, .int v5)] → va_P D vwCl (GX cy ad tk sp nm tp kp cu se ur ab lo im sy un en ra li i2) s.heap → W p l e ({ frames := 0, cells := 0, slots := 0, locals := 0 } : Room) s m args below meth c s.heap [] 0 0 (MQ below (QP (some (.long q))) args s 0 0 (fun _ => False)) (F0 m 5 ls []) := by
  obtain ⟨hx, hb, hml, hown, hts, hr, hlk⟩ := id C
  intro n
  induction n with
  | zero =>
    intro v1 v2 v3 v5 h ls hl hP
    have h : (none : Option (Int64)) = some q := h
    cases h
  | succ n ih =>
    intro v1 v2 v3 v5 h ls hl hP
    have h : X1_numberAt_5b tp  (fun a0 a1 a2 a3 => X1_numberAt_5 tp  n (a0, a1, a2, a3)) v1 v2 v3 v5 = some q := h
    unfold X1_numberAt_5b at h
    refine lv_iload hx hb dX1_numberAt_5 (lv_at hl 4 rfl) ?_
    refine lv_iload_n hx hb dX1_numberAt_7 rfl (lv_at hl 2 rfl) ?_
    refine b_icmp_ge (tgt := 67) hx hb dX1_numberAt_8 (by decide) (fun c1 => ?_) (fun c1 => ?_)
    · rw [if_neg c1] at h
      refine lv_lload_n hx hb dX1_numberAt_67 rfl (lv_at hl 3 rfl) ?_
      obtain rfl := Option.some.inj h
      exact W.lret hx hb hr (fun t ht _ => ⟨rfl, ht⟩) (fun _ h9 => by cases h9) dX1_numberAt_68 hlk
    · rw [if_pos c1] at h
      refine lv_iload_n hx hb dX1_numberAt_11 rfl (lv_at hl 1 rfl) ?_
      refine lv_iload hx hb dX1_numberAt_12 (lv_at hl 4 rfl) ?_
      refine lv_iadd hx hb dX1_numberAt_14 ?_
      refine lv_istore (lv' := [(6, .int (v1 + v5)), (0, .ref (ad 3)), (1, .int v1), (2, .int v2), (3, .long v3), (5, .int v5)]) hx hb dX1_numberAt_15 hl (by decide) rfl (fun ls hl => ?_)
      refine lv_iload hx hb dX1_numberAt_17 (lv_at hl 0 rfl) ?_
      refine lv_if_lt (tgt := 47) hx hb dX1_numberAt_19 (by decide) (fun c2 => ?_) (fun c2 => ?_)
      · rw [if_pos c2] at h
        exact bX1_numberAt_47 C hK hN @ih h (lv_sub hl [1, 2, 3, 4, 5] rfl) hP
      · rw [if_neg c2] at h
        refine lv_iload hx hb dX1_numberAt_22 (lv_at hl 0 rfl) ?_
        refine lv_aload_n hx hb dX1_numberAt_24 rfl (lv_at hl 1 rfl) ?_
        refine gX3_0 C hK hP w125 dX1_numberAt_25 ?_
        refine lX1 C hK hP dX1_numberAt_28 ?_
        refine b_icmp_ge (tgt := 47) hx hb dX1_numberAt_29 (by decide) (fun c3 => ?_) (fun c3 => ?_)
        · rw [if_neg c3] at h
          exact bX1_numberAt_47 C hK hN @ih h (lv_sub hl [1, 2, 3, 4, 5] rfl) hP
        · rw [if_pos c3] at h
          refine lv_aload_n hx hb dX1_numberAt_32 rfl (lv_at hl 1 rfl) ?_
          refine gX3_0 C hK hP w125 dX1_numberAt_33 ?_
          refine lv_iload hx hb dX1_numberAt_36 (lv_at hl 0 rfl) ?_
          obtain ⟨n4, h⟩ := grd h
          refine aX1 (f := tp) C hK hP rfl n4 dX1_numberAt_38 ?_
          refine lv_sipush (v := (255 : Int32)) hx hb dX1_numberAt_39 (by decide) ?_
          refine lv_iand hx hb dX1_numberAt_42 ?_
          refine lv_i2l (v := ((((tp ((v1 + v5)).toNatClampNeg) &&& (255 : Int32))).toInt64)) hx hb dX1_numberAt_43 rfl ?_
          refine lv_goto (tgt := 48) hx hb dX1_numberAt_44 (by decide) ?_
          exact bX1_numberAt_48 C hK hN @ih h (lv_sub hl [1, 2, 3, 4, 5] rfl) hP
def X1_numberAt (tp : Ttp) (v1 : Int32) (v2 : Int32) : Option (Int64) := X1_numberAt_5 tp FU (v1, v2, (0 : Int64), (0 : Int32))
set_option maxRecDepth 20000 in
theorem bX1_numberAt_0 (C : Cx p s m args meth c cX1_numberAt 9 (some .long) RX1 (.code yX1_numberAt cX1_numberAt 9 (some .long))) (hK : va_K D vwCl (tysX cy) s) (hN : NW s)  {q : Int64}  {v1 : Int32} {v2 : Int32} (h : X1_numberAt tp v1 v2 = some q) {ls : Array Slot} (hl : lv_has ls 9 [(0, .ref (ad 3)), (1, .int v1), (2, .int v2)]) (hP : va_P D vwCl (GX cy ad tk sp nm tp kp cu se ur ab lo im sy un en ra li i2) s.heap) : W p l e ({ frames := 0, cells := 0, slots := 0, locals := 0 } : Room) s m args below meth c s.heap [] 0 0 (MQ below (QP (some (.long q))) args s 0 0 (fun _ => False)) (F0 m 0 ls []) := by
  obtain ⟨hx, hb, hml, hown, hts, hr, hlk⟩ := id C
  unfold X1_numberAt at h
  refine lv_lconst (v := (0 : Int64)) hx hb dX1_numberAt_0 (by decide) ?_
  refine lv_lstore_n (lv' := [(3, .long (0 : Int64)), (0, .ref (ad 3)), (1, .int v1), (2, .int v2)]) hx hb dX1_numberAt_1 rfl hl (by decide) rfl (fun ls hl => ?_)
  refine lv_iconst (v := (0 : Int32)) hx hb dX1_numberAt_2 (by decide) ?_
  refine lv_istore (lv' := [(5, .int (0 : Int32)), (3, .long (0 : Int64)), (0, .ref (ad 3)), (1, .int v1), (2, .int v2)]) hx hb dX1_numberAt_3 hl (by decide) rfl (fun ls hl => ?_)
  exact bX1_numberAt_5 C hK hN FU h (lv_sub hl [2, 3, 4, 1, 0] rfl) hP
theorem kX1_numberAt  {v1 : Int32} {v2 : Int32} {q : Int64} (h : X1_numberAt tp v1 v2 = some q) : Met l yX1_numberAt (.code yX1_numberAt cX1_numberAt 9 (some .long) :: WA) ({ frames := 0, cells := 0, slots := 0, locals := 0 } : Room) (va_Pc [.ref (ad 3), .int v1, .int v2] (PR D cy (GX cy ad tk sp nm tp kp cu se ur ab lo im sy un en ra li i2))) (QP (some (.long q))) 0 0 (fun _ => False) :=
  met_of (by decide) (Nat.le_of_ble_eq_true rfl) (fun p e s m below meth c ls C hP hK hN hl => bX1_numberAt_0 C hK hN h hl hP)
def X1_number (tp : Ttp) (cu : Tcu) (v1 : Int32) : Option (Int64 × Tcu) := (if (X1_sound cu) = 0 then some ((0 : Int64), cu) else (if (X1_hasLeft cu ((v1).toInt64)) = 0 then (letq (X1_refuse cu (1 : Int32) cu.2.1) fun q5 => some ((0 : Int64), q5)) else ((X1_numberAt tp cu.2.1 v1).bind fun q3 => some (q3, (cu.1, (cu.2.1 + v1), cu.2.2.1, cu.2.2.2.1, cu.2.2.2.2)))))
set_option maxRecDepth 20000 in
theorem bX1_number_0 (C : Cx p s m args meth c cX1_number 4 (some .long) RX1 (.code yX1_number cX1_number 4 (some .long))) (hI : Apart ad 89) (hK : va_K D vwCl (tysX cy) s) (hN : NW s)  {q : Int64 × Tcu}  {v1 : Int32} (h : X1_number tp cu v1 = some q) {ls : Array Slot} (hl : lv_has ls 4 [(0, .ref (ad 3)), (1, .int v1)]) {H : Heap} {locs : List Loc} (hP : va_P D vwCl (GX cy ad tk sp nm tp kp cu se ur ab lo im sy un en ra li i2) H) (hS : va_S (Ac ad 89) s.heap H locs) : W p l e ({ frames := 1, cells := 0, slots := 0, locals := 28 } : Room) s m args below meth c H locs 0 0 (MQ below (QR (some (.long q.1)) D (GX cy ad tk sp nm tp kp q.2 se ur ab lo im sy un en ra li i2) (Ac ad 89)) args s 0 0 (Ac ad 89)) (F0 m 0 ls []) := by
  obtain ⟨hx, hb, hml, hown, hts, hr, hlk⟩ := id C
  unfold X1_number at h
  refine lv_aload_n hx hb dX1_number_0 rfl (lv_at hl 0 rfl) ?_
  refine cPi (run_V (rest := []) C (kX1_sound rfl) caX1_sound w711 ⟨rfl, rfl, Nat.le_of_ble_eq_true rfl, Nat.le_of_ble_eq_true rfl⟩ hK hN hP (rX3 hK hP) rfl hl.1 rfl (Nat.le_of_ble_eq_true rfl) dX1_number_1 ⟨Nat.zero_le _, Nat.zero_le _⟩) ?_
  refine lv_if_ne (tgt := 9) hx hb dX1_number_4 (by decide) (fun c1 => ?_) (fun c1 => ?_)
  · rw [if_neg c1] at h
    refine lv_aload_n hx hb dX1_number_9 rfl (lv_at hl 0 rfl) ?_
    refine lv_iload_n hx hb dX1_number_10 rfl (lv_at hl 1 rfl) ?_
    refine lv_i2l (v := ((v1).toInt64)) hx hb dX1_number_11 rfl ?_
    refine cPi (run_V (rest := []) C (kX1_hasLeft rfl) caX1_hasLeft w712 ⟨rfl, rfl, Nat.le_of_ble_eq_true rfl, Nat.le_of_ble_eq_true rfl⟩ hK hN hP (rX3 hK hP) rfl hl.1 rfl (Nat.le_of_ble_eq_true rfl) dX1_number_12 ⟨Nat.zero_le _, Nat.zero_le _⟩) ?_
    refine lv_if_ne (tgt := 29) hx hb dX1_number_15 (by decide) (fun c2 => ?_) (fun c2 => ?_)
    · rw [if_neg c2] at h
      refine lv_aload_n hx hb dX1_number_29 rfl (lv_at hl 0 rfl) ?_
      refine lv_aload_n hx hb dX1_number_30 rfl (lv_at hl 0 rfl) ?_
      refine gX3_2 (v := cu.2.1) C hK hP rfl w127 dX1_number_31 ?_
      refine lv_iload_n hx hb dX1_number_34 rfl (lv_at hl 1 rfl) ?_
      obtain ⟨q3, h4, h⟩ := bnd h
      refine cPl (run_V (rest := []) C (kX1_numberAt h4) caX1_numberAt w716 ⟨rfl, rfl, Nat.le_of_ble_eq_true rfl, Nat.le_of_ble_eq_true rfl⟩ hK hN hP (rX3 hK hP) rfl hl.1 rfl (Nat.le_of_ble_eq_true rfl) dX1_number_35 ⟨Nat.zero_le _, Nat.zero_le _⟩) ?_
      refine lv_lstore_n (lv' := [(2, .long q3), (0, .ref (ad 3)), (1, .int v1)]) hx hb dX1_number_38 rfl hl (by decide) rfl (fun ls hl => ?_)
      refine lv_aload_n hx hb dX1_number_39 rfl (lv_at hl 1 rfl) ?_
      refine lv_dup hx hb dX1_number_40 rfl ?_
      refine gX3_2 (v := cu.2.1) C hK hP rfl w127 dX1_number_41 ?_
      refine lv_iload_n hx hb dX1_number_44 rfl (lv_at hl 2 rfl) ?_
      refine lv_iadd hx hb dX1_number_45 ?_
      refine pX3_2 (v := (cu.2.1 + v1)) C hI hK hP hS w127 dX1_number_46 (fun H locs hP hS => ?_)
      have hP : va_P D vwCl (GX cy ad tk sp nm tp kp (cu.1, (cu.2.1 + v1), cu.2.2.1, cu.2.2.2.1, cu.2.2.2.2) se ur ab lo im sy un en ra li i2) H := hP
      refine lv_lload_n hx hb dX1_number_49 rfl (lv_at hl 0 rfl) ?_
      obtain rfl := Option.some.inj h
      exact W.lret hx hb hr (fun t ht _ => ⟨rfl, by rw [ht]; exact hP, hS.F ht⟩) hS.2.2 dX1_number_50 hlk
    · rw [if_pos c2] at h
      refine lv_aload_n hx hb dX1_number_18 rfl (lv_at hl 0 rfl) ?_
      refine lv_iconst (v := (1 : Int32)) hx hb dX1_number_19 (by decide) ?_
      refine lv_aload_n hx hb dX1_number_20 rfl (lv_at hl 0 rfl) ?_
      refine gX3_2 (v := cu.2.1) C hK hP rfl w127 dX1_number_21 ?_
      obtain ⟨q5, h6, h⟩ := lets h
      refine cRv (run_V (rest := []) C (kX1_refuse hI h6) caX1_refuse w586 ⟨rfl, rfl, Nat.le_of_ble_eq_true rfl, Nat.le_of_ble_eq_true rfl⟩ hK hN hP (rX3 hK hP) rfl hl.1 rfl (Nat.le_of_ble_eq_true rfl) dX1_number_24 ⟨Nat.zero_le _, Nat.zero_le _⟩) hS (fun H locs hP hS => ?_)
      have hP : va_P D vwCl (GX cy ad tk sp nm tp kp q5 se ur ab lo im sy un en ra li i2) H := hP
      refine lv_lconst (v := (0 : Int64)) hx hb dX1_number_27 (by decide) ?_
      obtain rfl := Option.some.inj h
      exact W.lret hx hb hr (fun t ht _ => ⟨rfl, by rw [ht]; exact hP, hS.F ht⟩) hS.2.2 dX1_number_28 hlk
  · rw [if_pos c1] at h
    refine lv_lconst (v := (0 : Int64)) hx hb dX1_number_7 (by decide) ?_
    obtain rfl := Option.some.inj h
    exact W.lret hx hb hr (fun t ht _ => ⟨rfl, by rw [ht]; exact hP, hS.F ht⟩) hS.2.2 dX1_number_8 hlk
theorem kX1_number (hI : Apart ad 89) {v1 : Int32} {q : Int64 × Tcu} (h : X1_number tp cu v1 = some q) : Met l yX1_number (.code yX1_number cX1_number 4 (some .long) :: WA) ({ frames := 1, cells := 0, slots := 0, locals := 28 } : Room) (va_Pc [.ref (ad 3), .int v1] (PR D cy (GX cy ad tk sp nm tp kp cu se ur ab lo im sy un en ra li i2))) (QR (some (.long q.1)) D (GX cy ad tk sp nm tp kp q.2 se ur ab lo im sy un en ra li i2) (Ac ad 89)) 0 0 (Ac ad 89) :=
  met_of (by decide) (Nat.le_of_ble_eq_true rfl) (fun p e s m below meth c ls C hP hK hN hl => bX1_number_0 C hI hK hN h hl hP va_S.rf)
def X1_numberBetween_29 (tp : Ttp)  (cu : Tcu) (v2 : Int32) (v4 : Int32) : Option (Int32 × Tcu) := (letq (X1_refuse cu (2 : Int32) v4) fun q1 => some (v2, q1))
set_option maxRecDepth 20000 in
theorem bX1_numberBetween_29 (C : Cx p s m args meth c cX1_numberBetween 7 (some .int) RX1 (.code yX1_numberBetween cX1_numberBetween 7 (some .int))) (hI : Apart ad 89) (hK : va_K D vwCl (tysX cy) s) (hN : NW s)  {q : Int32 × Tcu}  {v2 : Int32} {v4 : Int32} (h : X1_numberBetween_29 tp cu v2 v4 = some q) {ls : Array Slot} (hl : lv_has ls 7 [(0, .ref (ad 3)), (2, .int v2), (4, .int v4)]) {H : Heap} {locs : List Loc} (hP : va_P D vwCl (GX cy ad tk sp nm tp kp cu se ur ab lo im sy un en ra li i2) H) (hS : va_S (Ac ad 89) s.heap H locs) : W p l e ({ frames := 2, cells := 0, slots := 0, locals := 51 } : Room) s m args below meth c H locs 0 0 (MQ below (QR (some (.int q.1)) D (GX cy ad tk sp nm tp kp q.2 se ur ab lo im sy un en ra li i2) (Ac ad 89)) args s 0 0 (Ac ad 89)) (F0 m 29 ls []) := by
  obtain ⟨hx, hb, hml, hown, hts, hr, hlk⟩ := id C
  unfold X1_numberBetween_29 at h
  refine lv_aload_n hx hb dX1_numberBetween_29 rfl (lv_at hl 0 rfl) ?_
  refine lv_iconst (v := (2 : Int32)) hx hb dX1_numberBetween_30 (by decide) ?_
  refine lv_iload hx hb dX1_numberBetween_31 (lv_at hl 2 rfl) ?_
  obtain ⟨q1, h2, h⟩ := lets h
  refine cRv (run_V (rest := []) C (kX1_refuse hI h2) caX1_refuse w586 ⟨rfl, rfl, Nat.le_of_ble_eq_true rfl, Nat.le_of_ble_eq_true rfl⟩ hK hN hP (rX3 hK hP) rfl hl.1 rfl (Nat.le_of_ble_eq_true rfl) dX1_numberBetween_33 ⟨Nat.zero_le _, Nat.zero_le _⟩) hS (fun H locs hP hS => ?_)
  have hP : va_P D vwCl (GX cy ad tk sp nm tp kp q1 se ur ab lo im sy un en ra li i2) H := hP
  refine lv_iload_n hx hb dX1_numberBetween_36 rfl (lv_at hl 1 rfl) ?_
  obtain rfl := Option.some.inj h
  exact W.iret hx hb hr (fun t ht _ => ⟨rfl, by rw [ht]; exact hP, hS.F ht⟩) hS.2.2 dX1_numberBetween_37 hlk
def X1_numberBetween (tp : Ttp) (cu : Tcu) (v1 : Int32) (v2 : Int32) (v3 : Int32) : Option (Int32 × Tcu) := ((X1_number tp cu v1).bind fun q1 => (if q1.1 < ((v2).toInt64) then X1_numberBetween_29 tp q1.2 v2 cu.2.1 else (if ((v3).toInt64) < q1.1 then X1_numberBetween_29 tp q1.2 v2 cu.2.1 else some (((q1.1).toInt32), q1.2))))
set_option maxRecDepth 20000 in
theorem bX1_numberBetween_0 (C : Cx p s m args meth c cX1_numberBetween 7 (some .int) RX1 (.code yX1_numberBetween cX1_numberBetween 7 (some .int))) (hI : Apart ad 89) (hK : va_K D vwCl (tysX cy) s) (hN : NW s)  {q : Int32 × Tcu}  {v1 : Int32} {v2 : Int32} {v3 : Int32} (h : X1_numberBetween tp cu v1 v2 v3 = some q) {ls : Array Slot} (hl : lv_has ls 7 [(0, .ref (ad 3)), (1, .int v1), (2, .int v2), (3, .int v3)]) {H : Heap} {locs : List Loc} (hP : va_P D vwCl (GX cy ad tk sp nm tp kp cu se ur ab lo im sy un en ra li i2) H) (hS : va_S (Ac ad 89) s.heap H locs) : W p l e ({ frames := 2, cells := 0, slots := 0, locals := 51 } : Room) s m args below meth c H locs 0 0 (MQ below (QR (some (.int q.1)) D (GX cy ad tk sp nm tp kp q.2 se ur ab lo im sy un en ra li i2) (Ac ad 89)) args s 0 0 (Ac ad 89)) (F0 m 0 ls []) := by
  obtain ⟨hx, hb, hml, hown, hts, hr, hlk⟩ := id C
  unfold X1_numberBetween at h
  refine lv_aload_n hx hb dX1_numberBetween_0 rfl (lv_at hl 0 rfl) ?_
  refine gX3_2 (v := cu.2.1) C hK hP rfl w127 dX1_numberBetween_1 ?_
  refine lv_istore (lv' := [(4, .int cu.2.1), (0, .ref (ad 3)), (1, .int v1), (2, .int v2), (3, .int v3)]) hx hb dX1_numberBetween_4 hl (by decide) rfl (fun ls hl => ?_)
  refine lv_aload_n hx hb dX1_numberBetween_6 rfl (lv_at hl 1 rfl) ?_
  refine lv_iload_n hx hb dX1_numberBetween_7 rfl (lv_at hl 2 rfl) ?_
  obtain ⟨q1, h2, h⟩ := bnd h
  refine cRl (run_V (rest := []) C (kX1_number hI h2) caX1_number w707 ⟨rfl, rfl, Nat.le_of_ble_eq_true rfl, Nat.le_of_ble_eq_true rfl⟩ hK hN hP (rX3 hK hP) rfl hl.1 rfl (Nat.le_of_ble_eq_true rfl) dX1_numberBetween_8 ⟨Nat.zero_le _, Nat.zero_le _⟩) hS (fun H locs hP hS => ?_)
  have hP : va_P D vwCl (GX cy ad tk sp nm tp kp q1.2 se ur ab lo im sy un en ra li i2) H := hP
  refine lv_lstore (lv' := [(5, .long q1.1), (4, .int cu.2.1), (0, .ref (ad 3)), (1, .int v1), (2, .int v2), (3, .int v3)]) hx hb dX1_numberBetween_11 hl (by decide) rfl (fun ls hl => ?_)
  refine lv_lload hx hb dX1_numberBetween_13 (lv_at hl 0 rfl) ?_
  refine lv_iload_n hx hb dX1_numberBetween_15 rfl (lv_at hl 4 rfl) ?_
  refine lv_i2l (v := ((v2).toInt64)) hx hb dX1_numberBetween_16 rfl ?_
  refine lc_lt (tgt := 29) hx hb dX1_numberBetween_17 dX1_numberBetween_18 (by decide) (fun c3 => ?_) (fun c3 => ?_)
  · rw [if_pos c3] at h
    exact bX1_numberBetween_29 C hI hK hN h (lv_sub hl [2, 4, 1] rfl) hP hS
  · rw [if_neg c3] at h
    refine lv_lload hx hb dX1_numberBetween_21 (lv_at hl 0 rfl) ?_
    refine lv_iload_n hx hb dX1_numberBetween_23 rfl (lv_at hl 5 rfl) ?_
    refine lv_i2l (v := ((v3).toInt64)) hx hb dX1_numberBetween_24 rfl ?_
    refine lc_le (tgt := 38) hx hb dX1_numberBetween_25 dX1_numberBetween_26 (by decide) (fun c4 => ?_) (fun c4 => ?_)
    · rw [if_neg c4] at h
      refine lv_lload hx hb dX1_numberBetween_38 (lv_at hl 0 rfl) ?_
      refine lv_l2i (v := ((q1.1).toInt32)) hx hb dX1_numberBetween_40 rfl ?_
      obtain rfl := Option.some.inj h
      exact W.iret hx hb hr (fun t ht _ => ⟨rfl, by rw [ht]; exact hP, hS.F ht⟩) hS.2.2 dX1_numberBetween_41 hlk
    · rw [if_pos c4] at h
      exact bX1_numberBetween_29 C hI hK hN h (lv_sub hl [2, 4, 1] rfl) hP hS
theorem kX1_numberBetween (hI : Apart ad 89) {v1 : Int32} {v2 : Int32} {v3 : Int32} {q : Int32 × Tcu} (h : X1_numberBetween tp cu v1 v2 v3 = some q) : Met l yX1_numberBetween (.code yX1_numberBetween cX1_numberBetween 7 (some .int) :: WA) ({ frames := 2, cells := 0, slots := 0, locals := 51 } : Room) (va_Pc [.ref (ad 3), .int v1, .int v2, .int v3] (PR D cy (GX cy ad tk sp nm tp kp cu se ur ab lo im sy un en ra li i2))) (QR (some (.int q.1)) D (GX cy ad tk sp nm tp kp q.2 se ur ab lo im sy un en ra li i2) (Ac ad 89)) 0 0 (Ac ad 89) :=
  met_of (by decide) (Nat.le_of_ble_eq_true rfl) (fun p e s m below meth c ls C hP hK hN hl => bX1_numberBetween_0 C hI hK hN h hl hP va_S.rf)
def X1_uleb_86 (tp : Ttp)  (cu : Tcu)  : Option (Int64 × Tcu) := (letq (X1_refuse cu (1 : Int32) cu.2.1) fun q1 => some ((0 : Int64), q1))
set_option maxRecDepth 20000 in
theorem bX1_uleb_86 (C : Cx p s m args meth c cX1_uleb 5 (some .long) RX1 (.code yX1_uleb cX1_uleb 5 (some .long))) (hI : Apart ad 89) (hK : va_K D vwCl (tysX cy) s) (hN : NW s)  {q : Int64 × Tcu}   (h : X1_uleb_86 tp cu = some q) {ls : Array Slot} (hl : lv_has ls 5 [(0, .ref (ad 3))]) {H : Heap} {locs : List Loc} (hP : va_P D vwCl (GX cy ad tk sp nm tp kp cu se ur ab lo im sy un en ra li i2) H) (hS : va_S (Ac ad 89) s.heap H locs) : W p l e ({ frames := 1, cells := 0, slots := 0, locals := 22 } : Room) s m args below meth c H locs 0 0 (MQ below (QR (some (.long q.1)) D (GX cy ad tk sp nm tp kp q.2 se ur ab lo im sy un en ra li i2) (Ac ad 89)) args s 0 0 (Ac ad 89)) (F0 m 86 ls []) := by
  obtain ⟨hx, hb, hml, hown, hts, hr, hlk⟩ := id C
  unfold X1_uleb_86 at h
  refine lv_aload_n hx hb dX1_uleb_86 rfl (lv_at hl 0 rfl) ?_
  refine lv_iconst (v := (1 : Int32)) hx hb dX1_uleb_87 (by decide) ?_
  refine lv_aload_n hx hb dX1_uleb_88 rfl (lv_at hl 0 rfl) ?_
  refine gX3_2 (v := cu.2.1) C hK hP rfl w127 dX1_uleb_89 ?_
  obtain ⟨q1, h2, h⟩ := lets h
  refine cRv (run_V (rest := []) C (kX1_refuse hI h2) caX1_refuse w586 ⟨rfl, rfl, Nat.le_of_ble_eq_true rfl, Nat.le_of_ble_eq_true rfl⟩ hK hN hP (rX3 hK hP) rfl hl.1 rfl (Nat.le_of_ble_eq_true rfl) dX1_uleb_92 ⟨Nat.zero_le _, Nat.zero_le _⟩) hS (fun H locs hP hS => ?_)
  have hP : va_P D vwCl (GX cy ad tk sp nm tp kp q1 se ur ab lo im sy un en ra li i2) H := hP
  refine lv_lconst (v := (0 : Int64)) hx hb dX1_uleb_95 (by decide) ?_
  obtain rfl := Option.some.inj h
  exact W.lret hx hb hr (fun t ht _ => ⟨rfl, by rw [ht]; exact hP, hS.F ht⟩) hS.2.2 dX1_uleb_96 hlk
def X1_uleb_13b (tp : Ttp)  (k13 : Tcu → Int64 → Int32 → Option (Int64 × Tcu)) (cu : Tcu) (v1 : Int64) (v3 : Int32) : Option (Int64 × Tcu) := (if v3 < (10 : Int32) then (if v3 < (cu.2.2.1 - cu.2.1) then ((X1_byteAt tp (cu.2.1 + v3)).bind fun q3 => (if q3 < (128 : Int32) then some ((v1 ||| ((((q3 &&& (127 : Int32))).toInt64) <<< ((((7 : Int32) * v3)).toInt64 &&& 63))), (cu.1, (cu.2.1 + (v3 + (1 : Int32))), cu.2.2.1, cu.2.2.2.1, cu.2.2.2.2)) else k13 cu (v1 ||| ((((q3 &&& (127 : Int32))).toInt64) <<< ((((7 : Int32) * v3)).toInt64 &&& 63))) (v3 + (1 : Int32)))) else X1_uleb_86 tp cu) else X1_uleb_86 tp cu)
def X1_uleb_13 (tp : Ttp)  (n : Nat) (st : Tcu × Int64 × Int32) : Option (Int64 × Tcu) := lp (fun rec st => X1_uleb_13b tp  (fun a0 a1 a2 => rec (a0, a1, a2)) st.1 st.2.1 st.2.2) n st
set_option maxRecDepth 20000 in
theorem bX1_uleb_13 (C : Cx p s m args meth c cX1_uleb 5 (some .long) RX1 (.code yX1_uleb cX1_uleb 5 (some .long))) (hI : Apart ad 89) (hK : va_K D vwCl (tysX cy) s) (hN : NW s)  {q : Int64 × Tcu}  : ∀ (n : Nat) {cu : Tcu} {v1 : Int64} {v3 : Int32}, X1_uleb_13 tp  n (cu, v1, v3) = some q → ∀ {ls : Array Slot}, lv_has ls 5 [(0, .ref (ad 3)), (1, .long v1), (3, .int v3)] → ∀ {H : Heap} {locs : List Loc}, va_P D vwCl (GX cy ad tk sp nm tp kp cu se ur ab lo im sy un en ra li i2) H → va_S (Ac ad 89) s.heap H locs → W p l e ({ frames := 1, cells := 0, slots := 0, locals := 22 } : Room) s m args below meth c H locs 0 0 (MQ below (QR (some (.long q.1)) D (GX cy ad tk sp nm tp kp q.2 se ur ab lo im sy un en ra li i2) (Ac ad 89)) args s 0 0 (Ac ad 89)) (F0 m 13 ls []) := by
  obtain ⟨hx, hb, hml, hown, hts, hr, hlk⟩ := id C
  intro n
  induction n with
  | zero =>
    intro cu v1 v3 h ls hl H locs hP hS
    have h : (none : Option (Int64 × Tcu)) = some q := h
    cases h
  | succ n ih =>
    intro cu v1 v3 h ls hl H locs hP hS
    have h : X1_uleb_13b tp  (fun a0 a1 a2 => X1_uleb_13 tp  n (a0, a1, a2)) cu v1 v3 = some q := h
    unfold X1_uleb_13b at h
    refine lv_iload_n hx hb dX1_uleb_13 rfl (lv_at hl 2 rfl) ?_
    refine lv_bipush (v := (10 : Int32)) hx hb dX1_uleb_14 (by decide) ?_
    refine b_icmp_ge (tgt := 86) hx hb dX1_uleb_16 (by decide) (fun c1 => ?_) (fun c1 => ?_)
    · rw [if_neg c1] at h
      exact bX1_uleb_86 C hI hK hN h (lv_sub hl [0] rfl) hP hS
    · rw [if_pos c1] at h
      refine lv_iload_n hx hb dX1_uleb_19 rfl (lv_at hl 2 rfl) ?_
      refine lv_aload_n hx hb dX1_uleb_20 rfl (lv_at hl 0 rfl) ?_
      refine gX3_3 (v := cu.2.2.1) C hK hP rfl w128 dX1_uleb_21 ?_
      refine lv_aload_n hx hb dX1_uleb_24 rfl (lv_at hl 0 rfl) ?_
      refine gX3_2 (v := cu.2.1) C hK hP rfl w127 dX1_uleb_25 ?_
      refine lv_isub hx hb dX1_uleb_28 ?_
      refine b_icmp_ge (tgt := 86) hx hb dX1_uleb_29 (by decide) (fun c2 => ?_) (fun c2 => ?_)
      · rw [if_neg c2] at h
        exact bX1_uleb_86 C hI hK hN h (lv_sub hl [0] rfl) hP hS
      · rw [if_pos c2] at h
        refine lv_aload_n hx hb dX1_uleb_32 rfl (lv_at hl 0 rfl) ?_
        refine lv_aload_n hx hb dX1_uleb_33 rfl (lv_at hl 0 rfl) ?_
        refine gX3_2 (v := cu.2.1) C hK hP rfl w127 dX1_uleb_34 ?_
        refine lv_iload_n hx hb dX1_uleb_37 rfl (lv_at hl 2 rfl) ?_
        refine lv_iadd hx hb dX1_uleb_38 ?_
        obtain ⟨q3, h4, h⟩ := bnd h
        refine cPi (run_V (rest := []) C (kX1_byteAt h4) caX1_byteAt w615 ⟨rfl, rfl, Nat.le_of_ble_eq_true rfl, Nat.le_of_ble_eq_true rfl⟩ hK hN hP (rX3 hK hP) rfl hl.1 rfl (Nat.le_of_ble_eq_true rfl) dX1_uleb_39 ⟨Nat.zero_le _, Nat.zero_le _⟩) ?_
        refine lv_istore (lv' := [(4, .int q3), (0, .ref (ad 3)), (1, .long v1), (3, .int v3)]) hx hb dX1_uleb_42 hl (by decide) rfl (fun ls hl => ?_)
        refine lv_lload_n hx hb dX1_uleb_44 rfl (lv_at hl 2 rfl) ?_
        refine lv_iload hx hb dX1_uleb_45 (lv_at hl 0 rfl) ?_
        refine lv_bipush (v := (127 : Int32)) hx hb dX1_uleb_47 (by decide) ?_
        refine lv_iand hx hb dX1_uleb_49 ?_
        refine lv_i2l (v := (((q3 &&& (127 : Int32))).toInt64)) hx hb dX1_uleb_50 rfl ?_
        refine lv_bipush (v := (7 : Int32)) hx hb dX1_uleb_51 (by decide) ?_
        refine lv_iload_n hx hb dX1_uleb_53 rfl (lv_at hl 3 rfl) ?_
        refine lv_imul hx hb dX1_uleb_54 ?_
        refine lv_lshl (v := ((((q3 &&& (127 : Int32))).toInt64) <<< ((((7 : Int32) * v3)).toInt64 &&& 63))) hx hb dX1_uleb_55 rfl ?_
        refine lv_lor hx hb dX1_uleb_56 ?_
        refine lv_lstore_n (lv' := [(1, .long (v1 ||| ((((q3 &&& (127 : Int32))).toInt64) <<< ((((7 : Int32) * v3)).toInt64 &&& 63)))), (4, .int q3), (0, .ref (ad 3)), (3, .int v3)]) hx hb dX1_uleb_57 rfl hl (by decide) rfl (fun ls hl => ?_)
        refine lv_iload hx hb dX1_uleb_58 (lv_at hl 1 rfl) ?_
        refine lv_sipush (v := (128 : Int32)) hx hb dX1_uleb_60 (by decide) ?_
        refine b_icmp_ge (tgt := 80) hx hb dX1_uleb_63 (by decide) (fun c5 => ?_) (fun c5 => ?_)
        · rw [if_neg c5] at h
          refine lv_iinc (v := (v3 + (1 : Int32))) (lv' := [(3, .int (v3 + (1 : Int32))), (1, .long (v1 ||| ((((q3 &&& (127 : Int32))).toInt64) <<< ((((7 : Int32) * v3)).toInt64 &&& 63)))), (4, .int q3), (0, .ref (ad 3))]) hx hb dX1_uleb_80 hl (k := 3) rfl rfl (by decide) rfl (fun ls hl => ?_)
          refine lv_goto (tgt := 13) hx hb dX1_uleb_83 (by decide) ?_
          exact ih h (lv_sub hl [3, 1, 0] rfl) hP hS
        · rw [if_pos c5] at h
          refine lv_aload_n hx hb dX1_uleb_66 rfl (lv_at hl 2 rfl) ?_
          refine lv_dup hx hb dX1_uleb_67 rfl ?_
          refine gX3_2 (v := cu.2.1) C hK hP rfl w127 dX1_uleb_68 ?_
          refine lv_iload_n hx hb dX1_uleb_71 rfl (lv_at hl 3 rfl) ?_
          refine lv_iconst (v := (1 : Int32)) hx hb dX1_uleb_72 (by decide) ?_
          refine lv_iadd hx hb dX1_uleb_73 ?_
          refine lv_iadd hx hb dX1_uleb_74 ?_
          refine pX3_2 (v := (cu.2.1 + (v3 + (1 : Int32)))) C hI hK hP hS w127 dX1_uleb_75 (fun H locs hP hS => ?_)
          have hP : va_P D vwCl (GX cy ad tk sp nm tp kp (cu.1, (cu.2.1 + (v3 + (1 : Int32))), cu.2.2.1, cu.2.2.2.1, cu.2.2.2.2) se ur ab lo im sy un en ra li i2) H := hP
          refine lv_lload_n hx hb dX1_uleb_78 rfl (lv_at hl 0 rfl) ?_
          obtain rfl := Option.some.inj h
          exact W.lret hx hb hr (fun t ht _ => ⟨rfl, by rw [ht]; exact hP, hS.F ht⟩) hS.2.2 dX1_uleb_79 hlk
def X1_uleb (tp : Ttp) (cu : Tcu)  : Option (Int64 × Tcu) := (if (X1_sound cu) = 0 then some ((0 : Int64), cu) else X1_uleb_13 tp FU (cu, (0 : Int64), (0 : Int32)))
set_option maxRecDepth 20000 in
theorem bX1_uleb_0 (C : Cx p s m args meth c cX1_uleb 5 (some .long) RX1 (.code yX1_uleb cX1_uleb 5 (some .long))) (hI : Apart ad 89) (hK : va_K D vwCl (tysX cy) s) (hN : NW s)  {q : Int64 × Tcu}   (h : X1_uleb tp cu = some q) {ls : Array Slot} (hl : lv_has ls 5 [(0, .ref (ad 3))]) {H : Heap} {locs : List Loc} (hP : va_P D vwCl (GX cy ad tk sp nm tp kp cu se ur ab lo im sy un en ra li i2) H) (hS : va_S (Ac ad 89) s.heap H locs) : W p l e ({ frames := 1, cells := 0, slots := 0, locals := 22 } : Room) s m args below meth c H locs 0 0 (MQ below (QR (some (.long q.1)) D (GX cy ad tk sp nm tp kp q.2 se ur ab lo im sy un en ra li i2) (Ac ad 89)) args s 0 0 (Ac ad 89)) (F0 m 0 ls []) := by
  obtain ⟨hx, hb, hml, hown, hts, hr, hlk⟩ := id C
  unfold X1_uleb at h
  refine lv_aload_n hx hb dX1_uleb_0 rfl (lv_at hl 0 rfl) ?_
  refine cPi (run_V (rest := []) C (kX1_sound rfl) caX1_sound w711 ⟨rfl, rfl, Nat.le_of_ble_eq_true rfl, Nat.le_of_ble_eq_true rfl⟩ hK hN hP (rX3 hK hP) rfl hl.1 rfl (Nat.le_of_ble_eq_true rfl) dX1_uleb_1 ⟨Nat.zero_le _, Nat.zero_le _⟩) ?_
  refine lv_if_ne (tgt := 9) hx hb dX1_uleb_4 (by decide) (fun c1 => ?_) (fun c1 => ?_)
  · rw [if_neg c1] at h
    refine lv_lconst (v := (0 : Int64)) hx hb dX1_uleb_9 (by decide) ?_
    refine lv_lstore_n (lv' := [(1, .long (0 : Int64)), (0, .ref (ad 3))]) hx hb dX1_uleb_10 rfl hl (by decide) rfl (fun ls hl => ?_)
    refine lv_iconst (v := (0 : Int32)) hx hb dX1_uleb_11 (by decide) ?_
    refine lv_istore_n (lv' := [(3, .int (0 : Int32)), (1, .long (0 : Int64)), (0, .ref (ad 3))]) hx hb dX1_uleb_12 rfl hl (by decide) rfl (fun ls hl => ?_)
    exact bX1_uleb_13 C hI hK hN FU h (lv_sub hl [2, 1, 0] rfl) hP hS
  · rw [if_pos c1] at h
    refine lv_lconst (v := (0 : Int64)) hx hb dX1_uleb_7 (by decide) ?_
    obtain rfl := Option.some.inj h
    exact W.lret hx hb hr (fun t ht _ => ⟨rfl, by rw [ht]; exact hP, hS.F ht⟩) hS.2.2 dX1_uleb_8 hlk
theorem kX1_uleb (hI : Apart ad 89)  {q : Int64 × Tcu} (h : X1_uleb tp cu = some q) : Met l yX1_uleb (.code yX1_uleb cX1_uleb 5 (some .long) :: WA) ({ frames := 1, cells := 0, slots := 0, locals := 22 } : Room) (va_Pc [.ref (ad 3)] (PR D cy (GX cy ad tk sp nm tp kp cu se ur ab lo im sy un en ra li i2))) (QR (some (.long q.1)) D (GX cy ad tk sp nm tp kp q.2 se ur ab lo im sy un en ra li i2) (Ac ad 89)) 0 0 (Ac ad 89) :=
  met_of (by decide) (Nat.le_of_ble_eq_true rfl) (fun p e s m below meth c ls C hP hK hN hl => bX1_uleb_0 C hI hK hN h hl hP va_S.rf)
def X1_expectUleb (tp : Ttp) (cu : Tcu) (v1 : Int64) : Option (Tcu) := ((X1_uleb tp cu).bind fun q1 => (if q1.1 = v1 then some q1.2 else (letq (X1_refuse q1.2 (2 : Int32) cu.2.1) fun q4 => some q4)))
set_option maxRecDepth 20000 in
theorem bX1_expectUleb_0 (C : Cx p s m args meth c cX1_expectUleb 4 none RX1 (.code yX1_expectUleb cX1_expectUleb 4 none)) (hI : Apart ad 89) (hK : va_K D vwCl (tysX cy) s) (hN : NW s)  {q : Tcu}  {v1 : Int64} (h : X1_expectUleb tp cu v1 = some q) {ls : Array Slot} (hl : lv_has ls 4 [(0, .ref (ad 3)), (1, .long v1)]) {H : Heap} {locs : List Loc} (hP : va_P D vwCl (GX cy ad tk sp nm tp kp cu se ur ab lo im sy un en ra li i2) H) (hS : va_S (Ac ad 89) s.heap H locs) : W p l e ({ frames := 2, cells := 0, slots := 0, locals := 46 } : Room) s m args below meth c H locs 0 0 (MQ below (QR none D (GX cy ad tk sp nm tp kp q se ur ab lo im sy un en ra li i2) (Ac ad 89)) args s 0 0 (Ac ad 89)) (F0 m 0 ls []) := by
  obtain ⟨hx, hb, hml, hown, hts, hr, hlk⟩ := id C
  unfold X1_expectUleb at h
  refine lv_aload_n hx hb dX1_expectUleb_0 rfl (lv_at hl 0 rfl) ?_
  refine gX3_2 (v := cu.2.1) C hK hP rfl w127 dX1_expectUleb_1 ?_
  refine lv_istore_n (lv' := [(3, .int cu.2.1), (0, .ref (ad 3)), (1, .long v1)]) hx hb dX1_expectUleb_4 rfl hl (by decide) rfl (fun ls hl => ?_)
  refine lv_aload_n hx hb dX1_expectUleb_5 rfl (lv_at hl 1 rfl) ?_
  obtain ⟨q1, h2, h⟩ := bnd h
  refine cRl (run_V (rest := []) C (kX1_uleb hI h2) caX1_uleb w790 ⟨rfl, rfl, Nat.le_of_ble_eq_true rfl, Nat.le_of_ble_eq_true rfl⟩ hK hN hP (rX3 hK hP) rfl hl.1 rfl (Nat.le_of_ble_eq_true rfl) dX1_expectUleb_6 ⟨Nat.zero_le _, Nat.zero_le _⟩) hS (fun H locs hP hS => ?_)
  have hP : va_P D vwCl (GX cy ad tk sp nm tp kp q1.2 se ur ab lo im sy un en ra li i2) H := hP
  refine lv_lload_n hx hb dX1_expectUleb_9 rfl (lv_at hl 2 rfl) ?_
  refine lc_eq (tgt := 20) hx hb dX1_expectUleb_10 dX1_expectUleb_11 (by decide) (fun c3 => ?_) (fun c3 => ?_)
  · rw [if_pos c3] at h
    obtain rfl := Option.some.inj h
    exact W.vret hx hb hr (fun t ht _ => ⟨rfl, by rw [ht]; exact hP, hS.F ht⟩) hS.2.2 dX1_expectUleb_20 hlk
  · rw [if_neg c3] at h
    refine lv_aload_n hx hb dX1_expectUleb_14 rfl (lv_at hl 1 rfl) ?_
    refine lv_iconst (v := (2 : Int32)) hx hb dX1_expectUleb_15 (by decide) ?_
    refine lv_iload_n hx hb dX1_expectUleb_16 rfl (lv_at hl 0 rfl) ?_
    obtain ⟨q4, h5, h⟩ := lets h
    refine cRv (run_V (rest := []) C (kX1_refuse hI h5) caX1_refuse w586 ⟨rfl, rfl, Nat.le_of_ble_eq_true rfl, Nat.le_of_ble_eq_true rfl⟩ hK hN hP (rX3 hK hP) rfl hl.1 rfl (Nat.le_of_ble_eq_true rfl) dX1_expectUleb_17 ⟨Nat.zero_le _, Nat.zero_le _⟩) hS (fun H locs hP hS => ?_)
    have hP : va_P D vwCl (GX cy ad tk sp nm tp kp q4 se ur ab lo im sy un en ra li i2) H := hP
    obtain rfl := Option.some.inj h
    exact W.vret hx hb hr (fun t ht _ => ⟨rfl, by rw [ht]; exact hP, hS.F ht⟩) hS.2.2 dX1_expectUleb_20 hlk
theorem kX1_expectUleb (hI : Apart ad 89) {v1 : Int64} {q : Tcu} (h : X1_expectUleb tp cu v1 = some q) : Met l yX1_expectUleb (.code yX1_expectUleb cX1_expectUleb 4 none :: WA) ({ frames := 2, cells := 0, slots := 0, locals := 46 } : Room) (va_Pc [.ref (ad 3), .long v1] (PR D cy (GX cy ad tk sp nm tp kp cu se ur ab lo im sy un en ra li i2))) (QR none D (GX cy ad tk sp nm tp kp q se ur ab lo im sy un en ra li i2) (Ac ad 89)) 0 0 (Ac ad 89) :=
  met_of (by decide) (Nat.le_of_ble_eq_true rfl) (fun p e s m below meth c ls C hP hK hN hl => bX1_expectUleb_0 C hI hK hN h hl hP va_S.rf)
def X1_sleb_47 (tp : Ttp)  (cu : Tcu) (v2 : Int64) (v4 : Int32) (z0 : Int32) : Option (Int64 × Tcu) := (if z0 = 0 then some (v2, cu) else (if v4 < (64 : Int32) then some ((v2 ||| ((-1 : Int64) <<< ((v4).toInt64 &&& 63))), cu) else some (v2, cu)))
set_option maxRecDepth 20000 in
theorem bX1_sleb_47 (C : Cx p s m args meth c cX1_sleb 6 (some .long) RX1 (.code yX1_sleb cX1_sleb 6 (some .long))) (hI : Apart ad 89) (hK : va_K D vwCl (tysX cy) s) (hN : NW s)  {q : Int64 × Tcu}  {v2 : Int64} {v4 : Int32} {z0 : Int32} (h : X1_sleb_47 tp cu v2 v4 z0 = some q) {ls : Array Slot} (hl : lv_has ls 6 [(2, .long v2), (4, .int v4)]) {H : Heap} {locs : List Loc} (hP : va_P D vwCl (GX cy ad tk sp nm tp kp cu se ur ab lo im sy un en ra li i2) H) (hS : va_S (Ac ad 89) s.heap H locs) : W p l e ({ frames := 2, cells := 0, slots := 0, locals := 46 } : Room) s m args below meth c H locs 0 0 (MQ below (QR (some (.long q.1)) D (GX cy ad tk sp nm tp kp q.2 se ur ab lo im sy un en ra li i2) (Ac ad 89)) args s 0 0 (Ac ad 89)) (F0 m 47 ls [.int z0]) := by
  obtain ⟨hx, hb, hml, hown, hts, hr, hlk⟩ := id C
  unfold X1_sleb_47 at h
  refine lv_istore (lv' := [(5, .int z0), (2, .long v2), (4, .int v4)]) hx hb dX1_sleb_47 hl (by decide) rfl (fun ls hl => ?_)
  refine lv_iload hx hb dX1_sleb_49 (lv_at hl 0 rfl) ?_
  refine lv_if_eq (tgt := 72) hx hb dX1_sleb_51 (by decide) (fun c1 => ?_) (fun c1 => ?_)
  · rw [if_pos c1] at h
    refine lv_lload_n hx hb dX1_sleb_72 rfl (lv_at hl 1 rfl) ?_
    obtain rfl := Option.some.inj h
    exact W.lret hx hb hr (fun t ht _ => ⟨rfl, by rw [ht]; exact hP, hS.F ht⟩) hS.2.2 dX1_sleb_73 hlk
  · rw [if_neg c1] at h
    refine lv_iload hx hb dX1_sleb_54 (lv_at hl 2 rfl) ?_
    refine lv_bipush (v := (64 : Int32)) hx hb dX1_sleb_56 (by decide) ?_
    refine b_icmp_ge (tgt := 72) hx hb dX1_sleb_58 (by decide) (fun c2 => ?_) (fun c2 => ?_)
    · rw [if_neg c2] at h
      refine lv_lload_n hx hb dX1_sleb_72 rfl (lv_at hl 1 rfl) ?_
      obtain rfl := Option.some.inj h
      exact W.lret hx hb hr (fun t ht _ => ⟨rfl, by rw [ht]; exact hP, hS.F ht⟩) hS.2.2 dX1_sleb_73 hlk
    · rw [if_pos c2] at h
      refine lv_lload_n hx hb dX1_sleb_61 rfl (lv_at hl 1 rfl) ?_
      refine lv_ldc2 (v := (-1 : Int64)) hx hb hown (hts _ (List.mem_cons_of_mem _ w791)) dX1_sleb_62 ?_
      refine lv_iload hx hb dX1_sleb_65 (lv_at hl 2 rfl) ?_
      refine lv_lshl (v := ((-1 : Int64) <<< ((v4).toInt64 &&& 63))) hx hb dX1_sleb_67 rfl ?_
      refine lv_lor hx hb dX1_sleb_68 ?_
      refine lv_goto (tgt := 73) hx hb dX1_sleb_69 (by decide) ?_
      obtain rfl := Option.some.inj h
      exact W.lret hx hb hr (fun t ht _ => ⟨rfl, by rw [ht]; exact hP, hS.F ht⟩) hS.2.2 dX1_sleb_73 hlk
def X1_sleb_46 (tp : Ttp)  (cu : Tcu) (v2 : Int64) (v4 : Int32) : Option (Int64 × Tcu) := X1_sleb_47 tp cu v2 v4 (0 : Int32)
set_option maxRecDepth 20000 in
theorem bX1_sleb_46 (C : Cx p s m args meth c cX1_sleb 6 (some .long) RX1 (.code yX1_sleb cX1_sleb 6 (some .long))) (hI : Apart ad 89) (hK : va_K D vwCl (tysX cy) s) (hN : NW s)  {q : Int64 × Tcu}  {v2 : Int64} {v4 : Int32} (h : X1_sleb_46 tp cu v2 v4 = some q) {ls : Array Slot} (hl : lv_has ls 6 [(2, .long v2), (4, .int v4)]) {H : Heap} {locs : List Loc} (hP : va_P D vwCl (GX cy ad tk sp nm tp kp cu se ur ab lo im sy un en ra li i2) H) (hS : va_S (Ac ad 89) s.heap H locs) : W p l e ({ frames := 2, cells := 0, slots := 0, locals := 46 } : Room) s m args below meth c H locs 0 0 (MQ below (QR (some (.long q.1)) D (GX cy ad tk sp nm tp kp q.2 se ur ab lo im sy un en ra li i2) (Ac ad 89)) args s 0 0 (Ac ad 89)) (F0 m 46 ls []) := by
  obtain ⟨hx, hb, hml, hown, hts, hr, hlk⟩ := id C
  unfold X1_sleb_46 at h
  refine lv_iconst (v := (0 : Int32)) hx hb dX1_sleb_46 (by decide) ?_
  exact bX1_sleb_47 C hI hK hN h (lv_sub hl [0, 1] rfl) hP hS
def X1_sleb (tp : Ttp) (cu : Tcu)  : Option (Int64 × Tcu) := ((X1_uleb tp cu).bind fun q1 => (if 0 < ((7 : Int32) * (q1.2.2.1 - cu.2.1)) then ((X1_byteAt tp (q1.2.2.1 - (1 : Int32))).bind fun q4 => (if (q4 &&& (64 : Int32)) = 0 then X1_sleb_46 tp q1.2 q1.1 ((7 : Int32) * (q1.2.2.1 - cu.2.1)) else X1_sleb_47 tp q1.2 q1.1 ((7 : Int32) * (q1.2.2.1 - cu.2.1)) (1 : Int32))) else X1_sleb_46 tp q1.2 q1.1 ((7 : Int32) * (q1.2.2.1 - cu.2.1))))
set_option maxRecDepth 20000 in
theorem bX1_sleb_0 (C : Cx p s m args meth c cX1_sleb 6 (some .long) RX1 (.code yX1_sleb cX1_sleb 6 (some .long))) (hI : Apart ad 89) (hK : va_K D vwCl (tysX cy) s) (hN : NW s)  {q : Int64 × Tcu}   (h : X1_sleb tp cu = some q) {ls : Array Slot} (hl : lv_has ls 6 [(0, .ref (ad 3))]) {H : Heap} {locs : List Loc} (hP : va_P D vwCl (GX cy ad tk sp nm tp kp cu se ur ab lo im sy un en ra li i2) H) (hS : va_S (Ac ad 89) s.heap H locs) : W p l e ({ frames := 2, cells := 0, slots := 0, locals := 46 } : Room) s m args below meth c H locs 0 0 (MQ below (QR (some (.long q.1)) D (GX cy ad tk sp nm tp kp q.2 se ur ab lo im sy un en ra li i2) (Ac ad 89)) args s 0 0 (Ac ad 89)) (F0 m 0 ls []) := by
  obtain ⟨hx, hb, hml, hown, hts, hr, hlk⟩ := id C
  unfold X1_sleb at h
  refine lv_aload_n hx hb dX1_sleb_0 rfl (lv_at hl 0 rfl) ?_
  refine gX3_2 (v := cu.2.1) C hK hP rfl w127 dX1_sleb_1 ?_
  refine lv_istore_n (lv' := [(1, .int cu.2.1), (0, .ref (ad 3))]) hx hb dX1_sleb_4 rfl hl (by decide) rfl (fun ls hl => ?_)
  refine lv_aload_n hx hb dX1_sleb_5 rfl (lv_at hl 1 rfl) ?_
  obtain ⟨q1, h2, h⟩ := bnd h
  refine cRl (run_V (rest := []) C (kX1_uleb hI h2) caX1_uleb w790 ⟨rfl, rfl, Nat.le_of_ble_eq_true rfl, Nat.le_of_ble_eq_true rfl⟩ hK hN hP (rX3 hK hP) rfl hl.1 rfl (Nat.le_of_ble_eq_true rfl) dX1_sleb_6 ⟨Nat.zero_le _, Nat.zero_le _⟩) hS (fun H locs hP hS => ?_)
  have hP : va_P D vwCl (GX cy ad tk sp nm tp kp q1.2 se ur ab lo im sy un en ra li i2) H := hP
  refine lv_lstore_n (lv' := [(2, .long q1.1), (1, .int cu.2.1), (0, .ref (ad 3))]) hx hb dX1_sleb_9 rfl hl (by decide) rfl (fun ls hl => ?_)
  refine lv_bipush (v := (7 : Int32)) hx hb dX1_sleb_10 (by decide) ?_
  refine lv_aload_n hx hb dX1_sleb_12 rfl (lv_at hl 2 rfl) ?_
  refine gX3_2 (v := q1.2.2.1) C hK hP rfl w127 dX1_sleb_13 ?_
  refine lv_iload_n hx hb dX1_sleb_16 rfl (lv_at hl 1 rfl) ?_
  refine lv_isub hx hb dX1_sleb_17 ?_
  refine lv_imul hx hb dX1_sleb_18 ?_
  refine lv_istore (lv' := [(4, .int ((7 : Int32) * (q1.2.2.1 - cu.2.1))), (2, .long q1.1), (1, .int cu.2.1), (0, .ref (ad 3))]) hx hb dX1_sleb_19 hl (by decide) rfl (fun ls hl => ?_)
  refine lv_iload hx hb dX1_sleb_21 (lv_at hl 0 rfl) ?_
  refine b_if_le (tgt := 46) hx hb dX1_sleb_23 (by decide) (fun c3 => ?_) (fun c3 => ?_)
  · rw [if_neg c3] at h
    exact bX1_sleb_46 C hI hK hN h (lv_sub hl [1, 0] rfl) hP hS
  · rw [if_pos c3] at h
    refine lv_aload_n hx hb dX1_sleb_26 rfl (lv_at hl 3 rfl) ?_
    refine lv_aload_n hx hb dX1_sleb_27 rfl (lv_at hl 3 rfl) ?_
    refine gX3_2 (v := q1.2.2.1) C hK hP rfl w127 dX1_sleb_28 ?_
    refine lv_iconst (v := (1 : Int32)) hx hb dX1_sleb_31 (by decide) ?_
    refine lv_isub hx hb dX1_sleb_32 ?_
    obtain ⟨q4, h5, h⟩ := bnd h
    refine cPi (run_V (rest := []) C (kX1_byteAt h5) caX1_byteAt w615 ⟨rfl, rfl, Nat.le_of_ble_eq_true rfl, Nat.le_of_ble_eq_true rfl⟩ hK hN hP (rX3 hK hP) rfl hl.1 rfl (Nat.le_of_ble_eq_true rfl) dX1_sleb_33 ⟨Nat.zero_le _, Nat.zero_le _⟩) ?_
    refine lv_bipush (v := (64 : Int32)) hx hb dX1_sleb_36 (by decide) ?_
    refine lv_iand hx hb dX1_sleb_38 ?_
    refine lv_if_eq (tgt := 46) hx hb dX1_sleb_39 (by decide) (fun c6 => ?_) (fun c6 => ?_)
    · rw [if_pos c6] at h
      exact bX1_sleb_46 C hI hK hN h (lv_sub hl [1, 0] rfl) hP hS
    · rw [if_neg c6] at h
      refine lv_iconst (v := (1 : Int32)) hx hb dX1_sleb_42 (by decide) ?_
      refine lv_goto (tgt := 47) hx hb dX1_sleb_43 (by decide) ?_
      exact bX1_sleb_47 C hI hK hN h (lv_sub hl [1, 0] rfl) hP hS
theorem kX1_sleb (hI : Apart ad 89)  {q : Int64 × Tcu} (h : X1_sleb tp cu = some q) : Met l yX1_sleb (.code yX1_sleb cX1_sleb 6 (some .long) :: WA) ({ frames := 2, cells := 0, slots := 0, locals := 46 } : Room) (va_Pc [.ref (ad 3)] (PR D cy (GX cy ad tk sp nm tp kp cu se ur ab lo im sy un en ra li i2))) (QR (some (.long q.1)) D (GX cy ad tk sp nm tp kp q.2 se ur ab lo im sy un en ra li i2) (Ac ad 89)) 0 0 (Ac ad 89) :=
  met_of (by decide) (Nat.le_of_ble_eq_true rfl) (fun p e s m below meth c ls C hP hK hN hl => bX1_sleb_0 C hI hK hN h hl hP va_S.rf)
def X1_textLength_33 (tp : Ttp) (k2 : Int32 → Int32 → Int32 → Option (Int32))  (v1 : Int32) (v2 : Int32) (v3 : Int32) : Option (Int32) := k2 v1 v2 (v3 + (1 : Int32))
set_option maxRecDepth 20000 in
theorem bX1_textLength_33 (C : Cx p s m args meth c cX1_textLength 4 (some .int) RX1 (.code yX1_textLength cX1_textLength 4 (some .int))) (hK : va_K D vwCl (tysX cy) s) (hN : NW s) {k2 : Int32 → Int32 → Int32 → Option (Int32)} {q : Int32} (hk2 : ∀  {v1 : Int32} {v2 : Int32} {v3 : Int32}, k2 v1 v2 v3 = some q → ∀ {ls : Array Slot}, lv_has ls 4 [(0, .ref (ad 3)), (1, .int v1), (2, .int v2), (3, .int v3)] → va_P D vwCl (GX cy ad tk sp nm tp kp cu se ur ab lo im sy un en ra li i2) s.heap → W p l e ({ frames := 0, cells := 0, slots := 0, locals := 0 } : Room) s m args below meth c s.heap [] 0 0 (MQ below (QP (some (.int q))) args s 0 0 (fun _ => False)) (F0 m 2 ls [])) {v1 : Int32} {v2 : Int32} {v3 : Int32} (h : X1_textLength_33 tp k2 v1 v2 v3 = some q) {ls : Array Slot} (hl : lv_has ls 4 [(0, .ref (ad 3)), (1, .int v1), (2, .int v2), (3, .int v3)]) (hP : va_P D vwCl (GX cy ad tk sp nm tp kp cu se ur ab lo im sy un en ra li i2) s.heap) : W p l e ({ frames := 0, cells := 0, slots := 0, locals := 0 } : Room) s m args below meth c s.heap [] 0 0 (MQ below (QP (some (.int q))) args s 0 0 (fun _ => False)) (F0 m 33 ls []) := by
  obtain ⟨hx, hb, hml, hown, hts, hr, hlk⟩ := id C
  unfold X1_textLength_33 at h
  refine lv_iinc (v := (v3 + (1 : Int32))) (lv' := [(3, .int (v3 + (1 : Int32))), (0, .ref (ad 3)), (1, .int v1), (2, .int v2)]) hx hb dX1_textLength_33 hl (k := 3) rfl rfl (by decide) rfl (fun ls hl => ?_)
  refine lv_goto (tgt := 2) hx hb dX1_textLength_36 (by decide) ?_
  exact hk2 h (lv_sub hl [1, 2, 3, 0] rfl) hP
def X1_textLength_2b (tp : Ttp)  (k2 : Int32 → Int32 → Int32 → Option (Int32))  (v1 : Int32) (v2 : Int32) (v3 : Int32) : Option (Int32) := (if v3 < v2 then (if v3 < 0 then X1_textLength_33 tp k2 v1 v2 v3 else (if v3 < (8000 : Int32) then (if inb v3 8000 = true then (if (tp (v3).toNatClampNeg) = 0 then some (v3 - v1) else X1_textLength_33 tp k2 v1 v2 v3) else none) else X1_textLength_33 tp k2 v1 v2 v3)) else some (-1 : Int32))
def X1_textLength_2 (tp : Ttp)  (n : Nat) (st : Int32 × Int32 × Int32) : Option (Int32) := lp (fun rec st => X1_textLength_2b tp  (fun a0 a1 a2 => rec (a0, a1, a2)) st.1 st.2.1 st.2.2) n st
set_option maxRecDepth 20000 in
theorem bX1_textLength_2 (C : Cx p s m args meth c cX1_textLength 4 (some .int) RX1 (.code yX1_textLength cX1_textLength 4 (some .int))) (hK : va_K D vwCl (tysX cy) s) (hN : NW s)  {q : Int32}  : ∀ (n : Nat)  {v1 : Int32} {v2 : Int32} {v3 : Int32}, X1_textLength_2 tp  n (v1, v2, v3) = some q → ∀ {ls : Array Slot}, lv_has ls 4 [(0, .ref (ad 3)), (1, .int v1), (2, .int v2), (3, .int v3)] → va_P D vwCl (GX cy ad tk sp nm tp kp cu se ur ab lo im sy un en ra li i2) s.heap → W p l e ({ frames := 0, cells := 0, slots := 0, locals := 0 } : Room) s m args below meth c s.heap [] 0 0 (MQ below (QP (some (.int q))) args s 0 0 (fun _ => False)) (F0 m 2 ls []) := by
  obtain ⟨hx, hb, hml, hown, hts, hr, hlk⟩ := id C
  intro n
  induction n with
  | zero =>
    intro v1 v2 v3 h ls hl hP
    have h : (none : Option (Int32)) = some q := h
    cases h
  | succ n ih =>
    intro v1 v2 v3 h ls hl hP
    have h : X1_textLength_2b tp  (fun a0 a1 a2 => X1_textLength_2 tp  n (a0, a1, a2)) v1 v2 v3 = some q := h
    unfold X1_textLength_2b at h
    refine lv_iload_n hx hb dX1_textLength_2 rfl (lv_at hl 3 rfl) ?_
    refine lv_iload_n hx hb dX1_textLength_3 rfl (lv_at hl 2 rfl) ?_
    refine b_icmp_ge (tgt := 39) hx hb dX1_textLength_4 (by decide) (fun c1 => ?_) (fun c1 => ?_)
    · rw [if_neg c1] at h
      refine lv_iconst (v := (-1 : Int32)) hx hb dX1_textLength_39 (by decide) ?_
      obtain rfl := Option.some.inj h
      exact W.iret hx hb hr (fun t ht _ => ⟨rfl, ht⟩) (fun _ h9 => by cases h9) dX1_textLength_40 hlk
    · rw [if_pos c1] at h
      refine lv_iload_n hx hb dX1_textLength_7 rfl (lv_at hl 3 rfl) ?_
      refine lv_if_lt (tgt := 33) hx hb dX1_textLength_8 (by decide) (fun c2 => ?_) (fun c2 => ?_)
      · rw [if_pos c2] at h
        exact bX1_textLength_33 C hK hN @ih h (lv_sub hl [0, 1, 2, 3] rfl) hP
      · rw [if_neg c2] at h
        refine lv_iload_n hx hb dX1_textLength_11 rfl (lv_at hl 3 rfl) ?_
        refine lv_aload_n hx hb dX1_textLength_12 rfl (lv_at hl 0 rfl) ?_
        refine gX3_0 C hK hP w125 dX1_textLength_13 ?_
        refine lX1 C hK hP dX1_textLength_16 ?_
        refine b_icmp_ge (tgt := 33) hx hb dX1_textLength_17 (by decide) (fun c3 => ?_) (fun c3 => ?_)
        · rw [if_neg c3] at h
          exact bX1_textLength_33 C hK hN @ih h (lv_sub hl [0, 1, 2, 3] rfl) hP
        · rw [if_pos c3] at h
          refine lv_aload_n hx hb dX1_textLength_20 rfl (lv_at hl 0 rfl) ?_
          refine gX3_0 C hK hP w125 dX1_textLength_21 ?_
          refine lv_iload_n hx hb dX1_textLength_24 rfl (lv_at hl 3 rfl) ?_
          obtain ⟨n4, h⟩ := grd h
          refine aX1 (f := tp) C hK hP rfl n4 dX1_textLength_25 ?_
          refine lv_if_ne (tgt := 33) hx hb dX1_textLength_26 (by decide) (fun c5 => ?_) (fun c5 => ?_)
          · rw [if_neg c5] at h
            exact bX1_textLength_33 C hK hN @ih h (lv_sub hl [0, 1, 2, 3] rfl) hP
          · rw [if_pos c5] at h
            refine lv_iload_n hx hb dX1_textLength_29 rfl (lv_at hl 3 rfl) ?_
            refine lv_iload_n hx hb dX1_textLength_30 rfl (lv_at hl 1 rfl) ?_
            refine lv_isub hx hb dX1_textLength_31 ?_
            obtain rfl := Option.some.inj h
            exact W.iret hx hb hr (fun t ht _ => ⟨rfl, ht⟩) (fun _ h9 => by cases h9) dX1_textLength_32 hlk
def X1_textLength (tp : Ttp) (v1 : Int32) (v2 : Int32) : Option (Int32) := X1_textLength_2 tp FU (v1, v2, v1)
set_option maxRecDepth 20000 in
theorem bX1_textLength_0 (C : Cx p s m args meth c cX1_textLength 4 (some .int) RX1 (.code yX1_textLength cX1_textLength 4 (some .int))) (hK : va_K D vwCl (tysX cy) s) (hN : NW s)  {q : Int32}  {v1 : Int32} {v2 : Int32} (h : X1_textLength tp v1 v2 = some q) {ls : Array Slot} (hl : lv_has ls 4 [(0, .ref (ad 3)), (1, .int v1), (2, .int v2)]) (hP : va_P D vwCl (GX cy ad tk sp nm tp kp cu se ur ab lo im sy un en ra li i2) s.heap) : W p l e ({ frames := 0, cells := 0, slots := 0, locals := 0 } : Room) s m args below meth c s.heap [] 0 0 (MQ below (QP (some (.int q))) args s 0 0 (fun _ => False)) (F0 m 0 ls []) := by
  obtain ⟨hx, hb, hml, hown, hts, hr, hlk⟩ := id C
  unfold X1_textLength at h
  refine lv_iload_n hx hb dX1_textLength_0 rfl (lv_at hl 1 rfl) ?_
  refine lv_istore_n (lv' := [(3, .int v1), (0, .ref (ad 3)), (1, .int v1), (2, .int v2)]) hx hb dX1_textLength_1 rfl hl (by decide) rfl (fun ls hl => ?_)
  exact bX1_textLength_2 C hK hN FU h (lv_sub hl [1, 2, 3, 0] rfl) hP
theorem kX1_textLength  {v1 : Int32} {v2 : Int32} {q : Int32} (h : X1_textLength tp v1 v2 = some q) : Met l yX1_textLength (.code yX1_textLength cX1_textLength 4 (some .int) :: WA) ({ frames := 0, cells := 0, slots := 0, locals := 0 } : Room) (va_Pc [.ref (ad 3), .int v1, .int v2] (PR D cy (GX cy ad tk sp nm tp kp cu se ur ab lo im sy un en ra li i2))) (QP (some (.int q))) 0 0 (fun _ => False) :=
  met_of (by decide) (Nat.le_of_ble_eq_true rfl) (fun p e s m below meth c ls C hP hK hN hl => bX1_textLength_0 C hK hN h hl hP)
def X1_text (tp : Ttp) (cu : Tcu)  : Option (Int32 × Tcu) := (if (X1_sound cu) = 0 then some ((0 : Int32), cu) else ((X1_textLength tp cu.2.1 cu.2.2.1).bind fun q2 => (if q2 = (-1 : Int32) then (letq (X1_refuse cu (1 : Int32) cu.2.1) fun q5 => some ((0 : Int32), q5)) else some (q2, (cu.1, (cu.2.1 + (q2 + (1 : Int32))), cu.2.2.1, cu.2.2.2.1, cu.2.2.2.2)))))
set_option maxRecDepth 20000 in
theorem bX1_text_0 (C : Cx p s m args meth c cX1_text 2 (some .int) RX1 (.code yX1_text cX1_text 2 (some .int))) (hI : Apart ad 89) (hK : va_K D vwCl (tysX cy) s) (hN : NW s)  {q : Int32 × Tcu}   (h : X1_text tp cu = some q) {ls : Array Slot} (hl : lv_has ls 2 [(0, .ref (ad 3))]) {H : Heap} {locs : List Loc} (hP : va_P D vwCl (GX cy ad tk sp nm tp kp cu se ur ab lo im sy un en ra li i2) H) (hS : va_S (Ac ad 89) s.heap H locs) : W p l e ({ frames := 1, cells := 0, slots := 0, locals := 23 } : Room) s m args below meth c H locs 0 0 (MQ below (QR (some (.int q.1)) D (GX cy ad tk sp nm tp kp q.2 se ur ab lo im sy un en ra li i2) (Ac ad 89)) args s 0 0 (Ac ad 89)) (F0 m 0 ls []) := by
  obtain ⟨hx, hb, hml, hown, hts, hr, hlk⟩ := id C
  unfold X1_text at h
  refine lv_aload_n hx hb dX1_text_0 rfl (lv_at hl 0 rfl) ?_
  refine cPi (run_V (rest := []) C (kX1_sound rfl) caX1_sound w711 ⟨rfl, rfl, Nat.le_of_ble_eq_true rfl, Nat.le_of_ble_eq_true rfl⟩ hK hN hP (rX3 hK hP) rfl hl.1 rfl (Nat.le_of_ble_eq_true rfl) dX1_text_1 ⟨Nat.zero_le _, Nat.zero_le _⟩) ?_
  refine lv_if_ne (tgt := 9) hx hb dX1_text_4 (by decide) (fun c1 => ?_) (fun c1 => ?_)
  · rw [if_neg c1] at h
    refine lv_aload_n hx hb dX1_text_9 rfl (lv_at hl 0 rfl) ?_
    refine lv_aload_n hx hb dX1_text_10 rfl (lv_at hl 0 rfl) ?_
    refine gX3_2 (v := cu.2.1) C hK hP rfl w127 dX1_text_11 ?_
    refine lv_aload_n hx hb dX1_text_14 rfl (lv_at hl 0 rfl) ?_
    refine gX3_3 (v := cu.2.2.1) C hK hP rfl w128 dX1_text_15 ?_
    obtain ⟨q2, h3, h⟩ := bnd h
    refine cPi (run_V (rest := []) C (kX1_textLength h3) caX1_textLength w587 ⟨rfl, rfl, Nat.le_of_ble_eq_true rfl, Nat.le_of_ble_eq_true rfl⟩ hK hN hP (rX3 hK hP) rfl hl.1 rfl (Nat.le_of_ble_eq_true rfl) dX1_text_18 ⟨Nat.zero_le _, Nat.zero_le _⟩) ?_
    refine lv_istore_n (lv' := [(1, .int q2), (0, .ref (ad 3))]) hx hb dX1_text_21 rfl hl (by decide) rfl (fun ls hl => ?_)
    refine lv_iload_n hx hb dX1_text_22 rfl (lv_at hl 0 rfl) ?_
    refine lv_iconst (v := (-1 : Int32)) hx hb dX1_text_23 (by decide) ?_
    refine lv_icmp_ne (tgt := 38) hx hb dX1_text_24 (by decide) (fun c4 => ?_) (fun c4 => ?_)
    · rw [if_neg c4] at h
      refine lv_aload_n hx hb dX1_text_38 rfl (lv_at hl 1 rfl) ?_
      refine lv_dup hx hb dX1_text_39 rfl ?_
      refine gX3_2 (v := cu.2.1) C hK hP rfl w127 dX1_text_40 ?_
      refine lv_iload_n hx hb dX1_text_43 rfl (lv_at hl 0 rfl) ?_
      refine lv_iconst (v := (1 : Int32)) hx hb dX1_text_44 (by decide) ?_
      refine lv_iadd hx hb dX1_text_45 ?_
      refine lv_iadd hx hb dX1_text_46 ?_
      refine pX3_2 (v := (cu.2.1 + (q2 + (1 : Int32)))) C hI hK hP hS w127 dX1_text_47 (fun H locs hP hS => ?_)
      have hP : va_P D vwCl (GX cy ad tk sp nm tp kp (cu.1, (cu.2.1 + (q2 + (1 : Int32))), cu.2.2.1, cu.2.2.2.1, cu.2.2.2.2) se ur ab lo im sy un en ra li i2) H := hP
      refine lv_iload_n hx hb dX1_text_50 rfl (lv_at hl 0 rfl) ?_
      obtain rfl := Option.some.inj h
      exact W.iret hx hb hr (fun t ht _ => ⟨rfl, by rw [ht]; exact hP, hS.F ht⟩) hS.2.2 dX1_text_51 hlk
    · rw [if_pos c4] at h
      refine lv_aload_n hx hb dX1_text_27 rfl (lv_at hl 1 rfl) ?_
      refine lv_iconst (v := (1 : Int32)) hx hb dX1_text_28 (by decide) ?_
      refine lv_aload_n hx hb dX1_text_29 rfl (lv_at hl 1 rfl) ?_
      refine gX3_2 (v := cu.2.1) C hK hP rfl w127 dX1_text_30 ?_
      obtain ⟨q5, h6, h⟩ := lets h
      refine cRv (run_V (rest := []) C (kX1_refuse hI h6) caX1_refuse w586 ⟨rfl, rfl, Nat.le_of_ble_eq_true rfl, Nat.le_of_ble_eq_true rfl⟩ hK hN hP (rX3 hK hP) rfl hl.1 rfl (Nat.le_of_ble_eq_true rfl) dX1_text_33 ⟨Nat.zero_le _, Nat.zero_le _⟩) hS (fun H locs hP hS => ?_)
      have hP : va_P D vwCl (GX cy ad tk sp nm tp kp q5 se ur ab lo im sy un en ra li i2) H := hP
      refine lv_iconst (v := (0 : Int32)) hx hb dX1_text_36 (by decide) ?_
      obtain rfl := Option.some.inj h
      exact W.iret hx hb hr (fun t ht _ => ⟨rfl, by rw [ht]; exact hP, hS.F ht⟩) hS.2.2 dX1_text_37 hlk
  · rw [if_pos c1] at h
    refine lv_iconst (v := (0 : Int32)) hx hb dX1_text_7 (by decide) ?_
    obtain rfl := Option.some.inj h
    exact W.iret hx hb hr (fun t ht _ => ⟨rfl, by rw [ht]; exact hP, hS.F ht⟩) hS.2.2 dX1_text_8 hlk
theorem kX1_text (hI : Apart ad 89)  {q : Int32 × Tcu} (h : X1_text tp cu = some q) : Met l yX1_text (.code yX1_text cX1_text 2 (some .int) :: WA) ({ frames := 1, cells := 0, slots := 0, locals := 23 } : Room) (va_Pc [.ref (ad 3)] (PR D cy (GX cy ad tk sp nm tp kp cu se ur ab lo im sy un en ra li i2))) (QR (some (.int q.1)) D (GX cy ad tk sp nm tp kp q.2 se ur ab lo im sy un en ra li i2) (Ac ad 89)) 0 0 (Ac ad 89) :=
  met_of (by decide) (Nat.le_of_ble_eq_true rfl) (fun p e s m below meth c ls C hP hK hN hl => bX1_text_0 C hI hK hN h hl hP va_S.rf)
def X1_toldText_15 (tp : Ttp)  (cu : Tcu) (v5 : Int32) : Option (Int32 × Tcu) := (letq (X1_refuse cu (3 : Int32) v5) fun q1 => some ((0 : Int32), q1))
set_option maxRecDepth 20000 in
theorem bX1_toldText_15 (C : Cx p s m args meth c cX1_toldText 7 (some .int) RX1 (.code yX1_toldText cX1_toldText 7 (some .int))) (hI : Apart ad 89) (hK : va_K D vwCl (tysX cy) s) (hN : NW s)  {q : Int32 × Tcu}  {v5 : Int32} (h : X1_toldText_15 tp cu v5 = some q) {ls : Array Slot} (hl : lv_has ls 7 [(0, .ref (ad 3)), (5, .int v5)]) {H : Heap} {locs : List Loc} (hP : va_P D vwCl (GX cy ad tk sp nm tp kp cu se ur ab lo im sy un en ra li i2) H) (hS : va_S (Ac ad 89) s.heap H locs) : W p l e ({ frames := 1, cells := 0, slots := 0, locals := 23 } : Room) s m args below meth c H locs 0 0 (MQ below (QR (some (.int q.1)) D (GX cy ad tk sp nm tp kp q.2 se ur ab lo im sy un en ra li i2) (Ac ad 89)) args s 0 0 (Ac ad 89)) (F0 m 15 ls []) := by
  obtain ⟨hx, hb, hml, hown, hts, hr, hlk⟩ := id C
  unfold X1_toldText_15 at h
  refine lv_aload_n hx hb dX1_toldText_15 rfl (lv_at hl 0 rfl) ?_
  refine lv_iconst (v := (3 : Int32)) hx hb dX1_toldText_16 (by decide) ?_
  refine lv_iload hx hb dX1_toldText_17 (lv_at hl 1 rfl) ?_
  obtain ⟨q1, h2, h⟩ := lets h
  refine cRv (run_V (rest := []) C (kX1_refuse hI h2) caX1_refuse w586 ⟨rfl, rfl, Nat.le_of_ble_eq_true rfl, Nat.le_of_ble_eq_true rfl⟩ hK hN hP (rX3 hK hP) rfl hl.1 rfl (Nat.le_of_ble_eq_true rfl) dX1_toldText_19 ⟨Nat.zero_le _, Nat.zero_le _⟩) hS (fun H locs hP hS => ?_)
  have hP : va_P D vwCl (GX cy ad tk sp nm tp kp q1 se ur ab lo im sy un en ra li i2) H := hP
  refine lv_iconst (v := (0 : Int32)) hx hb dX1_toldText_22 (by decide) ?_
  obtain rfl := Option.some.inj h
  exact W.iret hx hb hr (fun t ht _ => ⟨rfl, by rw [ht]; exact hP, hS.F ht⟩) hS.2.2 dX1_toldText_23 hlk
def X1_toldText (tp : Ttp) (cu : Tcu) (v1 : Int32) (v2 : Int32) (v3 : Int64) (v5 : Int32) : Option (Int32 × Tcu) := (if v3 < (0 : Int64) then X1_toldText_15 tp cu v5 else (if v3 < (((v2 - v1)).toInt64) then ((X1_textLength tp (v1 + ((v3).toInt32)) v2).bind fun q3 => (if q3 = (-1 : Int32) then (letq (X1_refuse cu (1 : Int32) v5) fun q6 => some ((0 : Int32), q6)) else some (q3, cu))) else X1_toldText_15 tp cu v5))
set_option maxRecDepth 20000 in
theorem bX1_toldText_0 (C : Cx p s m args meth c cX1_toldText 7 (some .int) RX1 (.code yX1_toldText cX1_toldText 7 (some .int))) (hI : Apart ad 89) (hK : va_K D vwCl (tysX cy) s) (hN : NW s)  {q : Int32 × Tcu}  {v1 : Int32} {v2 : Int32} {v3 : Int64} {v5 : Int32} (h : X1_toldText tp cu v1 v2 v3 v5 = some q) {ls : Array Slot} (hl : lv_has ls 7 [(0, .ref (ad 3)), (1, .int v1), (2, .int v2), (3, .long v3), (5, .int v5)]) {H : Heap} {locs : List Loc} (hP : va_P D vwCl (GX cy ad tk sp nm tp kp cu se ur ab lo im sy un en ra li i2) H) (hS : va_S (Ac ad 89) s.heap H locs) : W p l e ({ frames := 1, cells := 0, slots := 0, locals := 23 } : Room) s m args below meth c H locs 0 0 (MQ below (QR (some (.int q.1)) D (GX cy ad tk sp nm tp kp q.2 se ur ab lo im sy un en ra li i2) (Ac ad 89)) args s 0 0 (Ac ad 89)) (F0 m 0 ls []) := by
  obtain ⟨hx, hb, hml, hown, hts, hr, hlk⟩ := id C
  unfold X1_toldText at h
  refine lv_lload_n hx hb dX1_toldText_0 rfl (lv_at hl 3 rfl) ?_
  refine lv_lconst (v := (0 : Int64)) hx hb dX1_toldText_1 (by decide) ?_
  refine lc_lt (tgt := 15) hx hb dX1_toldText_2 dX1_toldText_3 (by decide) (fun c1 => ?_) (fun c1 => ?_)
  · rw [if_pos c1] at h
    exact bX1_toldText_15 C hI hK hN h (lv_sub hl [0, 4] rfl) hP hS
  · rw [if_neg c1] at h
    refine lv_lload_n hx hb dX1_toldText_6 rfl (lv_at hl 3 rfl) ?_
    refine lv_iload_n hx hb dX1_toldText_7 rfl (lv_at hl 2 rfl) ?_
    refine lv_iload_n hx hb dX1_toldText_8 rfl (lv_at hl 1 rfl) ?_
    refine lv_isub hx hb dX1_toldText_9 ?_
    refine lv_i2l (v := (((v2 - v1)).toInt64)) hx hb dX1_toldText_10 rfl ?_
    refine lc_lt (tgt := 24) hx hb dX1_toldText_11 dX1_toldText_12 (by decide) (fun c2 => ?_) (fun c2 => ?_)
    · rw [if_pos c2] at h
      refine lv_aload_n hx hb dX1_toldText_24 rfl (lv_at hl 0 rfl) ?_
      refine lv_iload_n hx hb dX1_toldText_25 rfl (lv_at hl 1 rfl) ?_
      refine lv_lload_n hx hb dX1_toldText_26 rfl (lv_at hl 3 rfl) ?_
      refine lv_l2i (v := ((v3).toInt32)) hx hb dX1_toldText_27 rfl ?_
      refine lv_iadd hx hb dX1_toldText_28 ?_
      refine lv_iload_n hx hb dX1_toldText_29 rfl (lv_at hl 2 rfl) ?_
      obtain ⟨q3, h4, h⟩ := bnd h
      refine cPi (run_V (rest := []) C (kX1_textLength h4) caX1_textLength w587 ⟨rfl, rfl, Nat.le_of_ble_eq_true rfl, Nat.le_of_ble_eq_true rfl⟩ hK hN hP (rX3 hK hP) rfl hl.1 rfl (Nat.le_of_ble_eq_true rfl) dX1_toldText_30 ⟨Nat.zero_le _, Nat.zero_le _⟩) ?_
      refine lv_istore (lv' := [(6, .int q3), (0, .ref (ad 3)), (1, .int v1), (2, .int v2), (3, .long v3), (5, .int v5)]) hx hb dX1_toldText_33 hl (by decide) rfl (fun ls hl => ?_)
      refine lv_iload hx hb dX1_toldText_35 (lv_at hl 0 rfl) ?_
      refine lv_iconst (v := (-1 : Int32)) hx hb dX1_toldText_37 (by decide) ?_
      refine lv_icmp_ne (tgt := 50) hx hb dX1_toldText_38 (by decide) (fun c5 => ?_) (fun c5 => ?_)
      · rw [if_neg c5] at h
        refine lv_iload hx hb dX1_toldText_50 (lv_at hl 0 rfl) ?_
        obtain rfl := Option.some.inj h
        exact W.iret hx hb hr (fun t ht _ => ⟨rfl, by rw [ht]; exact hP, hS.F ht⟩) hS.2.2 dX1_toldText_52 hlk
      · rw [if_pos c5] at h
        refine lv_aload_n hx hb dX1_toldText_41 rfl (lv_at hl 1 rfl) ?_
        refine lv_iconst (v := (1 : Int32)) hx hb dX1_toldText_42 (by decide) ?_
        refine lv_iload hx hb dX1_toldText_43 (lv_at hl 5 rfl) ?_
        obtain ⟨q6, h7, h⟩ := lets h
        refine cRv (run_V (rest := []) C (kX1_refuse hI h7) caX1_refuse w586 ⟨rfl, rfl, Nat.le_of_ble_eq_true rfl, Nat.le_of_ble_eq_true rfl⟩ hK hN hP (rX3 hK hP) rfl hl.1 rfl (Nat.le_of_ble_eq_true rfl) dX1_toldText_45 ⟨Nat.zero_le _, Nat.zero_le _⟩) hS (fun H locs hP hS => ?_)
        have hP : va_P D vwCl (GX cy ad tk sp nm tp kp q6 se ur ab lo im sy un en ra li i2) H := hP
        refine lv_iconst (v := (0 : Int32)) hx hb dX1_toldText_48 (by decide) ?_
        obtain rfl := Option.some.inj h
        exact W.iret hx hb hr (fun t ht _ => ⟨rfl, by rw [ht]; exact hP, hS.F ht⟩) hS.2.2 dX1_toldText_49 hlk
    · rw [if_neg c2] at h
      exact bX1_toldText_15 C hI hK hN h (lv_sub hl [0, 4] rfl) hP hS
theorem kX1_toldText (hI : Apart ad 89) {v1 : Int32} {v2 : Int32} {v3 : Int64} {v5 : Int32} {q : Int32 × Tcu} (h : X1_toldText tp cu v1 v2 v3 v5 = some q) : Met l yX1_toldText (.code yX1_toldText cX1_toldText 7 (some .int) :: WA) ({ frames := 1, cells := 0, slots := 0, locals := 23 } : Room) (va_Pc [.ref (ad 3), .int v1, .int v2, .long v3, .int v5] (PR D cy (GX cy ad tk sp nm tp kp cu se ur ab lo im sy un en ra li i2))) (QR (some (.int q.1)) D (GX cy ad tk sp nm tp kp q.2 se ur ab lo im sy un en ra li i2) (Ac ad 89)) 0 0 (Ac ad 89) :=
  met_of (by decide) (Nat.le_of_ble_eq_true rfl) (fun p e s m below meth c ls C hP hK hN hl => bX1_toldText_0 C hI hK hN h hl hP va_S.rf)
def X1_enterCounted (tp : Ttp) (cu : Tcu)  : Option (Tcu) := ((X1_number tp cu (4 : Int32)).bind fun q1 => (if q1.1 < (4294967280 : Int64) then (if (X1_hasLeft q1.2 q1.1) = 0 then (letq (X1_refuse q1.2 (1 : Int32) cu.2.1) fun q5 => some q5) else some (q1.2.1, q1.2.2.1, (q1.2.2.1 + ((q1.1).toInt32)), q1.2.2.2.2.1, q1.2.2.2.2.2)) else (letq (X1_refuse q1.2 (2 : Int32) cu.2.1) fun q7 => some q7)))
set_option maxRecDepth 20000 in
theorem bX1_enterCounted_0 (C : Cx p s m args meth c cX1_enterCounted 4 none RX1 (.code yX1_enterCounted cX1_enterCounted 4 none)) (hI : Apart ad 89) (hK : va_K D vwCl (tysX cy) s) (hN : NW s)  {q : Tcu}   (h : X1_enterCounted tp cu = some q) {ls : Array Slot} (hl : lv_has ls 4 [(0, .ref (ad 3))]) {H : Heap} {locs : List Loc} (hP : va_P D vwCl (GX cy ad tk sp nm tp kp cu se ur ab lo im sy un en ra li i2) H) (hS : va_S (Ac ad 89) s.heap H locs) : W p l e ({ frames := 2, cells := 0, slots := 0, locals := 51 } : Room) s m args below meth c H locs 0 0 (MQ below (QR none D (GX cy ad tk sp nm tp kp q se ur ab lo im sy un en ra li i2) (Ac ad 89)) args s 0 0 (Ac ad 89)) (F0 m 0 ls []) := by
  obtain ⟨hx, hb, hml, hown, hts, hr, hlk⟩ := id C
  unfold X1_enterCounted at h
  refine lv_aload_n hx hb dX1_enterCounted_0 rfl (lv_at hl 0 rfl) ?_
  refine gX3_2 (v := cu.2.1) C hK hP rfl w127 dX1_enterCounted_1 ?_
  refine lv_istore_n (lv' := [(1, .int cu.2.1), (0, .ref (ad 3))]) hx hb dX1_enterCounted_4 rfl hl (by decide) rfl (fun ls hl => ?_)
  refine lv_aload_n hx hb dX1_enterCounted_5 rfl (lv_at hl 1 rfl) ?_
  refine lv_iconst (v := (4 : Int32)) hx hb dX1_enterCounted_6 (by decide) ?_
  obtain ⟨q1, h2, h⟩ := bnd h
  refine cRl (run_V (rest := []) C (kX1_number hI h2) caX1_number w707 ⟨rfl, rfl, Nat.le_of_ble_eq_true rfl, Nat.le_of_ble_eq_true rfl⟩ hK hN hP (rX3 hK hP) rfl hl.1 rfl (Nat.le_of_ble_eq_true rfl) dX1_enterCounted_7 ⟨Nat.zero_le _, Nat.zero_le _⟩) hS (fun H locs hP hS => ?_)
  have hP : va_P D vwCl (GX cy ad tk sp nm tp kp q1.2 se ur ab lo im sy un en ra li i2) H := hP
  refine lv_lstore_n (lv' := [(2, .long q1.1), (1, .int cu.2.1), (0, .ref (ad 3))]) hx hb dX1_enterCounted_10 rfl hl (by decide) rfl (fun ls hl => ?_)
  refine lv_lload_n hx hb dX1_enterCounted_11 rfl (lv_at hl 0 rfl) ?_
  refine lv_ldc2 (v := (4294967280 : Int64)) hx hb hown (hts _ (List.mem_cons_of_mem _ w717)) dX1_enterCounted_12 ?_
  refine lc_lt (tgt := 28) hx hb dX1_enterCounted_15 dX1_enterCounted_16 (by decide) (fun c3 => ?_) (fun c3 => ?_)
  · rw [if_pos c3] at h
    refine lv_aload_n hx hb dX1_enterCounted_28 rfl (lv_at hl 2 rfl) ?_
    refine lv_lload_n hx hb dX1_enterCounted_29 rfl (lv_at hl 0 rfl) ?_
    refine cPi (run_V (rest := []) C (kX1_hasLeft rfl) caX1_hasLeft w712 ⟨rfl, rfl, Nat.le_of_ble_eq_true rfl, Nat.le_of_ble_eq_true rfl⟩ hK hN hP (rX3 hK hP) rfl hl.1 rfl (Nat.le_of_ble_eq_true rfl) dX1_enterCounted_30 ⟨Nat.zero_le _, Nat.zero_le _⟩) ?_
    refine lv_if_ne (tgt := 45) hx hb dX1_enterCounted_33 (by decide) (fun c4 => ?_) (fun c4 => ?_)
    · rw [if_neg c4] at h
      refine lv_aload_n hx hb dX1_enterCounted_45 rfl (lv_at hl 2 rfl) ?_
      refine lv_aload_n hx hb dX1_enterCounted_46 rfl (lv_at hl 2 rfl) ?_
      refine gX3_2 (v := q1.2.2.1) C hK hP rfl w127 dX1_enterCounted_47 ?_
      refine lv_lload_n hx hb dX1_enterCounted_50 rfl (lv_at hl 0 rfl) ?_
      refine lv_l2i (v := ((q1.1).toInt32)) hx hb dX1_enterCounted_51 rfl ?_
      refine lv_iadd hx hb dX1_enterCounted_52 ?_
      refine pX3_3 (v := (q1.2.2.1 + ((q1.1).toInt32))) C hI hK hP hS w128 dX1_enterCounted_53 (fun H locs hP hS => ?_)
      have hP : va_P D vwCl (GX cy ad tk sp nm tp kp (q1.2.1, q1.2.2.1, (q1.2.2.1 + ((q1.1).toInt32)), q1.2.2.2.2.1, q1.2.2.2.2.2) se ur ab lo im sy un en ra li i2) H := hP
      obtain rfl := Option.some.inj h
      exact W.vret hx hb hr (fun t ht _ => ⟨rfl, by rw [ht]; exact hP, hS.F ht⟩) hS.2.2 dX1_enterCounted_56 hlk
    · rw [if_pos c4] at h
      refine lv_aload_n hx hb dX1_enterCounted_36 rfl (lv_at hl 2 rfl) ?_
      refine lv_iconst (v := (1 : Int32)) hx hb dX1_enterCounted_37 (by decide) ?_
      refine lv_iload_n hx hb dX1_enterCounted_38 rfl (lv_at hl 1 rfl) ?_
      obtain ⟨q5, h6, h⟩ := lets h
      refine cRv (run_V (rest := []) C (kX1_refuse hI h6) caX1_refuse w586 ⟨rfl, rfl, Nat.le_of_ble_eq_true rfl, Nat.le_of_ble_eq_true rfl⟩ hK hN hP (rX3 hK hP) rfl hl.1 rfl (Nat.le_of_ble_eq_true rfl) dX1_enterCounted_39 ⟨Nat.zero_le _, Nat.zero_le _⟩) hS (fun H locs hP hS => ?_)
      have hP : va_P D vwCl (GX cy ad tk sp nm tp kp q5 se ur ab lo im sy un en ra li i2) H := hP
      refine lv_goto (tgt := 56) hx hb dX1_enterCounted_42 (by decide) ?_
      obtain rfl := Option.some.inj h
      exact W.vret hx hb hr (fun t ht _ => ⟨rfl, by rw [ht]; exact hP, hS.F ht⟩) hS.2.2 dX1_enterCounted_56 hlk
  · rw [if_neg c3] at h
    refine lv_aload_n hx hb dX1_enterCounted_19 rfl (lv_at hl 2 rfl) ?_
    refine lv_iconst (v := (2 : Int32)) hx hb dX1_enterCounted_20 (by decide) ?_
    refine lv_iload_n hx hb dX1_enterCounted_21 rfl (lv_at hl 1 rfl) ?_
    obtain ⟨q7, h8, h⟩ := lets h
    refine cRv (run_V (rest := []) C (kX1_refuse hI h8) caX1_refuse w586 ⟨rfl, rfl, Nat.le_of_ble_eq_true rfl, Nat.le_of_ble_eq_true rfl⟩ hK hN hP (rX3 hK hP) rfl hl.1 rfl (Nat.le_of_ble_eq_true rfl) dX1_enterCounted_22 ⟨Nat.zero_le _, Nat.zero_le _⟩) hS (fun H locs hP hS => ?_)
    have hP : va_P D vwCl (GX cy ad tk sp nm tp kp q7 se ur ab lo im sy un en ra li i2) H := hP
    refine lv_goto (tgt := 56) hx hb dX1_enterCounted_25 (by decide) ?_
    obtain rfl := Option.some.inj h
    exact W.vret hx hb hr (fun t ht _ => ⟨rfl, by rw [ht]; exact hP, hS.F ht⟩) hS.2.2 dX1_enterCounted_56 hlk
theorem kX1_enterCounted (hI : Apart ad 89)  {q : Tcu} (h : X1_enterCounted tp cu = some q) : Met l yX1_enterCounted (.code yX1_enterCounted cX1_enterCounted 4 none :: WA) ({ frames := 2, cells := 0, slots := 0, locals := 51 } : Room) (va_Pc [.ref (ad 3)] (PR D cy (GX cy ad tk sp nm tp kp cu se ur ab lo im sy un en ra li i2))) (QR none D (GX cy ad tk sp nm tp kp q se ur ab lo im sy un en ra li i2) (Ac ad 89)) 0 0 (Ac ad 89) :=
  met_of (by decide) (Nat.le_of_ble_eq_true rfl) (fun p e s m below meth c ls C hP hK hN hl => bX1_enterCounted_0 C hI hK hN h hl hP va_S.rf)
end
