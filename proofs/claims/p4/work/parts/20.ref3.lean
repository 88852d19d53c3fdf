section
variable {t adK adV : Nat → Nat} {k : Nat}
variable {p : Program} {l : Launch} {e : Env} {s : State} {m : MethodId} {args : Array Value} {below : List Frame} {meth : Method} {c : Code} {D : va_G} {cy : Nat → ClassId} {ad : Nat → Nat}
variable {mt : Tmt} {mc : Tmc} {mb : Tmb} {mo : Tmo} {ms : Tms} {mk : Tmk} {my : Tmy} {mu : Tmu} {ma : Tma} {me : Tme} {mr : Tmr} {mp : Tmp} {mg : Tmg} {mw : Tmw} {mf : Tmf} {ml : Tml} {mq : Tmq}
def X12_list_398 (mb : Tmb) (ms : Tms) (mu : Tmu) (me : Tme) (k81 : Tmc → Tmg → Int32 → Int64 → Int32 → Option (Tmc × Tmg)) (mc : Tmc) (mg : Tmg) (v1 : Int32) (v3 : Int64) (v5 : Int32) : Option (Tmc × Tmg) := k81 mc mg v1 v3 v5
set_option maxRecDepth 20000 in
theorem bX12_list_398 (C : Cx p s m args meth c cX12_list 13 none RX12 (.code yX12_list cX12_list 13 none)) (hI : Apart ad 71) (hK : va_K D vwCl (tysX cy) s) (hN : NW s) {k81 : Tmc → Tmg → Int32 → Int64 → Int32 → Option (Tmc × Tmg)} {q : Tmc × Tmg} (hk81 : ∀ {mc : Tmc} {mg : Tmg} {v1 : Int32} {v3 : Int64} {v5 : Int32}, k81 mc mg v1 v3 v5 = some q → ∀ {ls : Array Slot}, lv_has ls 13 [(0, .ref (ad 0)), (1, .int v1), (3, .long v3), (5, .int v5)] → ∀ {H : Heap} {locs : List Loc}, va_P D vwCl (GM cy ad mt mc mb mo ms mk my mu ma me mr mp mg mw mf ml mq) H → va_S (Ac ad 71) s.heap H locs → W p l e ({ frames := 3, cells := 0, slots := 0, locals := 76 } : Room) s m args below meth c H locs 0 0 (MQ below (QR none D (GM cy ad mt q.1 mb mo ms mk my mu ma me mr mp q.2 mw mf ml mq) (Ac ad 71)) args s 0 0 (Ac ad 71)) (F0 m 81 ls [])) {v1 : Int32} {v3 : Int64} {v5 : Int32} (h : X12_list_398 mb ms mu me k81 mc mg v1 v3 v5 = some q) {ls : Array Slot} (hl : lv_has ls 13 [(0, .ref (ad 0)), (1, .int v1), (3, .long v3), (5, .int v5)]) {H : Heap} {locs : List Loc} (hP : va_P D vwCl (GM cy ad mt mc mb mo ms mk my mu ma me mr mp mg mw mf ml mq) H) (hS : va_S (Ac ad 71) s.heap H locs) : W p l e ({ frames := 3, cells := 0, slots := 0, locals := 76 } : Room) s m args below meth c H locs 0 0 (MQ below (QR none D (GM cy ad mt q.1 mb mo ms mk my mu ma me mr mp q.2 mw mf ml mq) (Ac ad 71)) args s 0 0 (Ac ad 71)) (F0 m 398 ls []) := by
  obtain ⟨hx, hb, hml, hown, hts, hr, hlk⟩ := id C
  unfold X12_list_398 at h
  refine lv_goto (tgt := 81) hx hb dX12_list_398 (by decide) ?_
  exact hk81 h (lv_sub hl [0, 1, 2, 3] rfl) hP hS
def X12_list_215 (mb : Tmb) (ms : Tms) (mu : Tmu) (me : Tme) (k81 : Tmc → Tmg → Int32 → Int64 → Int32 → Option (Tmc × Tmg)) (mc : Tmc) (mg : Tmg) (v1 : Int32) (v3 : Int64) (v5 : Int32) : Option (Tmc × Tmg) := X12_list_398 mb ms mu me k81 mc mg v1 v3 v5
set_option maxRecDepth 20000 in
theorem bX12_list_215 (C : Cx p s m args meth c cX12_list 13 none RX12 (.code yX12_list cX12_list 13 none)) (hI : Apart ad 71) (hK : va_K D vwCl (tysX cy) s) (hN : NW s) {k81 : Tmc → Tmg → Int32 → Int64 → Int32 → Option (Tmc × Tmg)} {q : Tmc × Tmg} (hk81 : ∀ {mc : Tmc} {mg : Tmg} {v1 : Int32} {v3 : Int64} {v5 : Int32}, k81 mc mg v1 v3 v5 = some q → ∀ {ls : Array Slot}, lv_has ls 13 [(0, .ref (ad 0)), (1, .int v1), (3, .long v3), (5, .int v5)] → ∀ {H : Heap} {locs : List Loc}, va_P D vwCl (GM cy ad mt mc mb mo ms mk my mu ma me mr mp mg mw mf ml mq) H → va_S (Ac ad 71) s.heap H locs → W p l e ({ frames := 3, cells := 0, slots := 0, locals := 76 } : Room) s m args below meth c H locs 0 0 (MQ below (QR none D (GM cy ad mt q.1 mb mo ms mk my mu ma me mr mp q.2 mw mf ml mq) (Ac ad 71)) args s 0 0 (Ac ad 71)) (F0 m 81 ls [])) {v1 : Int32} {v3 : Int64} {v5 : Int32} (h : X12_list_215 mb ms mu me k81 mc mg v1 v3 v5 = some q) {ls : Array Slot} (hl : lv_has ls 13 [(0, .ref (ad 0)), (1, .int v1), (3, .long v3), (5, .int v5)]) {H : Heap} {locs : List Loc} (hP : va_P D vwCl (GM cy ad mt mc mb mo ms mk my mu ma me mr mp mg mw mf ml mq) H) (hS : va_S (Ac ad 71) s.heap H locs) : W p l e ({ frames := 3, cells := 0, slots := 0, locals := 76 } : Room) s m args below meth c H locs 0 0 (MQ below (QR none D (GM cy ad mt q.1 mb mo ms mk my mu ma me mr mp q.2 mw mf ml mq) (Ac ad 71)) args s 0 0 (Ac ad 71)) (F0 m 215 ls []) := by
  obtain ⟨hx, hb, hml, hown, hts, hr, hlk⟩ := id C
  unfold X12_list_215 at h
  refine lv_goto (tgt := 398) hx hb dX12_list_215 (by decide) ?_
  exact bX12_list_398 C hI hK hN @hk81 h (lv_sub hl [0, 1, 2, 3] rfl) hP hS
def X12_list_189 (mb : Tmb) (ms : Tms) (mu : Tmu) (me : Tme) (k81 : Tmc → Tmg → Int32 → Int64 → Int32 → Option (Tmc × Tmg)) (mc : Tmc) (mg : Tmg) (v1 : Int32) (v3 : Int64) (v5 : Int32) (v6 : Int32) (v8 : Int64) (v10 : Int64) (z0 : Int32) : Option (Tmc × Tmg) := (if (X12_isRight mc) = 0 then X12_list_215 mb ms mu me k81 mc mg v1 v3 v5 else ((X12_spans mc mb mg v1 (v3 + v8) (v3 + v10) z0 v6).bind fun q2 => X12_list_215 mb ms mu me k81 q2.1 q2.2 v1 v3 v5))
set_option maxRecDepth 20000 in
theorem bX12_list_189 (C : Cx p s m args meth c cX12_list 13 none RX12 (.code yX12_list cX12_list 13 none)) (hI : Apart ad 71) (hK : va_K D vwCl (tysX cy) s) (hN : NW s) {k81 : Tmc → Tmg → Int32 → Int64 → Int32 → Option (Tmc × Tmg)} {q : Tmc × Tmg} (hk81 : ∀ {mc : Tmc} {mg : Tmg} {v1 : Int32} {v3 : Int64} {v5 : Int32}, k81 mc mg v1 v3 v5 = some q → ∀ {ls : Array Slot}, lv_has ls 13 [(0, .ref (ad 0)), (1, .int v1), (3, .long v3), (5, .int v5)] → ∀ {H : Heap} {locs : List Loc}, va_P D vwCl (GM cy ad mt mc mb mo ms mk my mu ma me mr mp mg mw mf ml mq) H → va_S (Ac ad 71) s.heap H locs → W p l e ({ frames := 3, cells := 0, slots := 0, locals := 76 } : Room) s m args below meth c H locs 0 0 (MQ below (QR none D (GM cy ad mt q.1 mb mo ms mk my mu ma me mr mp q.2 mw mf ml mq) (Ac ad 71)) args s 0 0 (Ac ad 71)) (F0 m 81 ls [])) {v1 : Int32} {v3 : Int64} {v5 : Int32} {v6 : Int32} {v8 : Int64} {v10 : Int64} {z0 : Int32} (h : X12_list_189 mb ms mu me k81 mc mg v1 v3 v5 v6 v8 v10 z0 = some q) {ls : Array Slot} (hl : lv_has ls 13 [(0, .ref (ad 0)), (1, .int v1), (3, .long v3), (5, .int v5), (6, .int v6), (8, .long v8), (10, .long v10)]) {H : Heap} {locs : List Loc} (hP : va_P D vwCl (GM cy ad mt mc mb mo ms mk my mu ma me mr mp mg mw mf ml mq) H) (hS : va_S (Ac ad 71) s.heap H locs) : W p l e ({ frames := 3, cells := 0, slots := 0, locals := 76 } : Room) s m args below meth c H locs 0 0 (MQ below (QR none D (GM cy ad mt q.1 mb mo ms mk my mu ma me mr mp q.2 mw mf ml mq) (Ac ad 71)) args s 0 0 (Ac ad 71)) (F0 m 189 ls [.int z0]) := by
  obtain ⟨hx, hb, hml, hown, hts, hr, hlk⟩ := id C
  unfold X12_list_189 at h
  refine lv_istore (lv' := [(12, .int z0), (0, .ref (ad 0)), (1, .int v1), (3, .long v3), (5, .int v5), (6, .int v6), (8, .long v8), (10, .long v10)]) hx hb dX12_list_189 hl (by decide) rfl (fun ls hl => ?_)
  refine lv_aload_n hx hb dX12_list_191 rfl (lv_at hl 1 rfl) ?_
  refine cPi (run_V (rest := []) C (kX12_isRight rfl) caX12_isRight w1682 ⟨rfl, rfl, Nat.le_of_ble_eq_true rfl, Nat.le_of_ble_eq_true rfl⟩ hK hN hP (rM0 hK hP) rfl hl.1 rfl (Nat.le_of_ble_eq_true rfl) dX12_list_192 ⟨Nat.zero_le _, Nat.zero_le _⟩) ?_
  refine lv_if_eq (tgt := 215) hx hb dX12_list_195 (by decide) (fun c1 => ?_) (fun c1 => ?_)
  · rw [if_pos c1] at h
    exact bX12_list_215 C hI hK hN @hk81 h (lv_sub hl [1, 2, 3, 4] rfl) hP hS
  · rw [if_neg c1] at h
    refine lv_aload_n hx hb dX12_list_198 rfl (lv_at hl 1 rfl) ?_
    refine lv_iload_n hx hb dX12_list_199 rfl (lv_at hl 2 rfl) ?_
    refine lv_lload_n hx hb dX12_list_200 rfl (lv_at hl 3 rfl) ?_
    refine lv_lload hx hb dX12_list_201 (lv_at hl 6 rfl) ?_
    refine lv_ladd hx hb dX12_list_203 ?_
    refine lv_lload_n hx hb dX12_list_204 rfl (lv_at hl 3 rfl) ?_
    refine lv_lload hx hb dX12_list_205 (lv_at hl 7 rfl) ?_
    refine lv_ladd hx hb dX12_list_207 ?_
    refine lv_iload hx hb dX12_list_208 (lv_at hl 0 rfl) ?_
    refine lv_iload hx hb dX12_list_210 (lv_at hl 5 rfl) ?_
    obtain ⟨q2, h3, h⟩ := bnd h
    refine cRv (run_V (rest := []) C (kX12_spans hI h3) caX12_spans w1829 ⟨rfl, rfl, Nat.le_of_ble_eq_true rfl, Nat.le_of_ble_eq_true rfl⟩ hK hN hP (rM0 hK hP) rfl hl.1 rfl (Nat.le_of_ble_eq_true rfl) dX12_list_212 ⟨Nat.zero_le _, Nat.zero_le _⟩) hS (fun H locs hP hS => ?_)
    have hP : va_P D vwCl (GM cy ad mt q2.1 mb mo ms mk my mu ma me mr mp q2.2 mw mf ml mq) H := hP
    exact bX12_list_215 C hI hK hN @hk81 h (lv_sub hl [1, 2, 3, 4] rfl) hP hS
def X12_list_188 (mb : Tmb) (ms : Tms) (mu : Tmu) (me : Tme) (k81 : Tmc → Tmg → Int32 → Int64 → Int32 → Option (Tmc × Tmg)) (mc : Tmc) (mg : Tmg) (v1 : Int32) (v3 : Int64) (v5 : Int32) (v6 : Int32) (v8 : Int64) (v10 : Int64) : Option (Tmc × Tmg) := X12_list_189 mb ms mu me k81 mc mg v1 v3 v5 v6 v8 v10 (0 : Int32)
set_option maxRecDepth 20000 in
theorem bX12_list_188 (C : Cx p s m args meth c cX12_list 13 none RX12 (.code yX12_list cX12_list 13 none)) (hI : Apart ad 71) (hK : va_K D vwCl (tysX cy) s) (hN : NW s) {k81 : Tmc → Tmg → Int32 → Int64 → Int32 → Option (Tmc × Tmg)} {q : Tmc × Tmg} (hk81 : ∀ {mc : Tmc} {mg : Tmg} {v1 : Int32} {v3 : Int64} {v5 : Int32}, k81 mc mg v1 v3 v5 = some q → ∀ {ls : Array Slot}, lv_has ls 13 [(0, .ref (ad 0)), (1, .int v1), (3, .long v3), (5, .int v5)] → ∀ {H : Heap} {locs : List Loc}, va_P D vwCl (GM cy ad mt mc mb mo ms mk my mu ma me mr mp mg mw mf ml mq) H → va_S (Ac ad 71) s.heap H locs → W p l e ({ frames := 3, cells := 0, slots := 0, locals := 76 } : Room) s m args below meth c H locs 0 0 (MQ below (QR none D (GM cy ad mt q.1 mb mo ms mk my mu ma me mr mp q.2 mw mf ml mq) (Ac ad 71)) args s 0 0 (Ac ad 71)) (F0 m 81 ls [])) {v1 : Int32} {v3 : Int64} {v5 : Int32} {v6 : Int32} {v8 : Int64} {v10 : Int64} (h : X12_list_188 mb ms mu me k81 mc mg v1 v3 v5 v6 v8 v10 = some q) {ls : Array Slot} (hl : lv_has ls 13 [(0, .ref (ad 0)), (1, .int v1), (3, .long v3), (5, .int v5), (6, .int v6), (8, .long v8), (10, .long v10)]) {H : Heap} {locs : List Loc} (hP : va_P D vwCl (GM cy ad mt mc mb mo ms mk my mu ma me mr mp mg mw mf ml mq) H) (hS : va_S (Ac ad 71) s.heap H locs) : W p l e ({ frames := 3, cells := 0, slots := 0, locals := 76 } : Room) s m args below meth c H locs 0 0 (MQ below (QR none D (GM cy ad mt q.1 mb mo ms mk my mu ma me mr mp q.2 mw mf ml mq) (Ac ad 71)) args s 0 0 (Ac ad 71)) (F0 m 188 ls []) := by
  obtain ⟨hx, hb, hml, hown, hts, hr, hlk⟩ := id C
  unfold X12_list_188 at h
  refine lv_iconst (v := (0 : Int32)) hx hb dX12_list_188 (by decide) ?_
  exact bX12_list_189 C hI hK hN @hk81 h (lv_sub hl [0, 1, 2, 3, 4, 5, 6] rfl) hP hS
def X12_list_314 (mb : Tmb) (ms : Tms) (mu : Tmu) (me : Tme) (k81 : Tmc → Tmg → Int32 → Int64 → Int32 → Option (Tmc × Tmg)) (mc : Tmc) (mg : Tmg) (v1 : Int32) (v3 : Int64) (v5 : Int32) : Option (Tmc × Tmg) := X12_list_398 mb ms mu me k81 mc mg v1 v3 v5
set_option maxRecDepth 20000 in
theorem bX12_list_314 (C : Cx p s m args meth c cX12_list 13 none RX12 (.code yX12_list cX12_list 13 none)) (hI : Apart ad 71) (hK : va_K D vwCl (tysX cy) s) (hN : NW s) {k81 : Tmc → Tmg → Int32 → Int64 → Int32 → Option (Tmc × Tmg)} {q : Tmc × Tmg} (hk81 : ∀ {mc : Tmc} {mg : Tmg} {v1 : Int32} {v3 : Int64} {v5 : Int32}, k81 mc mg v1 v3 v5 = some q → ∀ {ls : Array Slot}, lv_has ls 13 [(0, .ref (ad 0)), (1, .int v1), (3, .long v3), (5, .int v5)] → ∀ {H : Heap} {locs : List Loc}, va_P D vwCl (GM cy ad mt mc mb mo ms mk my mu ma me mr mp mg mw mf ml mq) H → va_S (Ac ad 71) s.heap H locs → W p l e ({ frames := 3, cells := 0, slots := 0, locals := 76 } : Room) s m args below meth c H locs 0 0 (MQ below (QR none D (GM cy ad mt q.1 mb mo ms mk my mu ma me mr mp q.2 mw mf ml mq) (Ac ad 71)) args s 0 0 (Ac ad 71)) (F0 m 81 ls [])) {v1 : Int32} {v3 : Int64} {v5 : Int32} (h : X12_list_314 mb ms mu me k81 mc mg v1 v3 v5 = some q) {ls : Array Slot} (hl : lv_has ls 13 [(0, .ref (ad 0)), (1, .int v1), (3, .long v3), (5, .int v5)]) {H : Heap} {locs : List Loc} (hP : va_P D vwCl (GM cy ad mt mc mb mo ms mk my mu ma me mr mp mg mw mf ml mq) H) (hS : va_S (Ac ad 71) s.heap H locs) : W p l e ({ frames := 3, cells := 0, slots := 0, locals := 76 } : Room) s m args below meth c H locs 0 0 (MQ below (QR none D (GM cy ad mt q.1 mb mo ms mk my mu ma me mr mp q.2 mw mf ml mq) (Ac ad 71)) args s 0 0 (Ac ad 71)) (F0 m 314 ls []) := by
  obtain ⟨hx, hb, hml, hown, hts, hr, hlk⟩ := id C
  unfold X12_list_314 at h
  refine lv_goto (tgt := 398) hx hb dX12_list_314 (by decide) ?_
  exact bX12_list_398 C hI hK hN @hk81 h (lv_sub hl [0, 1, 2, 3] rfl) hP hS
def X12_list_309 (mb : Tmb) (ms : Tms) (mu : Tmu) (me : Tme) (k81 : Tmc → Tmg → Int32 → Int64 → Int32 → Option (Tmc × Tmg)) (mc : Tmc) (mg : Tmg) (v1 : Int32) (v3 : Int64) (v5 : Int32) (v6 : Int32) (z0 : Int32) (z1 : Int64) (z2 : Int64) (z3 : Int32) : Option (Tmc × Tmg) := ((X12_spans mc mb mg z3 z2 z1 z0 v6).bind fun q1 => X12_list_314 mb ms mu me k81 q1.1 q1.2 v1 v3 v5)
set_option maxRecDepth 20000 in
theorem bX12_list_309 (C : Cx p s m args meth c cX12_list 13 none RX12 (.code yX12_list cX12_list 13 none)) (hI : Apart ad 71) (hK : va_K D vwCl (tysX cy) s) (hN : NW s) {k81 : Tmc → Tmg → Int32 → Int64 → Int32 → Option (Tmc × Tmg)} {q : Tmc × Tmg} (hk81 : ∀ {mc : Tmc} {mg : Tmg} {v1 : Int32} {v3 : Int64} {v5 : Int32}, k81 mc mg v1 v3 v5 = some q → ∀ {ls : Array Slot}, lv_has ls 13 [(0, .ref (ad 0)), (1, .int v1), (3, .long v3), (5, .int v5)] → ∀ {H : Heap} {locs : List Loc}, va_P D vwCl (GM cy ad mt mc mb mo ms mk my mu ma me mr mp mg mw mf ml mq) H → va_S (Ac ad 71) s.heap H locs → W p l e ({ frames := 3, cells := 0, slots := 0, locals := 76 } : Room) s m args below meth c H locs 0 0 (MQ below (QR none D (GM cy ad mt q.1 mb mo ms mk my mu ma me mr mp q.2 mw mf ml mq) (Ac ad 71)) args s 0 0 (Ac ad 71)) (F0 m 81 ls [])) {v1 : Int32} {v3 : Int64} {v5 : Int32} {v6 : Int32} {z0 : Int32} {z1 : Int64} {z2 : Int64} {z3 : Int32} (h : X12_list_309 mb ms mu me k81 mc mg v1 v3 v5 v6 z0 z1 z2 z3 = some q) {ls : Array Slot} (hl : lv_has ls 13 [(0, .ref (ad 0)), (1, .int v1), (3, .long v3), (5, .int v5), (6, .int v6)]) {H : Heap} {locs : List Loc} (hP : va_P D vwCl (GM cy ad mt mc mb mo ms mk my mu ma me mr mp mg mw mf ml mq) H) (hS : va_S (Ac ad 71) s.heap H locs) : W p l e ({ frames := 3, cells := 0, slots := 0, locals := 76 } : Room) s m args below meth c H locs 0 0 (MQ below (QR none D (GM cy ad mt q.1 mb mo ms mk my mu ma me mr mp q.2 mw mf ml mq) (Ac ad 71)) args s 0 0 (Ac ad 71)) (F0 m 309 ls [.int z0, .long z1, .long z2, .int z3, .ref (ad 0)]) := by
  obtain ⟨hx, hb, hml, hown, hts, hr, hlk⟩ := id C
  unfold X12_list_309 at h
  refine lv_iload hx hb dX12_list_309 (lv_at hl 4 rfl) ?_
  obtain ⟨q1, h2, h⟩ := bnd h
  refine cRv (run_V (rest := []) C (kX12_spans hI h2) caX12_spans w1829 ⟨rfl, rfl, Nat.le_of_ble_eq_true rfl, Nat.le_of_ble_eq_true rfl⟩ hK hN hP (rM0 hK hP) rfl hl.1 rfl (Nat.le_of_ble_eq_true rfl) dX12_list_311 ⟨Nat.zero_le _, Nat.zero_le _⟩) hS (fun H locs hP hS => ?_)
  have hP : va_P D vwCl (GM cy ad mt q1.1 mb mo ms mk my mu ma me mr mp q1.2 mw mf ml mq) H := hP
  exact bX12_list_314 C hI hK hN @hk81 h (lv_sub hl [0, 1, 2, 3] rfl) hP hS
def X12_list_308 (mb : Tmb) (ms : Tms) (mu : Tmu) (me : Tme) (k81 : Tmc → Tmg → Int32 → Int64 → Int32 → Option (Tmc × Tmg)) (mc : Tmc) (mg : Tmg) (v1 : Int32) (v3 : Int64) (v5 : Int32) (v6 : Int32) (z0 : Int64) (z1 : Int64) (z2 : Int32) : Option (Tmc × Tmg) := X12_list_309 mb ms mu me k81 mc mg v1 v3 v5 v6 (0 : Int32) z0 z1 z2
set_option maxRecDepth 20000 in
theorem bX12_list_308 (C : Cx p s m args meth c cX12_list 13 none RX12 (.code yX12_list cX12_list 13 none)) (hI : Apart ad 71) (hK : va_K D vwCl (tysX cy) s) (hN : NW s) {k81 : Tmc → Tmg → Int32 → Int64 → Int32 → Option (Tmc × Tmg)} {q : Tmc × Tmg} (hk81 : ∀ {mc : Tmc} {mg : Tmg} {v1 : Int32} {v3 : Int64} {v5 : Int32}, k81 mc mg v1 v3 v5 = some q → ∀ {ls : Array Slot}, lv_has ls 13 [(0, .ref (ad 0)), (1, .int v1), (3, .long v3), (5, .int v5)] → ∀ {H : Heap} {locs : List Loc}, va_P D vwCl (GM cy ad mt mc mb mo ms mk my mu ma me mr mp mg mw mf ml mq) H → va_S (Ac ad 71) s.heap H locs → W p l e ({ frames := 3, cells := 0, slots := 0, locals := 76 } : Room) s m args below meth c H locs 0 0 (MQ below (QR none D (GM cy ad mt q.1 mb mo ms mk my mu ma me mr mp q.2 mw mf ml mq) (Ac ad 71)) args s 0 0 (Ac ad 71)) (F0 m 81 ls [])) {v1 : Int32} {v3 : Int64} {v5 : Int32} {v6 : Int32} {z0 : Int64} {z1 : Int64} {z2 : Int32} (h : X12_list_308 mb ms mu me k81 mc mg v1 v3 v5 v6 z0 z1 z2 = some q) {ls : Array Slot} (hl : lv_has ls 13 [(0, .ref (ad 0)), (1, .int v1), (3, .long v3), (5, .int v5), (6, .int v6)]) {H : Heap} {locs : List Loc} (hP : va_P D vwCl (GM cy ad mt mc mb mo ms mk my mu ma me mr mp mg mw mf ml mq) H) (hS : va_S (Ac ad 71) s.heap H locs) : W p l e ({ frames := 3, cells := 0, slots := 0, locals := 76 } : Room) s m args below meth c H locs 0 0 (MQ below (QR none D (GM cy ad mt q.1 mb mo ms mk my mu ma me mr mp q.2 mw mf ml mq) (Ac ad 71)) args s 0 0 (Ac ad 71)) (F0 m 308 ls [.long z0, .long z1, .int z2, .ref (ad 0)]) := by
  obtain ⟨hx, hb, hml, hown, hts, hr, hlk⟩ := id C
  unfold X12_list_308 at h
  refine lv_iconst (v := (0 : Int32)) hx hb dX12_list_308 (by decide) ?_
  exact bX12_list_309 C hI hK hN @hk81 h (lv_sub hl [0, 1, 2, 3, 4] rfl) hP hS
def X12_list_388 (mb : Tmb) (ms : Tms) (mu : Tmu) (me : Tme) (k81 : Tmc → Tmg → Int32 → Int64 → Int32 → Option (Tmc × Tmg)) (mc : Tmc) (mg : Tmg) (v1 : Int32) (v3 : Int64) (v5 : Int32) : Option (Tmc × Tmg) := X12_list_398 mb ms mu me k81 mc mg v1 v3 v5
set_option maxRecDepth 20000 in
theorem bX12_list_388 (C : Cx p s m args meth c cX12_list 13 none RX12 (.code yX12_list cX12_list 13 none)) (hI : Apart ad 71) (hK : va_K D vwCl (tysX cy) s) (hN : NW s) {k81 : Tmc → Tmg → Int32 → Int64 → Int32 → Option (Tmc × Tmg)} {q : Tmc × Tmg} (hk81 : ∀ {mc : Tmc} {mg : Tmg} {v1 : Int32} {v3 : Int64} {v5 : Int32}, k81 mc mg v1 v3 v5 = some q → ∀ {ls : Array Slot}, lv_has ls 13 [(0, .ref (ad 0)), (1, .int v1), (3, .long v3), (5, .int v5)] → ∀ {H : Heap} {locs : List Loc}, va_P D vwCl (GM cy ad mt mc mb mo ms mk my mu ma me mr mp mg mw mf ml mq) H → va_S (Ac ad 71) s.heap H locs → W p l e ({ frames := 3, cells := 0, slots := 0, locals := 76 } : Room) s m args below meth c H locs 0 0 (MQ below (QR none D (GM cy ad mt q.1 mb mo ms mk my mu ma me mr mp q.2 mw mf ml mq) (Ac ad 71)) args s 0 0 (Ac ad 71)) (F0 m 81 ls [])) {v1 : Int32} {v3 : Int64} {v5 : Int32} (h : X12_list_388 mb ms mu me k81 mc mg v1 v3 v5 = some q) {ls : Array Slot} (hl : lv_has ls 13 [(0, .ref (ad 0)), (1, .int v1), (3, .long v3), (5, .int v5)]) {H : Heap} {locs : List Loc} (hP : va_P D vwCl (GM cy ad mt mc mb mo ms mk my mu ma me mr mp mg mw mf ml mq) H) (hS : va_S (Ac ad 71) s.heap H locs) : W p l e ({ frames := 3, cells := 0, slots := 0, locals := 76 } : Room) s m args below meth c H locs 0 0 (MQ below (QR none D (GM cy ad mt q.1 mb mo ms mk my mu ma me mr mp q.2 mw mf ml mq) (Ac ad 71)) args s 0 0 (Ac ad 71)) (F0 m 388 ls []) := by
  obtain ⟨hx, hb, hml, hown, hts, hr, hlk⟩ := id C
  unfold X12_list_388 at h
  refine lv_goto (tgt := 398) hx hb dX12_list_388 (by decide) ?_
  exact bX12_list_398 C hI hK hN @hk81 h (lv_sub hl [0, 1, 2, 3] rfl) hP hS
def X12_list_383 (mb : Tmb) (ms : Tms) (mu : Tmu) (me : Tme) (k81 : Tmc → Tmg → Int32 → Int64 → Int32 → Option (Tmc × Tmg)) (mc : Tmc) (mg : Tmg) (v1 : Int32) (v3 : Int64) (v5 : Int32) (v6 : Int32) (z0 : Int32) (z1 : Int64) (z2 : Int64) (z3 : Int32) : Option (Tmc × Tmg) := ((X12_spans mc mb mg z3 z2 z1 z0 v6).bind fun q1 => X12_list_388 mb ms mu me k81 q1.1 q1.2 v1 v3 v5)
set_option maxRecDepth 20000 in
theorem bX12_list_383 (C : Cx p s m args meth c cX12_list 13 none RX12 (.code yX12_list cX12_list 13 none)) (hI : Apart ad 71) (hK : va_K D vwCl (tysX cy) s) (hN : NW s) {k81 : Tmc → Tmg → Int32 → Int64 → Int32 → Option (Tmc × Tmg)} {q : Tmc × Tmg} (hk81 : ∀ {mc : Tmc} {mg : Tmg} {v1 : Int32} {v3 : Int64} {v5 : Int32}, k81 mc mg v1 v3 v5 = some q → ∀ {ls : Array Slot}, lv_has ls 13 [(0, .ref (ad 0)), (1, .int v1), (3, .long v3), (5, .int v5)] → ∀ {H : Heap} {locs : List Loc}, va_P D vwCl (GM cy ad mt mc mb mo ms mk my mu ma me mr mp mg mw mf ml mq) H → va_S (Ac ad 71) s.heap H locs → W p l e ({ frames := 3, cells := 0, slots := 0, locals := 76 } : Room) s m args below meth c H locs 0 0 (MQ below (QR none D (GM cy ad mt q.1 mb mo ms mk my mu ma me mr mp q.2 mw mf ml mq) (Ac ad 71)) args s 0 0 (Ac ad 71)) (F0 m 81 ls [])) {v1 : Int32} {v3 : Int64} {v5 : Int32} {v6 : Int32} {z0 : Int32} {z1 : Int64} {z2 : Int64} {z3 : Int32} (h : X12_list_383 mb ms mu me k81 mc mg v1 v3 v5 v6 z0 z1 z2 z3 = some q) {ls : Array Slot} (hl : lv_has ls 13 [(0, .ref (ad 0)), (1, .int v1), (3, .long v3), (5, .int v5), (6, .int v6)]) {H : Heap} {locs : List Loc} (hP : va_P D vwCl (GM cy ad mt mc mb mo ms mk my mu ma me mr mp mg mw mf ml mq) H) (hS : va_S (Ac ad 71) s.heap H locs) : W p l e ({ frames := 3, cells := 0, slots := 0, locals := 76 } : Room) s m args below meth c H locs 0 0 (MQ below (QR none D (GM cy ad mt q.1 mb mo ms mk my mu ma me mr mp q.2 mw mf ml mq) (Ac ad 71)) args s 0 0 (Ac ad 71)) (F0 m 383 ls [.int z0, .long z1, .long z2, .int z3, .ref (ad 0)]) := by
  obtain ⟨hx, hb, hml, hown, hts, hr, hlk⟩ := id C
  unfold X12_list_383 at h
  refine lv_iload hx hb dX12_list_383 (lv_at hl 4 rfl) ?_
  obtain ⟨q1, h2, h⟩ := bnd h
  refine cRv (run_V (rest := []) C (kX12_spans hI h2) caX12_spans w1829 ⟨rfl, rfl, Nat.le_of_ble_eq_true rfl, Nat.le_of_ble_eq_true rfl⟩ hK hN hP (rM0 hK hP) rfl hl.1 rfl (Nat.le_of_ble_eq_true rfl) dX12_list_385 ⟨Nat.zero_le _, Nat.zero_le _⟩) hS (fun H locs hP hS => ?_)
  have hP : va_P D vwCl (GM cy ad mt q1.1 mb mo ms mk my mu ma me mr mp q1.2 mw mf ml mq) H := hP
  exact bX12_list_388 C hI hK hN @hk81 h (lv_sub hl [0, 1, 2, 3] rfl) hP hS
def X12_list_382 (mb : Tmb) (ms : Tms) (mu : Tmu) (me : Tme) (k81 : Tmc → Tmg → Int32 → Int64 → Int32 → Option (Tmc × Tmg)) (mc : Tmc) (mg : Tmg) (v1 : Int32) (v3 : Int64) (v5 : Int32) (v6 : Int32) (z0 : Int64) (z1 : Int64) (z2 : Int32) : Option (Tmc × Tmg) := X12_list_383 mb ms mu me k81 mc mg v1 v3 v5 v6 (0 : Int32) z0 z1 z2
set_option maxRecDepth 20000 in
theorem bX12_list_382 (C : Cx p s m args meth c cX12_list 13 none RX12 (.code yX12_list cX12_list 13 none)) (hI : Apart ad 71) (hK : va_K D vwCl (tysX cy) s) (hN : NW s) {k81 : Tmc → Tmg → Int32 → Int64 → Int32 → Option (Tmc × Tmg)} {q : Tmc × Tmg} (hk81 : ∀ {mc : Tmc} {mg : Tmg} {v1 : Int32} {v3 : Int64} {v5 : Int32}, k81 mc mg v1 v3 v5 = some q → ∀ {ls : Array Slot}, lv_has ls 13 [(0, .ref (ad 0)), (1, .int v1), (3, .long v3), (5, .int v5)] → ∀ {H : Heap} {locs : List Loc}, va_P D vwCl (GM cy ad mt mc mb mo ms mk my mu ma me mr mp mg mw mf ml mq) H → va_S (Ac ad 71) s.heap H locs → W p l e ({ frames := 3, cells := 0, slots := 0, locals := 76 } : Room) s m args below meth c H locs 0 0 (MQ below (QR none D (GM cy ad mt q.1 mb mo ms mk my mu ma me mr mp q.2 mw mf ml mq) (Ac ad 71)) args s 0 0 (Ac ad 71)) (F0 m 81 ls [])) {v1 : Int32} {v3 : Int64} {v5 : Int32} {v6 : Int32} {z0 : Int64} {z1 : Int64} {z2 : Int32} (h : X12_list_382 mb ms mu me k81 mc mg v1 v3 v5 v6 z0 z1 z2 = some q) {ls : Array Slot} (hl : lv_has ls 13 [(0, .ref (ad 0)), (1, .int v1), (3, .long v3), (5, .int v5), (6, .int v6)]) {H : Heap} {locs : List Loc} (hP : va_P D vwCl (GM cy ad mt mc mb mo ms mk my mu ma me mr mp mg mw mf ml mq) H) (hS : va_S (Ac ad 71) s.heap H locs) : W p l e ({ frames := 3, cells := 0, slots := 0, locals := 76 } : Room) s m args below meth c H locs 0 0 (MQ below (QR none D (GM cy ad mt q.1 mb mo ms mk my mu ma me mr mp q.2 mw mf ml mq) (Ac ad 71)) args s 0 0 (Ac ad 71)) (F0 m 382 ls [.long z0, .long z1, .int z2, .ref (ad 0)]) := by
  obtain ⟨hx, hb, hml, hown, hts, hr, hlk⟩ := id C
  unfold X12_list_382 at h
  refine lv_iconst (v := (0 : Int32)) hx hb dX12_list_382 (by decide) ?_
  exact bX12_list_383 C hI hK hN @hk81 h (lv_sub hl [0, 1, 2, 3, 4] rfl) hP hS
def X12_list_124 (mb : Tmb) (ms : Tms) (mu : Tmu) (me : Tme) (k81 : Tmc → Tmg → Int32 → Int64 → Int32 → Option (Tmc × Tmg)) (mc : Tmc) (mg : Tmg) (v1 : Int32) (v3 : Int64) (v6 : Int32) (v7 : Int32) (z0 : Int32) : Option (Tmc × Tmg) := (if z0 = 0 then k81 mc mg v1 v3 z0 else (if v7 = (4 : Int32) then ((X12_uleb mc mb).bind fun q29 => ((X12_uleb q29.2 mb).bind fun q31 => (if q29.1 < (0 : Int64) then X12_list_188 mb ms mu me k81 q31.2 mg v1 v3 z0 v6 q29.1 q31.1 else (if q31.1 < (0 : Int64) then X12_list_188 mb ms mu me k81 q31.2 mg v1 v3 z0 v6 q29.1 q31.1 else (if (v3 + q29.1) < (0 : Int64) then X12_list_188 mb ms mu me k81 q31.2 mg v1 v3 z0 v6 q29.1 q31.1 else (if (v3 + q31.1) < (0 : Int64) then X12_list_188 mb ms mu me k81 q31.2 mg v1 v3 z0 v6 q29.1 q31.1 else X12_list_189 mb ms mu me k81 q31.2 mg v1 v3 z0 v6 q29.1 q31.1 (1 : Int32))))))) else (if v7 = (5 : Int32) then ((X12_number mc mb (8 : Int32)).bind fun q23 => (if (X12_isRight q23.2) = 0 then X12_list_398 mb ms mu me k81 q23.2 mg v1 q23.1 z0 else (if q23.1 < (0 : Int64) then (letq (X12_fail q23.2 (2 : Int32) v6) fun q27 => X12_list_398 mb ms mu me k81 q27 mg v1 q23.1 z0) else X12_list_398 mb ms mu me k81 q23.2 mg v1 q23.1 z0))) else (if v7 = (6 : Int32) then ((X12_number mc mb (8 : Int32)).bind fun q16 => ((X12_number q16.2 mb (8 : Int32)).bind fun q18 => (if (X12_isRight q18.2) = 0 then X12_list_314 mb ms mu me k81 q18.2 mg v1 v3 z0 else (if q16.1 < (0 : Int64) then X12_list_308 mb ms mu me k81 q18.2 mg v1 v3 z0 v6 q18.1 q16.1 v1 else (if q18.1 < (0 : Int64) then X12_list_308 mb ms mu me k81 q18.2 mg v1 v3 z0 v6 q18.1 q16.1 v1 else X12_list_309 mb ms mu me k81 q18.2 mg v1 v3 z0 v6 (1 : Int32) q18.1 q16.1 v1))))) else (if v7 = (7 : Int32) then ((X12_number mc mb (8 : Int32)).bind fun q8 => ((X12_uleb q8.2 mb).bind fun q10 => (if (X12_isRight q10.2) = 0 then X12_list_388 mb ms mu me k81 q10.2 mg v1 v3 z0 else (if q8.1 < (0 : Int64) then X12_list_382 mb ms mu me k81 q10.2 mg v1 v3 z0 v6 (q8.1 + q10.1) q8.1 v1 else (if q10.1 < (0 : Int64) then X12_list_382 mb ms mu me k81 q10.2 mg v1 v3 z0 v6 (q8.1 + q10.1) q8.1 v1 else (if (q8.1 + q10.1) < (0 : Int64) then X12_list_382 mb ms mu me k81 q10.2 mg v1 v3 z0 v6 (q8.1 + q10.1) q8.1 v1 else X12_list_383 mb ms mu me k81 q10.2 mg v1 v3 z0 v6 (1 : Int32) (q8.1 + q10.1) q8.1 v1)))))) else (letq (X12_fail mc (2 : Int32) v6) fun q6 => X12_list_398 mb ms mu me k81 q6 mg v1 v3 z0))))))
set_option maxRecDepth 20000 in
theorem bX12_list_124 (C : Cx p s m args meth c cX12_list 13 none RX12 (.code yX12_list cX12_list 13 none)) (hI : Apart ad 71) (hK : va_K D vwCl (tysX cy) s) (hN : NW s) {k81 : Tmc → Tmg → Int32 → Int64 → Int32 → Option (Tmc × Tmg)} {q : Tmc × Tmg} (hk81 : ∀ {mc : Tmc} {mg : Tmg} {v1 : Int32} {v3 : Int64} {v5 : Int32}, k81 mc mg v1 v3 v5 = some q → ∀ {ls : Array Slot}, lv_has ls 13 [(0, .ref (ad 0)), (1, .int v1), (3, .long v3), (5, .int v5)] → ∀ {H : Heap} {locs : List Loc}, va_P D vwCl (GM cy ad mt mc mb mo ms mk my mu ma me mr mp mg mw mf ml mq) H → va_S (Ac ad 71) s.heap H locs → W p l e ({ frames := 3, cells := 0, slots := 0, locals := 76 } : Room) s m args below meth c H locs 0 0 (MQ below (QR none D (GM cy ad mt q.1 mb mo ms mk my mu ma me mr mp q.2 mw mf ml mq) (Ac ad 71)) args s 0 0 (Ac ad 71)) (F0 m 81 ls [])) {v1 : Int32} {v3 : Int64} {v6 : Int32} {v7 : Int32} {z0 : Int32} (h : X12_list_124 mb ms mu me k81 mc mg v1 v3 v6 v7 z0 = some q) {ls : Array Slot} (hl : lv_has ls 13 [(0, .ref (ad 0)), (1, .int v1), (3, .long v3), (6, .int v6), (7, .int v7)]) {H : Heap} {locs : List Loc} (hP : va_P D vwCl (GM cy ad mt mc mb mo ms mk my mu ma me mr mp mg mw mf ml mq) H) (hS : va_S (Ac ad 71) s.heap H locs) : W p l e ({ frames := 3, cells := 0, slots := 0, locals := 76 } : Room) s m args below meth c H locs 0 0 (MQ below (QR none D (GM cy ad mt q.1 mb mo ms mk my mu ma me mr mp q.2 mw mf ml mq) (Ac ad 71)) args s 0 0 (Ac ad 71)) (F0 m 124 ls [.int z0]) := by
  obtain ⟨hx, hb, hml, hown, hts, hr, hlk⟩ := id C
  unfold X12_list_124 at h
  refine lv_istore (lv' := [(5, .int z0), (0, .ref (ad 0)), (1, .int v1), (3, .long v3), (6, .int v6), (7, .int v7)]) hx hb dX12_list_124 hl (by decide) rfl (fun ls hl => ?_)
  refine lv_iload hx hb dX12_list_126 (lv_at hl 0 rfl) ?_
  refine lv_if_ne (tgt := 134) hx hb dX12_list_128 (by decide) (fun c1 => ?_) (fun c1 => ?_)
  · rw [if_neg c1] at h
    refine lv_iload hx hb dX12_list_134 (lv_at hl 5 rfl) ?_
    refine lv_iconst (v := (4 : Int32)) hx hb dX12_list_136 (by decide) ?_
    refine lv_icmp_ne (tgt := 218) hx hb dX12_list_137 (by decide) (fun c2 => ?_) (fun c2 => ?_)
    · rw [if_neg c2] at h
      refine lv_iload hx hb dX12_list_218 (lv_at hl 5 rfl) ?_
      refine lv_iconst (v := (5 : Int32)) hx hb dX12_list_220 (by decide) ?_
      refine lv_icmp_ne (tgt := 254) hx hb dX12_list_221 (by decide) (fun c3 => ?_) (fun c3 => ?_)
      · rw [if_neg c3] at h
        refine lv_iload hx hb dX12_list_254 (lv_at hl 5 rfl) ?_
        refine lv_bipush (v := (6 : Int32)) hx hb dX12_list_256 (by decide) ?_
        refine lv_icmp_ne (tgt := 317) hx hb dX12_list_258 (by decide) (fun c4 => ?_) (fun c4 => ?_)
        · rw [if_neg c4] at h
          refine lv_iload hx hb dX12_list_317 (lv_at hl 5 rfl) ?_
          refine lv_bipush (v := (7 : Int32)) hx hb dX12_list_319 (by decide) ?_
          refine lv_icmp_ne (tgt := 391) hx hb dX12_list_321 (by decide) (fun c5 => ?_) (fun c5 => ?_)
          · rw [if_neg c5] at h
            refine lv_aload_n hx hb dX12_list_391 rfl (lv_at hl 1 rfl) ?_
            refine lv_iconst (v := (2 : Int32)) hx hb dX12_list_392 (by decide) ?_
            refine lv_iload hx hb dX12_list_393 (lv_at hl 4 rfl) ?_
            obtain ⟨q6, h7, h⟩ := lets h
            refine cRv (run_V (rest := []) C (kX12_fail hI h7) caX12_fail w1678 ⟨rfl, rfl, Nat.le_of_ble_eq_true rfl, Nat.le_of_ble_eq_true rfl⟩ hK hN hP (rM0 hK hP) rfl hl.1 rfl (Nat.le_of_ble_eq_true rfl) dX12_list_395 ⟨Nat.zero_le _, Nat.zero_le _⟩) hS (fun H locs hP hS => ?_)
            have hP : va_P D vwCl (GM cy ad mt q6 mb mo ms mk my mu ma me mr mp mg mw mf ml mq) H := hP
            exact bX12_list_398 C hI hK hN @hk81 h (lv_sub hl [1, 2, 3, 0] rfl) hP hS
          · rw [if_pos c5] at h
            refine lv_aload_n hx hb dX12_list_324 rfl (lv_at hl 1 rfl) ?_
            refine lv_bipush (v := (8 : Int32)) hx hb dX12_list_325 (by decide) ?_
            obtain ⟨q8, h9, h⟩ := bnd h
            refine cRl (run_V (rest := []) C (kX12_number hI h9) caX12_number w1724 ⟨rfl, rfl, Nat.le_of_ble_eq_true rfl, Nat.le_of_ble_eq_true rfl⟩ hK hN hP (rM0 hK hP) rfl hl.1 rfl (Nat.le_of_ble_eq_true rfl) dX12_list_327 ⟨Nat.zero_le _, Nat.zero_le _⟩) hS (fun H locs hP hS => ?_)
            have hP : va_P D vwCl (GM cy ad mt q8.2 mb mo ms mk my mu ma me mr mp mg mw mf ml mq) H := hP
            refine lv_lstore (lv' := [(8, .long q8.1), (5, .int z0), (0, .ref (ad 0)), (1, .int v1), (3, .long v3), (6, .int v6), (7, .int v7)]) hx hb dX12_list_330 hl (by decide) rfl (fun ls hl => ?_)
            refine lv_aload_n hx hb dX12_list_332 rfl (lv_at hl 2 rfl) ?_
            obtain ⟨q10, h11, h⟩ := bnd h
            refine cRl (run_V (rest := []) C (kX12_uleb hI h11) caX12_uleb w1741 ⟨rfl, rfl, Nat.le_of_ble_eq_true rfl, Nat.le_of_ble_eq_true rfl⟩ hK hN hP (rM0 hK hP) rfl hl.1 rfl (Nat.le_of_ble_eq_true rfl) dX12_list_333 ⟨Nat.zero_le _, Nat.zero_le _⟩) hS (fun H locs hP hS => ?_)
            have hP : va_P D vwCl (GM cy ad mt q10.2 mb mo ms mk my mu ma me mr mp mg mw mf ml mq) H := hP
            refine lv_lstore (lv' := [(10, .long q10.1), (8, .long q8.1), (5, .int z0), (0, .ref (ad 0)), (1, .int v1), (3, .long v3), (6, .int v6), (7, .int v7)]) hx hb dX12_list_336 hl (by decide) rfl (fun ls hl => ?_)
            refine lv_aload_n hx hb dX12_list_338 rfl (lv_at hl 3 rfl) ?_
            refine cPi (run_V (rest := []) C (kX12_isRight rfl) caX12_isRight w1682 ⟨rfl, rfl, Nat.le_of_ble_eq_true rfl, Nat.le_of_ble_eq_true rfl⟩ hK hN hP (rM0 hK hP) rfl hl.1 rfl (Nat.le_of_ble_eq_true rfl) dX12_list_339 ⟨Nat.zero_le _, Nat.zero_le _⟩) ?_
            refine lv_if_eq (tgt := 388) hx hb dX12_list_342 (by decide) (fun c12 => ?_) (fun c12 => ?_)
            · rw [if_pos c12] at h
              exact bX12_list_388 C hI hK hN @hk81 h (lv_sub hl [3, 4, 5, 2] rfl) hP hS
            · rw [if_neg c12] at h
              refine lv_aload_n hx hb dX12_list_345 rfl (lv_at hl 3 rfl) ?_
              refine lv_iload_n hx hb dX12_list_346 rfl (lv_at hl 4 rfl) ?_
              refine lv_lload hx hb dX12_list_347 (lv_at hl 1 rfl) ?_
              refine lv_lload hx hb dX12_list_349 (lv_at hl 1 rfl) ?_
              refine lv_lload hx hb dX12_list_351 (lv_at hl 0 rfl) ?_
              refine lv_ladd hx hb dX12_list_353 ?_
              refine lv_lload hx hb dX12_list_354 (lv_at hl 1 rfl) ?_
              refine lv_lconst (v := (0 : Int64)) hx hb dX12_list_356 (by decide) ?_
              refine lc_lt (tgt := 382) hx hb dX12_list_357 dX12_list_358 (by decide) (fun c13 => ?_) (fun c13 => ?_)
              · rw [if_pos c13] at h
                exact bX12_list_382 C hI hK hN @hk81 h (lv_sub hl [3, 4, 5, 2, 6] rfl) hP hS
              · rw [if_neg c13] at h
                refine lv_lload hx hb dX12_list_361 (lv_at hl 0 rfl) ?_
                refine lv_lconst (v := (0 : Int64)) hx hb dX12_list_363 (by decide) ?_
                refine lc_lt (tgt := 382) hx hb dX12_list_364 dX12_list_365 (by decide) (fun c14 => ?_) (fun c14 => ?_)
                · rw [if_pos c14] at h
                  exact bX12_list_382 C hI hK hN @hk81 h (lv_sub hl [3, 4, 5, 2, 6] rfl) hP hS
                · rw [if_neg c14] at h
                  refine lv_lload hx hb dX12_list_368 (lv_at hl 1 rfl) ?_
                  refine lv_lload hx hb dX12_list_370 (lv_at hl 0 rfl) ?_
                  refine lv_ladd hx hb dX12_list_372 ?_
                  refine lv_lconst (v := (0 : Int64)) hx hb dX12_list_373 (by decide) ?_
                  refine lc_lt (tgt := 382) hx hb dX12_list_374 dX12_list_375 (by decide) (fun c15 => ?_) (fun c15 => ?_)
                  · rw [if_pos c15] at h
                    exact bX12_list_382 C hI hK hN @hk81 h (lv_sub hl [3, 4, 5, 2, 6] rfl) hP hS
                  · rw [if_neg c15] at h
                    refine lv_iconst (v := (1 : Int32)) hx hb dX12_list_378 (by decide) ?_
                    refine lv_goto (tgt := 383) hx hb dX12_list_379 (by decide) ?_
                    exact bX12_list_383 C hI hK hN @hk81 h (lv_sub hl [3, 4, 5, 2, 6] rfl) hP hS
        · rw [if_pos c4] at h
          refine lv_aload_n hx hb dX12_list_261 rfl (lv_at hl 1 rfl) ?_
          refine lv_bipush (v := (8 : Int32)) hx hb dX12_list_262 (by decide) ?_
          obtain ⟨q16, h17, h⟩ := bnd h
          refine cRl (run_V (rest := []) C (kX12_number hI h17) caX12_number w1724 ⟨rfl, rfl, Nat.le_of_ble_eq_true rfl, Nat.le_of_ble_eq_true rfl⟩ hK hN hP (rM0 hK hP) rfl hl.1 rfl (Nat.le_of_ble_eq_true rfl) dX12_list_264 ⟨Nat.zero_le _, Nat.zero_le _⟩) hS (fun H locs hP hS => ?_)
          have hP : va_P D vwCl (GM cy ad mt q16.2 mb mo ms mk my mu ma me mr mp mg mw mf ml mq) H := hP
          refine lv_lstore (lv' := [(8, .long q16.1), (5, .int z0), (0, .ref (ad 0)), (1, .int v1), (3, .long v3), (6, .int v6), (7, .int v7)]) hx hb dX12_list_267 hl (by decide) rfl (fun ls hl => ?_)
          refine lv_aload_n hx hb dX12_list_269 rfl (lv_at hl 2 rfl) ?_
          refine lv_bipush (v := (8 : Int32)) hx hb dX12_list_270 (by decide) ?_
          obtain ⟨q18, h19, h⟩ := bnd h
          refine cRl (run_V (rest := []) C (kX12_number hI h19) caX12_number w1724 ⟨rfl, rfl, Nat.le_of_ble_eq_true rfl, Nat.le_of_ble_eq_true rfl⟩ hK hN hP (rM0 hK hP) rfl hl.1 rfl (Nat.le_of_ble_eq_true rfl) dX12_list_272 ⟨Nat.zero_le _, Nat.zero_le _⟩) hS (fun H locs hP hS => ?_)
          have hP : va_P D vwCl (GM cy ad mt q18.2 mb mo ms mk my mu ma me mr mp mg mw mf ml mq) H := hP
          refine lv_lstore (lv' := [(10, .long q18.1), (8, .long q16.1), (5, .int z0), (0, .ref (ad 0)), (1, .int v1), (3, .long v3), (6, .int v6), (7, .int v7)]) hx hb dX12_list_275 hl (by decide) rfl (fun ls hl => ?_)
          refine lv_aload_n hx hb dX12_list_277 rfl (lv_at hl 3 rfl) ?_
          refine cPi (run_V (rest := []) C (kX12_isRight rfl) caX12_isRight w1682 ⟨rfl, rfl, Nat.le_of_ble_eq_true rfl, Nat.le_of_ble_eq_true rfl⟩ hK hN hP (rM0 hK hP) rfl hl.1 rfl (Nat.le_of_ble_eq_true rfl) dX12_list_278 ⟨Nat.zero_le _, Nat.zero_le _⟩) ?_
          refine lv_if_eq (tgt := 314) hx hb dX12_list_281 (by decide) (fun c20 => ?_) (fun c20 => ?_)
          · rw [if_pos c20] at h
            exact bX12_list_314 C hI hK hN @hk81 h (lv_sub hl [3, 4, 5, 2] rfl) hP hS
          · rw [if_neg c20] at h
            refine lv_aload_n hx hb dX12_list_284 rfl (lv_at hl 3 rfl) ?_
            refine lv_iload_n hx hb dX12_list_285 rfl (lv_at hl 4 rfl) ?_
            refine lv_lload hx hb dX12_list_286 (lv_at hl 1 rfl) ?_
            refine lv_lload hx hb dX12_list_288 (lv_at hl 0 rfl) ?_
            refine lv_lload hx hb dX12_list_290 (lv_at hl 1 rfl) ?_
            refine lv_lconst (v := (0 : Int64)) hx hb dX12_list_292 (by decide) ?_
            refine lc_lt (tgt := 308) hx hb dX12_list_293 dX12_list_294 (by decide) (fun c21 => ?_) (fun c21 => ?_)
            · rw [if_pos c21] at h
              exact bX12_list_308 C hI hK hN @hk81 h (lv_sub hl [3, 4, 5, 2, 6] rfl) hP hS
            · rw [if_neg c21] at h
              refine lv_lload hx hb dX12_list_297 (lv_at hl 0 rfl) ?_
              refine lv_lconst (v := (0 : Int64)) hx hb dX12_list_299 (by decide) ?_
              refine lc_lt (tgt := 308) hx hb dX12_list_300 dX12_list_301 (by decide) (fun c22 => ?_) (fun c22 => ?_)
              · rw [if_pos c22] at h
                exact bX12_list_308 C hI hK hN @hk81 h (lv_sub hl [3, 4, 5, 2, 6] rfl) hP hS
              · rw [if_neg c22] at h
                refine lv_iconst (v := (1 : Int32)) hx hb dX12_list_304 (by decide) ?_
                refine lv_goto (tgt := 309) hx hb dX12_list_305 (by decide) ?_
                exact bX12_list_309 C hI hK hN @hk81 h (lv_sub hl [3, 4, 5, 2, 6] rfl) hP hS
      · rw [if_pos c3] at h
        refine lv_aload_n hx hb dX12_list_224 rfl (lv_at hl 1 rfl) ?_
        refine lv_bipush (v := (8 : Int32)) hx hb dX12_list_225 (by decide) ?_
        obtain ⟨q23, h24, h⟩ := bnd h
        refine cRl (run_V (rest := []) C (kX12_number hI h24) caX12_number w1724 ⟨rfl, rfl, Nat.le_of_ble_eq_true rfl, Nat.le_of_ble_eq_true rfl⟩ hK hN hP (rM0 hK hP) rfl hl.1 rfl (Nat.le_of_ble_eq_true rfl) dX12_list_227 ⟨Nat.zero_le _, Nat.zero_le _⟩) hS (fun H locs hP hS => ?_)
        have hP : va_P D vwCl (GM cy ad mt q23.2 mb mo ms mk my mu ma me mr mp mg mw mf ml mq) H := hP
        refine lv_lstore_n (lv' := [(3, .long q23.1), (5, .int z0), (0, .ref (ad 0)), (1, .int v1), (6, .int v6), (7, .int v7)]) hx hb dX12_list_230 rfl hl (by decide) rfl (fun ls hl => ?_)
        refine lv_aload_n hx hb dX12_list_231 rfl (lv_at hl 2 rfl) ?_
        refine cPi (run_V (rest := []) C (kX12_isRight rfl) caX12_isRight w1682 ⟨rfl, rfl, Nat.le_of_ble_eq_true rfl, Nat.le_of_ble_eq_true rfl⟩ hK hN hP (rM0 hK hP) rfl hl.1 rfl (Nat.le_of_ble_eq_true rfl) dX12_list_232 ⟨Nat.zero_le _, Nat.zero_le _⟩) ?_
        refine lv_if_eq (tgt := 398) hx hb dX12_list_235 (by decide) (fun c25 => ?_) (fun c25 => ?_)
        · rw [if_pos c25] at h
          exact bX12_list_398 C hI hK hN @hk81 h (lv_sub hl [2, 3, 0, 1] rfl) hP hS
        · rw [if_neg c25] at h
          refine lv_lload_n hx hb dX12_list_238 rfl (lv_at hl 0 rfl) ?_
          refine lv_lconst (v := (0 : Int64)) hx hb dX12_list_239 (by decide) ?_
          refine lc_ge (tgt := 398) hx hb dX12_list_240 dX12_list_241 (by decide) (fun c26 => ?_) (fun c26 => ?_)
          · rw [if_neg c26] at h
            exact bX12_list_398 C hI hK hN @hk81 h (lv_sub hl [2, 3, 0, 1] rfl) hP hS
          · rw [if_pos c26] at h
            refine lv_aload_n hx hb dX12_list_244 rfl (lv_at hl 2 rfl) ?_
            refine lv_iconst (v := (2 : Int32)) hx hb dX12_list_245 (by decide) ?_
            refine lv_iload hx hb dX12_list_246 (lv_at hl 4 rfl) ?_
            obtain ⟨q27, h28, h⟩ := lets h
            refine cRv (run_V (rest := []) C (kX12_fail hI h28) caX12_fail w1678 ⟨rfl, rfl, Nat.le_of_ble_eq_true rfl, Nat.le_of_ble_eq_true rfl⟩ hK hN hP (rM0 hK hP) rfl hl.1 rfl (Nat.le_of_ble_eq_true rfl) dX12_list_248 ⟨Nat.zero_le _, Nat.zero_le _⟩) hS (fun H locs hP hS => ?_)
            have hP : va_P D vwCl (GM cy ad mt q27 mb mo ms mk my mu ma me mr mp mg mw mf ml mq) H := hP
            refine lv_goto (tgt := 398) hx hb dX12_list_251 (by decide) ?_
            exact bX12_list_398 C hI hK hN @hk81 h (lv_sub hl [2, 3, 0, 1] rfl) hP hS
    · rw [if_pos c2] at h
      refine lv_aload_n hx hb dX12_list_140 rfl (lv_at hl 1 rfl) ?_
      obtain ⟨q29, h30, h⟩ := bnd h
      refine cRl (run_V (rest := []) C (kX12_uleb hI h30) caX12_uleb w1741 ⟨rfl, rfl, Nat.le_of_ble_eq_true rfl, Nat.le_of_ble_eq_true rfl⟩ hK hN hP (rM0 hK hP) rfl hl.1 rfl (Nat.le_of_ble_eq_true rfl) dX12_list_141 ⟨Nat.zero_le _, Nat.zero_le _⟩) hS (fun H locs hP hS => ?_)
      have hP : va_P D vwCl (GM cy ad mt q29.2 mb mo ms mk my mu ma me mr mp mg mw mf ml mq) H := hP
      refine lv_lstore (lv' := [(8, .long q29.1), (5, .int z0), (0, .ref (ad 0)), (1, .int v1), (3, .long v3), (6, .int v6), (7, .int v7)]) hx hb dX12_list_144 hl (by decide) rfl (fun ls hl => ?_)
      refine lv_aload_n hx hb dX12_list_146 rfl (lv_at hl 2 rfl) ?_
      obtain ⟨q31, h32, h⟩ := bnd h
      refine cRl (run_V (rest := []) C (kX12_uleb hI h32) caX12_uleb w1741 ⟨rfl, rfl, Nat.le_of_ble_eq_true rfl, Nat.le_of_ble_eq_true rfl⟩ hK hN hP (rM0 hK hP) rfl hl.1 rfl (Nat.le_of_ble_eq_true rfl) dX12_list_147 ⟨Nat.zero_le _, Nat.zero_le _⟩) hS (fun H locs hP hS => ?_)
      have hP : va_P D vwCl (GM cy ad mt q31.2 mb mo ms mk my mu ma me mr mp mg mw mf ml mq) H := hP
      refine lv_lstore (lv' := [(10, .long q31.1), (8, .long q29.1), (5, .int z0), (0, .ref (ad 0)), (1, .int v1), (3, .long v3), (6, .int v6), (7, .int v7)]) hx hb dX12_list_150 hl (by decide) rfl (fun ls hl => ?_)
      refine lv_lload hx hb dX12_list_152 (lv_at hl 1 rfl) ?_
      refine lv_lconst (v := (0 : Int64)) hx hb dX12_list_154 (by decide) ?_
      refine lc_lt (tgt := 188) hx hb dX12_list_155 dX12_list_156 (by decide) (fun c33 => ?_) (fun c33 => ?_)
      · rw [if_pos c33] at h
        exact bX12_list_188 C hI hK hN @hk81 h (lv_sub hl [3, 4, 5, 2, 6, 1, 0] rfl) hP hS
      · rw [if_neg c33] at h
        refine lv_lload hx hb dX12_list_159 (lv_at hl 0 rfl) ?_
        refine lv_lconst (v := (0 : Int64)) hx hb dX12_list_161 (by decide) ?_
        refine lc_lt (tgt := 188) hx hb dX12_list_162 dX12_list_163 (by decide) (fun c34 => ?_) (fun c34 => ?_)
        · rw [if_pos c34] at h
          exact bX12_list_188 C hI hK hN @hk81 h (lv_sub hl [3, 4, 5, 2, 6, 1, 0] rfl) hP hS
        · rw [if_neg c34] at h
          refine lv_lload_n hx hb dX12_list_166 rfl (lv_at hl 5 rfl) ?_
          refine lv_lload hx hb dX12_list_167 (lv_at hl 1 rfl) ?_
          refine lv_ladd hx hb dX12_list_169 ?_
          refine lv_lconst (v := (0 : Int64)) hx hb dX12_list_170 (by decide) ?_
          refine lc_lt (tgt := 188) hx hb dX12_list_171 dX12_list_172 (by decide) (fun c35 => ?_) (fun c35 => ?_)
          · rw [if_pos c35] at h
            exact bX12_list_188 C hI hK hN @hk81 h (lv_sub hl [3, 4, 5, 2, 6, 1, 0] rfl) hP hS
          · rw [if_neg c35] at h
            refine lv_lload_n hx hb dX12_list_175 rfl (lv_at hl 5 rfl) ?_
            refine lv_lload hx hb dX12_list_176 (lv_at hl 0 rfl) ?_
            refine lv_ladd hx hb dX12_list_178 ?_
            refine lv_lconst (v := (0 : Int64)) hx hb dX12_list_179 (by decide) ?_
            refine lc_lt (tgt := 188) hx hb dX12_list_180 dX12_list_181 (by decide) (fun c36 => ?_) (fun c36 => ?_)
            · rw [if_pos c36] at h
              exact bX12_list_188 C hI hK hN @hk81 h (lv_sub hl [3, 4, 5, 2, 6, 1, 0] rfl) hP hS
            · rw [if_neg c36] at h
              refine lv_iconst (v := (1 : Int32)) hx hb dX12_list_184 (by decide) ?_
              refine lv_goto (tgt := 189) hx hb dX12_list_185 (by decide) ?_
              exact bX12_list_189 C hI hK hN @hk81 h (lv_sub hl [3, 4, 5, 2, 6, 1, 0] rfl) hP hS
  · rw [if_pos c1] at h
    refine lv_goto (tgt := 81) hx hb dX12_list_131 (by decide) ?_
    exact hk81 h (lv_sub hl [1, 2, 3, 0] rfl) hP hS
def X12_list_123 (mb : Tmb) (ms : Tms) (mu : Tmu) (me : Tme) (k81 : Tmc → Tmg → Int32 → Int64 → Int32 → Option (Tmc × Tmg)) (mc : Tmc) (mg : Tmg) (v1 : Int32) (v3 : Int64) (v6 : Int32) (v7 : Int32) : Option (Tmc × Tmg) := X12_list_124 mb ms mu me k81 mc mg v1 v3 v6 v7 (0 : Int32)
set_option maxRecDepth 20000 in
theorem bX12_list_123 (C : Cx p s m args meth c cX12_list 13 none RX12 (.code yX12_list cX12_list 13 none)) (hI : Apart ad 71) (hK : va_K D vwCl (tysX cy) s) (hN : NW s) {k81 : Tmc → Tmg → Int32 → Int64 → Int32 → Option (Tmc × Tmg)} {q : Tmc × Tmg} (hk81 : ∀ {mc : Tmc} {mg : Tmg} {v1 : Int32} {v3 : Int64} {v5 : Int32}, k81 mc mg v1 v3 v5 = some q → ∀ {ls : Array Slot}, lv_has ls 13 [(0, .ref (ad 0)), (1, .int v1), (3, .long v3), (5, .int v5)] → ∀ {H : Heap} {locs : List Loc}, va_P D vwCl (GM cy ad mt mc mb mo ms mk my mu ma me mr mp mg mw mf ml mq) H → va_S (Ac ad 71) s.heap H locs → W p l e ({ frames := 3, cells := 0, slots := 0, locals := 76 } : Room) s m args below meth c H locs 0 0 (MQ below (QR none D (GM cy ad mt q.1 mb mo ms mk my mu ma me mr mp q.2 mw mf ml mq) (Ac ad 71)) args s 0 0 (Ac ad 71)) (F0 m 81 ls [])) {v1 : Int32} {v3 : Int64} {v6 : Int32} {v7 : Int32} (h : X12_list_123 mb ms mu me k81 mc mg v1 v3 v6 v7 = some q) {ls : Array Slot} (hl : lv_has ls 13 [(0, .ref (ad 0)), (1, .int v1), (3, .long v3), (6, .int v6), (7, .int v7)]) {H : Heap} {locs : List Loc} (hP : va_P D vwCl (GM cy ad mt mc mb mo ms mk my mu ma me mr mp mg mw mf ml mq) H) (hS : va_S (Ac ad 71) s.heap H locs) : W p l e ({ frames := 3, cells := 0, slots := 0, locals := 76 } : Room) s m args below meth c H locs 0 0 (MQ below (QR none D (GM cy ad mt q.1 mb mo ms mk my mu ma me mr mp q.2 mw mf ml mq) (Ac ad 71)) args s 0 0 (Ac ad 71)) (F0 m 123 ls []) := by
  obtain ⟨hx, hb, hml, hown, hts, hr, hlk⟩ := id C
  unfold X12_list_123 at h
  refine lv_iconst (v := (0 : Int32)) hx hb dX12_list_123 (by decide) ?_
  exact bX12_list_124 C hI hK hN @hk81 h (lv_sub hl [0, 1, 2, 3, 4] rfl) hP hS
def X12_list_81b (mb : Tmb) (ms : Tms) (mu : Tmu) (me : Tme)  (k81 : Tmc → Tmg → Int32 → Int64 → Int32 → Option (Tmc × Tmg)) (mc : Tmc) (mg : Tmg) (v1 : Int32) (v3 : Int64) (v5 : Int32) : Option (Tmc × Tmg) := (if v5 = 0 then some (mc, mg) else (if (X12_isRight mc) = 0 then some (mc, mg) else ((X12_number mc mb (1 : Int32)).bind fun q3 => (if (X12_isRight q3.2) = 0 then X12_list_123 mb ms mu me k81 q3.2 mg v1 v3 mc.1 ((q3.1).toInt32) else (if ((q3.1).toInt32) = 0 then X12_list_123 mb ms mu me k81 q3.2 mg v1 v3 mc.1 ((q3.1).toInt32) else X12_list_124 mb ms mu me k81 q3.2 mg v1 v3 mc.1 ((q3.1).toInt32) (1 : Int32))))))
def X12_list_81 (mb : Tmb) (ms : Tms) (mu : Tmu) (me : Tme)  (n : Nat) (st : Tmc × Tmg × Int32 × Int64 × Int32) : Option (Tmc × Tmg) := lp (fun rec st => X12_list_81b mb ms mu me  (fun a0 a1 a2 a3 a4 => rec (a0, a1, a2, a3, a4)) st.1 st.2.1 st.2.2.1 st.2.2.2.1 st.2.2.2.2) n st
set_option maxRecDepth 20000 in
theorem bX12_list_81 (C : Cx p s m args meth c cX12_list 13 none RX12 (.code yX12_list cX12_list 13 none)) (hI : Apart ad 71) (hK : va_K D vwCl (tysX cy) s) (hN : NW s)  {q : Tmc × Tmg}  : ∀ (n : Nat) {mc : Tmc} {mg : Tmg} {v1 : Int32} {v3 : Int64} {v5 : Int32}, X12_list_81 mb ms mu me  n (mc, mg, v1, v3, v5) = some q → ∀ {ls : Array Slot}, lv_has ls 13 [(0, .ref (ad 0)), (1, .int v1), (3, .long v3), (5, .int v5)] → ∀ {H : Heap} {locs : List Loc}, va_P D vwCl (GM cy ad mt mc mb mo ms mk my mu ma me mr mp mg mw mf ml mq) H → va_S (Ac ad 71) s.heap H locs → W p l e ({ frames := 3, cells := 0, slots := 0, locals := 76 } : Room) s m args below meth c H locs 0 0 (MQ below (QR none D (GM cy ad mt q.1 mb mo ms mk my mu ma me mr mp q.2 mw mf ml mq) (Ac ad 71)) args s 0 0 (Ac ad 71)) (F0 m 81 ls []) := by
  obtain ⟨hx, hb, hml, hown, hts, hr, hlk⟩ := id C
  intro n
  induction n with
  | zero =>
    intro mc mg v1 v3 v5 h ls hl H locs hP hS
    have h : (none : Option (Tmc × Tmg)) = some q := h
    cases h
  | succ n ih =>
    intro mc mg v1 v3 v5 h ls hl H locs hP hS
    have h : X12_list_81b mb ms mu me  (fun a0 a1 a2 a3 a4 => X12_list_81 mb ms mu me  n (a0, a1, a2, a3, a4)) mc mg v1 v3 v5 = some q := h
    unfold X12_list_81b at h
    refine lv_iload hx hb dX12_list_81 (lv_at hl 3 rfl) ?_
    refine lv_if_eq (tgt := 401) hx hb dX12_list_83 (by decide) (fun c1 => ?_) (fun c1 => ?_)
    · rw [if_pos c1] at h
      obtain rfl := Option.some.inj h
      exact W.vret hx hb hr (fun t ht _ => ⟨rfl, by rw [ht]; exact hP, hS.F ht⟩) hS.2.2 dX12_list_401 hlk
    · rw [if_neg c1] at h
      refine lv_aload_n hx hb dX12_list_86 rfl (lv_at hl 0 rfl) ?_
      refine cPi (run_V (rest := []) C (kX12_isRight rfl) caX12_isRight w1682 ⟨rfl, rfl, Nat.le_of_ble_eq_true rfl, Nat.le_of_ble_eq_true rfl⟩ hK hN hP (rM0 hK hP) rfl hl.1 rfl (Nat.le_of_ble_eq_true rfl) dX12_list_87 ⟨Nat.zero_le _, Nat.zero_le _⟩) ?_
      refine lv_if_eq (tgt := 401) hx hb dX12_list_90 (by decide) (fun c2 => ?_) (fun c2 => ?_)
      · rw [if_pos c2] at h
        obtain rfl := Option.some.inj h
        exact W.vret hx hb hr (fun t ht _ => ⟨rfl, by rw [ht]; exact hP, hS.F ht⟩) hS.2.2 dX12_list_401 hlk
      · rw [if_neg c2] at h
        refine lv_aload_n hx hb dX12_list_93 rfl (lv_at hl 0 rfl) ?_
        refine gM0_77 (v := mc.1) C hK hP rfl w1444 dX12_list_94 ?_
        refine lv_istore (lv' := [(6, .int mc.1), (0, .ref (ad 0)), (1, .int v1), (3, .long v3), (5, .int v5)]) hx hb dX12_list_97 hl (by decide) rfl (fun ls hl => ?_)
        refine lv_aload_n hx hb dX12_list_99 rfl (lv_at hl 1 rfl) ?_
        refine lv_iconst (v := (1 : Int32)) hx hb dX12_list_100 (by decide) ?_
        obtain ⟨q3, h4, h⟩ := bnd h
        refine cRl (run_V (rest := []) C (kX12_number hI h4) caX12_number w1724 ⟨rfl, rfl, Nat.le_of_ble_eq_true rfl, Nat.le_of_ble_eq_true rfl⟩ hK hN hP (rM0 hK hP) rfl hl.1 rfl (Nat.le_of_ble_eq_true rfl) dX12_list_101 ⟨Nat.zero_le _, Nat.zero_le _⟩) hS (fun H locs hP hS => ?_)
        have hP : va_P D vwCl (GM cy ad mt q3.2 mb mo ms mk my mu ma me mr mp mg mw mf ml mq) H := hP
        refine lv_l2i (v := ((q3.1).toInt32)) hx hb dX12_list_104 rfl ?_
        refine lv_istore (lv' := [(7, .int ((q3.1).toInt32)), (6, .int mc.1), (0, .ref (ad 0)), (1, .int v1), (3, .long v3), (5, .int v5)]) hx hb dX12_list_105 hl (by decide) rfl (fun ls hl => ?_)
        refine lv_aload_n hx hb dX12_list_107 rfl (lv_at hl 2 rfl) ?_
        refine cPi (run_V (rest := []) C (kX12_isRight rfl) caX12_isRight w1682 ⟨rfl, rfl, Nat.le_of_ble_eq_true rfl, Nat.le_of_ble_eq_true rfl⟩ hK hN hP (rM0 hK hP) rfl hl.1 rfl (Nat.le_of_ble_eq_true rfl) dX12_list_108 ⟨Nat.zero_le _, Nat.zero_le _⟩) ?_
        refine lv_if_eq (tgt := 123) hx hb dX12_list_111 (by decide) (fun c5 => ?_) (fun c5 => ?_)
        · rw [if_pos c5] at h
          exact bX12_list_123 C hI hK hN @ih h (lv_sub hl [2, 3, 4, 1, 0] rfl) hP hS
        · rw [if_neg c5] at h
          refine lv_iload hx hb dX12_list_114 (lv_at hl 0 rfl) ?_
          refine lv_if_eq (tgt := 123) hx hb dX12_list_116 (by decide) (fun c6 => ?_) (fun c6 => ?_)
          · rw [if_pos c6] at h
            exact bX12_list_123 C hI hK hN @ih h (lv_sub hl [2, 3, 4, 1, 0] rfl) hP hS
          · rw [if_neg c6] at h
            refine lv_iconst (v := (1 : Int32)) hx hb dX12_list_119 (by decide) ?_
            refine lv_goto (tgt := 124) hx hb dX12_list_120 (by decide) ?_
            exact bX12_list_124 C hI hK hN @ih h (lv_sub hl [2, 3, 4, 1, 0] rfl) hP hS
def X12_list_48 (mb : Tmb) (ms : Tms) (mu : Tmu) (me : Tme)  (mc : Tmc) (mg : Tmg) (v1 : Int32) (z0 : Int64) : Option (Tmc × Tmg) := (if inb (6 : Int32) 7 = true then (if inb v1 400 = true then ((X12_endOf ms (6 : Int32)).bind fun q3 => X12_list_81 mb ms mu me FU ((((ms.2.2.2.2.1 ((6 : Int32)).toNatClampNeg) + (((me.2.2.2.2.2.2.2.2.2.2.2.2.2.2.2.2.2.2 (v1).toNatClampNeg)).toInt32)), q3, mc.2.2.1, mc.2.2.2), mg, v1, z0, (1 : Int32))) else none) else none)
set_option maxRecDepth 20000 in
theorem bX12_list_48 (C : Cx p s m args meth c cX12_list 13 none RX12 (.code yX12_list cX12_list 13 none)) (hI : Apart ad 71) (hK : va_K D vwCl (tysX cy) s) (hN : NW s)  {q : Tmc × Tmg}  {v1 : Int32} {z0 : Int64} (h : X12_list_48 mb ms mu me mc mg v1 z0 = some q) {ls : Array Slot} (hl : lv_has ls 13 [(0, .ref (ad 0)), (1, .int v1)]) {H : Heap} {locs : List Loc} (hP : va_P D vwCl (GM cy ad mt mc mb mo ms mk my mu ma me mr mp mg mw mf ml mq) H) (hS : va_S (Ac ad 71) s.heap H locs) : W p l e ({ frames := 3, cells := 0, slots := 0, locals := 76 } : Room) s m args below meth c H locs 0 0 (MQ below (QR none D (GM cy ad mt q.1 mb mo ms mk my mu ma me mr mp q.2 mw mf ml mq) (Ac ad 71)) args s 0 0 (Ac ad 71)) (F0 m 48 ls [.long z0]) := by
  obtain ⟨hx, hb, hml, hown, hts, hr, hlk⟩ := id C
  unfold X12_list_48 at h
  refine lv_lstore_n (lv' := [(3, .long z0), (0, .ref (ad 0)), (1, .int v1)]) hx hb dX12_list_48 rfl hl (by decide) rfl (fun ls hl => ?_)
  refine lv_aload_n hx hb dX12_list_49 rfl (lv_at hl 1 rfl) ?_
  refine lv_aload_n hx hb dX12_list_50 rfl (lv_at hl 1 rfl) ?_
  refine gM0_20 C hK hP w1387 dX12_list_51 ?_
  refine lv_bipush (v := (6 : Int32)) hx hb dX12_list_54 (by decide) ?_
  obtain ⟨n1, h⟩ := grd h
  refine aM13 (f := ms.2.2.2.2.1) C hK hP rfl n1 dX12_list_56 ?_
  refine lv_aload_n hx hb dX12_list_57 rfl (lv_at hl 1 rfl) ?_
  refine gM0_59 C hK hP w1426 dX12_list_58 ?_
  refine lv_iload_n hx hb dX12_list_61 rfl (lv_at hl 2 rfl) ?_
  obtain ⟨n2, h⟩ := grd h
  refine aM51 (f := me.2.2.2.2.2.2.2.2.2.2.2.2.2.2.2.2.2.2) C hK hP rfl n2 dX12_list_62 ?_
  refine lv_l2i (v := (((me.2.2.2.2.2.2.2.2.2.2.2.2.2.2.2.2.2.2 (v1).toNatClampNeg)).toInt32)) hx hb dX12_list_63 rfl ?_
  refine lv_iadd hx hb dX12_list_64 ?_
  refine pM0_77 (v := ((ms.2.2.2.2.1 ((6 : Int32)).toNatClampNeg) + (((me.2.2.2.2.2.2.2.2.2.2.2.2.2.2.2.2.2.2 (v1).toNatClampNeg)).toInt32))) C hI hK hP hS w1444 dX12_list_65 (fun H locs hP hS => ?_)
  have hP : va_P D vwCl (GM cy ad mt (((ms.2.2.2.2.1 ((6 : Int32)).toNatClampNeg) + (((me.2.2.2.2.2.2.2.2.2.2.2.2.2.2.2.2.2.2 (v1).toNatClampNeg)).toInt32)), mc.2.1, mc.2.2.1, mc.2.2.2) mb mo ms mk my mu ma me mr mp mg mw mf ml mq) H := hP
  refine lv_aload_n hx hb dX12_list_68 rfl (lv_at hl 1 rfl) ?_
  refine lv_aload_n hx hb dX12_list_69 rfl (lv_at hl 1 rfl) ?_
  refine lv_bipush (v := (6 : Int32)) hx hb dX12_list_70 (by decide) ?_
  obtain ⟨q3, h4, h⟩ := bnd h
  refine cPi (run_V (rest := [.ref (ad 0)]) C (kX12_endOf h4) caX12_endOf w1712 ⟨rfl, rfl, Nat.le_of_ble_eq_true rfl, Nat.le_of_ble_eq_true rfl⟩ hK hN hP (rM0 hK hP) rfl hl.1 rfl (Nat.le_of_ble_eq_true rfl) dX12_list_72 ⟨Nat.zero_le _, Nat.zero_le _⟩) ?_
  refine pM0_78 (v := q3) C hI hK hP hS w1445 dX12_list_75 (fun H locs hP hS => ?_)
  have hP : va_P D vwCl (GM cy ad mt (((ms.2.2.2.2.1 ((6 : Int32)).toNatClampNeg) + (((me.2.2.2.2.2.2.2.2.2.2.2.2.2.2.2.2.2.2 (v1).toNatClampNeg)).toInt32)), q3, mc.2.2.1, mc.2.2.2) mb mo ms mk my mu ma me mr mp mg mw mf ml mq) H := hP
  refine lv_iconst (v := (1 : Int32)) hx hb dX12_list_78 (by decide) ?_
  refine lv_istore (lv' := [(5, .int (1 : Int32)), (3, .long z0), (0, .ref (ad 0)), (1, .int v1)]) hx hb dX12_list_79 hl (by decide) rfl (fun ls hl => ?_)
  exact bX12_list_81 C hI hK hN FU h (lv_sub hl [2, 3, 1, 0] rfl) hP hS
def X12_list (mc : Tmc) (mb : Tmb) (ms : Tms) (mu : Tmu) (me : Tme) (mg : Tmg) (v1 : Int32) : Option (Tmc × Tmg) := (if inb (((400 : Int32) * mb.2.1) + v1) 800 = true then (if inb (((20 : Int32) * mb.2.1) + (me.2.2.2.1 ((((400 : Int32) * mb.2.1) + v1)).toNatClampNeg)) 40 = true then (if inb (mu.2.2.1 ((((20 : Int32) * mb.2.1) + (me.2.2.2.1 ((((400 : Int32) * mb.2.1) + v1)).toNatClampNeg))).toNatClampNeg) 400 = true then (if (me.2.2.2.2.2.2.2.2.2.2.2.2.1 ((mu.2.2.1 ((((20 : Int32) * mb.2.1) + (me.2.2.2.1 ((((400 : Int32) * mb.2.1) + v1)).toNatClampNeg))).toNatClampNeg)).toNatClampNeg) = 0 then X12_list_48 mb ms mu me mc mg v1 (0 : Int64) else (if inb (mu.2.2.1 ((((20 : Int32) * mb.2.1) + (me.2.2.2.1 ((((400 : Int32) * mb.2.1) + v1)).toNatClampNeg))).toNatClampNeg) 400 = true then X12_list_48 mb ms mu me mc mg v1 (me.2.2.2.2.2.2.2.2.2.2.2.2.2.2.2.2.1 ((mu.2.2.1 ((((20 : Int32) * mb.2.1) + (me.2.2.2.1 ((((400 : Int32) * mb.2.1) + v1)).toNatClampNeg))).toNatClampNeg)).toNatClampNeg) else none)) else none) else none) else none)
set_option maxRecDepth 20000 in
theorem bX12_list_0 (C : Cx p s m args meth c cX12_list 13 none RX12 (.code yX12_list cX12_list 13 none)) (hI : Apart ad 71) (hK : va_K D vwCl (tysX cy) s) (hN : NW s)  {q : Tmc × Tmg}  {v1 : Int32} (h : X12_list mc mb ms mu me mg v1 = some q) {ls : Array Slot} (hl : lv_has ls 13 [(0, .ref (ad 0)), (1, .int v1)]) {H : Heap} {locs : List Loc} (hP : va_P D vwCl (GM cy ad mt mc mb mo ms mk my mu ma me mr mp mg mw mf ml mq) H) (hS : va_S (Ac ad 71) s.heap H locs) : W p l e ({ frames := 3, cells := 0, slots := 0, locals := 76 } : Room) s m args below meth c H locs 0 0 (MQ below (QR none D (GM cy ad mt q.1 mb mo ms mk my mu ma me mr mp q.2 mw mf ml mq) (Ac ad 71)) args s 0 0 (Ac ad 71)) (F0 m 0 ls []) := by
  obtain ⟨hx, hb, hml, hown, hts, hr, hlk⟩ := id C
  unfold X12_list at h
  refine lv_aload_n hx hb dX12_list_0 rfl (lv_at hl 0 rfl) ?_
  refine gM0_29 C hK hP w1396 dX12_list_1 ?_
  refine lv_bipush (v := (20 : Int32)) hx hb dX12_list_4 (by decide) ?_
  refine lv_aload_n hx hb dX12_list_6 rfl (lv_at hl 0 rfl) ?_
  refine gM0_6 (v := mb.2.1) C hK hP rfl w1373 dX12_list_7 ?_
  refine lv_imul hx hb dX12_list_10 ?_
  refine lv_aload_n hx hb dX12_list_11 rfl (lv_at hl 0 rfl) ?_
  refine gM0_44 C hK hP w1411 dX12_list_12 ?_
  refine lv_sipush (v := (400 : Int32)) hx hb dX12_list_15 (by decide) ?_
  refine lv_aload_n hx hb dX12_list_18 rfl (lv_at hl 0 rfl) ?_
  refine gM0_6 (v := mb.2.1) C hK hP rfl w1373 dX12_list_19 ?_
  refine lv_imul hx hb dX12_list_22 ?_
  refine lv_iload_n hx hb dX12_list_23 rfl (lv_at hl 1 rfl) ?_
  refine lv_iadd hx hb dX12_list_24 ?_
  obtain ⟨n1, h⟩ := grd h
  refine aM36 (f := me.2.2.2.1) C hK hP rfl n1 dX12_list_25 ?_
  refine lv_iadd hx hb dX12_list_26 ?_
  obtain ⟨n2, h⟩ := grd h
  refine aM22 (f := mu.2.2.1) C hK hP rfl n2 dX12_list_27 ?_
  refine lv_istore_n (lv' := [(2, .int (mu.2.2.1 ((((20 : Int32) * mb.2.1) + (me.2.2.2.1 ((((400 : Int32) * mb.2.1) + v1)).toNatClampNeg))).toNatClampNeg)), (0, .ref (ad 0)), (1, .int v1)]) hx hb dX12_list_28 rfl hl (by decide) rfl (fun ls hl => ?_)
  refine lv_aload_n hx hb dX12_list_29 rfl (lv_at hl 1 rfl) ?_
  refine gM0_53 C hK hP w1420 dX12_list_30 ?_
  refine lv_iload_n hx hb dX12_list_33 rfl (lv_at hl 0 rfl) ?_
  obtain ⟨n3, h⟩ := grd h
  refine aM45 (f := me.2.2.2.2.2.2.2.2.2.2.2.2.1) C hK hP rfl n3 dX12_list_34 ?_
  refine lv_if_eq (tgt := 47) hx hb dX12_list_35 (by decide) (fun c4 => ?_) (fun c4 => ?_)
  · rw [if_pos c4] at h
    refine lv_lconst (v := (0 : Int64)) hx hb dX12_list_47 (by decide) ?_
    exact bX12_list_48 C hI hK hN h (lv_sub hl [1, 2] rfl) hP hS
  · rw [if_neg c4] at h
    refine lv_aload_n hx hb dX12_list_38 rfl (lv_at hl 1 rfl) ?_
    refine gM0_57 C hK hP w1424 dX12_list_39 ?_
    refine lv_iload_n hx hb dX12_list_42 rfl (lv_at hl 0 rfl) ?_
    obtain ⟨n5, h⟩ := grd h
    refine aM49 (f := me.2.2.2.2.2.2.2.2.2.2.2.2.2.2.2.2.1) C hK hP rfl n5 dX12_list_43 ?_
    refine lv_goto (tgt := 48) hx hb dX12_list_44 (by decide) ?_
    exact bX12_list_48 C hI hK hN h (lv_sub hl [1, 2] rfl) hP hS
theorem kX12_list (hI : Apart ad 71) {v1 : Int32} {q : Tmc × Tmg} (h : X12_list mc mb ms mu me mg v1 = some q) : Met l yX12_list (.code yX12_list cX12_list 13 none :: WA) ({ frames := 3, cells := 0, slots := 0, locals := 76 } : Room) (va_Pc [.ref (ad 0), .int v1] (PR D cy (GM cy ad mt mc mb mo ms mk my mu ma me mr mp mg mw mf ml mq))) (QR none D (GM cy ad mt q.1 mb mo ms mk my mu ma me mr mp q.2 mw mf ml mq) (Ac ad 71)) 0 0 (Ac ad 71) :=
  met_of (by decide) (Nat.le_of_ble_eq_true rfl) (fun p e s m below meth c ls C hP hK hN hl => bX12_list_0 C hI hK hN h hl hP va_S.rf)
def X12_ranges_162 (mb : Tmb) (ms : Tms) (mu : Tmu) (me : Tme) (k2 : Tmc → Tmg → Int32 → Option (Tmc × Tmg)) (mc : Tmc) (mg : Tmg) (v1 : Int32) : Option (Tmc × Tmg) := k2 mc mg (v1 + (1 : Int32))
set_option maxRecDepth 20000 in
theorem bX12_ranges_162 (C : Cx p s m args meth c cX12_ranges 5 none RX12 (.code yX12_ranges cX12_ranges 5 none)) (hI : Apart ad 71) (hK : va_K D vwCl (tysX cy) s) (hN : NW s) {k2 : Tmc → Tmg → Int32 → Option (Tmc × Tmg)} {q : Tmc × Tmg} (hk2 : ∀ {mc : Tmc} {mg : Tmg} {v1 : Int32}, k2 mc mg v1 = some q → ∀ {ls : Array Slot}, lv_has ls 5 [(0, .ref (ad 0)), (1, .int v1)] → ∀ {H : Heap} {locs : List Loc}, va_P D vwCl (GM cy ad mt mc mb mo ms mk my mu ma me mr mp mg mw mf ml mq) H → va_S (Ac ad 71) s.heap H locs → W p l e ({ frames := 4, cells := 0, slots := 0, locals := 108 } : Room) s m args below meth c H locs 0 0 (MQ below (QR none D (GM cy ad mt q.1 mb mo ms mk my mu ma me mr mp q.2 mw mf ml mq) (Ac ad 71)) args s 0 0 (Ac ad 71)) (F0 m 2 ls [])) {v1 : Int32} (h : X12_ranges_162 mb ms mu me k2 mc mg v1 = some q) {ls : Array Slot} (hl : lv_has ls 5 [(0, .ref (ad 0)), (1, .int v1)]) {H : Heap} {locs : List Loc} (hP : va_P D vwCl (GM cy ad mt mc mb mo ms mk my mu ma me mr mp mg mw mf ml mq) H) (hS : va_S (Ac ad 71) s.heap H locs) : W p l e ({ frames := 4, cells := 0, slots := 0, locals := 108 } : Room) s m args below meth c H locs 0 0 (MQ below (QR none D (GM cy ad mt q.1 mb mo ms mk my mu ma me mr mp q.2 mw mf ml mq) (Ac ad 71)) args s 0 0 (Ac ad 71)) (F0 m 162 ls []) := by
  obtain ⟨hx, hb, hml, hown, hts, hr, hlk⟩ := id C
  unfold X12_ranges_162 at h
  refine lv_iinc (v := (v1 + (1 : Int32))) (lv' := [(1, .int (v1 + (1 : Int32))), (0, .ref (ad 0))]) hx hb dX12_ranges_162 hl (k := 1) rfl rfl (by decide) rfl (fun ls hl => ?_)
  refine lv_goto (tgt := 2) hx hb dX12_ranges_165 (by decide) ?_
  exact hk2 h (lv_sub hl [1, 0] rfl) hP hS
def X12_ranges_105 (mb : Tmb) (ms : Tms) (mu : Tmu) (me : Tme) (k2 : Tmc → Tmg → Int32 → Option (Tmc × Tmg)) (mc : Tmc) (mg : Tmg) (v1 : Int32) (v2 : Int32) (v3 : Int64) : Option (Tmc × Tmg) := (if inb v1 400 = true then ((X12_range mc mb mg v1 (me.2.2.2.2.2.2.2.2.2.2.2.2.2.2.2.2.1 (v1).toNatClampNeg) v3 v2).bind fun q2 => X12_ranges_162 mb ms mu me k2 q2.1 q2.2 v1) else none)
set_option maxRecDepth 20000 in
theorem bX12_ranges_105 (C : Cx p s m args meth c cX12_ranges 5 none RX12 (.code yX12_ranges cX12_ranges 5 none)) (hI : Apart ad 71) (hK : va_K D vwCl (tysX cy) s) (hN : NW s) {k2 : Tmc → Tmg → Int32 → Option (Tmc × Tmg)} {q : Tmc × Tmg} (hk2 : ∀ {mc : Tmc} {mg : Tmg} {v1 : Int32}, k2 mc mg v1 = some q → ∀ {ls : Array Slot}, lv_has ls 5 [(0, .ref (ad 0)), (1, .int v1)] → ∀ {H : Heap} {locs : List Loc}, va_P D vwCl (GM cy ad mt mc mb mo ms mk my mu ma me mr mp mg mw mf ml mq) H → va_S (Ac ad 71) s.heap H locs → W p l e ({ frames := 4, cells := 0, slots := 0, locals := 108 } : Room) s m args below meth c H locs 0 0 (MQ below (QR none D (GM cy ad mt q.1 mb mo ms mk my mu ma me mr mp q.2 mw mf ml mq) (Ac ad 71)) args s 0 0 (Ac ad 71)) (F0 m 2 ls [])) {v1 : Int32} {v2 : Int32} {v3 : Int64} (h : X12_ranges_105 mb ms mu me k2 mc mg v1 v2 v3 = some q) {ls : Array Slot} (hl : lv_has ls 5 [(0, .ref (ad 0)), (1, .int v1), (2, .int v2), (3, .long v3)]) {H : Heap} {locs : List Loc} (hP : va_P D vwCl (GM cy ad mt mc mb mo ms mk my mu ma me mr mp mg mw mf ml mq) H) (hS : va_S (Ac ad 71) s.heap H locs) : W p l e ({ frames := 4, cells := 0, slots := 0, locals := 108 } : Room) s m args below meth c H locs 0 0 (MQ below (QR none D (GM cy ad mt q.1 mb mo ms mk my mu ma me mr mp q.2 mw mf ml mq) (Ac ad 71)) args s 0 0 (Ac ad 71)) (F0 m 105 ls []) := by
  obtain ⟨hx, hb, hml, hown, hts, hr, hlk⟩ := id C
  unfold X12_ranges_105 at h
  refine lv_aload_n hx hb dX12_ranges_105 rfl (lv_at hl 0 rfl) ?_
  refine lv_iload_n hx hb dX12_ranges_106 rfl (lv_at hl 1 rfl) ?_
  refine lv_aload_n hx hb dX12_ranges_107 rfl (lv_at hl 0 rfl) ?_
  refine gM0_57 C hK hP w1424 dX12_ranges_108 ?_
  refine lv_iload_n hx hb dX12_ranges_111 rfl (lv_at hl 1 rfl) ?_
  obtain ⟨n1, h⟩ := grd h
  refine aM49 (f := me.2.2.2.2.2.2.2.2.2.2.2.2.2.2.2.2.1) C hK hP rfl n1 dX12_ranges_112 ?_
  refine lv_lload_n hx hb dX12_ranges_113 rfl (lv_at hl 3 rfl) ?_
  refine lv_iload_n hx hb dX12_ranges_114 rfl (lv_at hl 2 rfl) ?_
  obtain ⟨q2, h3, h⟩ := bnd h
  refine cRv (run_V (rest := []) C (kX12_range hI h3) caX12_range w1821 ⟨rfl, rfl, Nat.le_of_ble_eq_true rfl, Nat.le_of_ble_eq_true rfl⟩ hK hN hP (rM0 hK hP) rfl hl.1 rfl (Nat.le_of_ble_eq_true rfl) dX12_ranges_115 ⟨Nat.zero_le _, Nat.zero_le _⟩) hS (fun H locs hP hS => ?_)
  have hP : va_P D vwCl (GM cy ad mt q2.1 mb mo ms mk my mu ma me mr mp q2.2 mw mf ml mq) H := hP
  refine lv_goto (tgt := 162) hx hb dX12_ranges_118 (by decide) ?_
  exact bX12_ranges_162 C hI hK hN @hk2 h (lv_sub hl [0, 1] rfl) hP hS
def X12_ranges_87 (mb : Tmb) (ms : Tms) (mu : Tmu) (me : Tme) (k2 : Tmc → Tmg → Int32 → Option (Tmc × Tmg)) (mc : Tmc) (mg : Tmg) (v1 : Int32) (v2 : Int32) (z0 : Int64) : Option (Tmc × Tmg) := (if inb v1 400 = true then (if z0 < (me.2.2.2.2.2.2.2.2.2.2.2.2.2.2.2.2.1 (v1).toNatClampNeg) then (letq (X12_fail mc (2 : Int32) v2) fun q3 => X12_ranges_105 mb ms mu me k2 q3 mg v1 v2 z0) else X12_ranges_105 mb ms mu me k2 mc mg v1 v2 z0) else none)
set_option maxRecDepth 20000 in
theorem bX12_ranges_87 (C : Cx p s m args meth c cX12_ranges 5 none RX12 (.code yX12_ranges cX12_ranges 5 none)) (hI : Apart ad 71) (hK : va_K D vwCl (tysX cy) s) (hN : NW s) {k2 : Tmc → Tmg → Int32 → Option (Tmc × Tmg)} {q : Tmc × Tmg} (hk2 : ∀ {mc : Tmc} {mg : Tmg} {v1 : Int32}, k2 mc mg v1 = some q → ∀ {ls : Array Slot}, lv_has ls 5 [(0, .ref (ad 0)), (1, .int v1)] → ∀ {H : Heap} {locs : List Loc}, va_P D vwCl (GM cy ad mt mc mb mo ms mk my mu ma me mr mp mg mw mf ml mq) H → va_S (Ac ad 71) s.heap H locs → W p l e ({ frames := 4, cells := 0, slots := 0, locals := 108 } : Room) s m args below meth c H locs 0 0 (MQ below (QR none D (GM cy ad mt q.1 mb mo ms mk my mu ma me mr mp q.2 mw mf ml mq) (Ac ad 71)) args s 0 0 (Ac ad 71)) (F0 m 2 ls [])) {v1 : Int32} {v2 : Int32} {z0 : Int64} (h : X12_ranges_87 mb ms mu me k2 mc mg v1 v2 z0 = some q) {ls : Array Slot} (hl : lv_has ls 5 [(0, .ref (ad 0)), (1, .int v1), (2, .int v2)]) {H : Heap} {locs : List Loc} (hP : va_P D vwCl (GM cy ad mt mc mb mo ms mk my mu ma me mr mp mg mw mf ml mq) H) (hS : va_S (Ac ad 71) s.heap H locs) : W p l e ({ frames := 4, cells := 0, slots := 0, locals := 108 } : Room) s m args below meth c H locs 0 0 (MQ below (QR none D (GM cy ad mt q.1 mb mo ms mk my mu ma me mr mp q.2 mw mf ml mq) (Ac ad 71)) args s 0 0 (Ac ad 71)) (F0 m 87 ls [.long z0]) := by
  obtain ⟨hx, hb, hml, hown, hts, hr, hlk⟩ := id C
  unfold X12_ranges_87 at h
  refine lv_lstore_n (lv' := [(3, .long z0), (0, .ref (ad 0)), (1, .int v1), (2, .int v2)]) hx hb dX12_ranges_87 rfl hl (by decide) rfl (fun ls hl => ?_)
  refine lv_lload_n hx hb dX12_ranges_88 rfl (lv_at hl 0 rfl) ?_
  refine lv_aload_n hx hb dX12_ranges_89 rfl (lv_at hl 1 rfl) ?_
  refine gM0_57 C hK hP w1424 dX12_ranges_90 ?_
  refine lv_iload_n hx hb dX12_ranges_93 rfl (lv_at hl 2 rfl) ?_
  obtain ⟨n1, h⟩ := grd h
  refine aM49 (f := me.2.2.2.2.2.2.2.2.2.2.2.2.2.2.2.2.1) C hK hP rfl n1 dX12_ranges_94 ?_
  refine lc_ge (tgt := 105) hx hb dX12_ranges_95 dX12_ranges_96 (by decide) (fun c2 => ?_) (fun c2 => ?_)
  · rw [if_neg c2] at h
    exact bX12_ranges_105 C hI hK hN @hk2 h (lv_sub hl [1, 2, 3, 0] rfl) hP hS
  · rw [if_pos c2] at h
    refine lv_aload_n hx hb dX12_ranges_99 rfl (lv_at hl 1 rfl) ?_
    refine lv_iconst (v := (2 : Int32)) hx hb dX12_ranges_100 (by decide) ?_
    refine lv_iload_n hx hb dX12_ranges_101 rfl (lv_at hl 3 rfl) ?_
    obtain ⟨q3, h4, h⟩ := lets h
    refine cRv (run_V (rest := []) C (kX12_fail hI h4) caX12_fail w1678 ⟨rfl, rfl, Nat.le_of_ble_eq_true rfl, Nat.le_of_ble_eq_true rfl⟩ hK hN hP (rM0 hK hP) rfl hl.1 rfl (Nat.le_of_ble_eq_true rfl) dX12_ranges_102 ⟨Nat.zero_le _, Nat.zero_le _⟩) hS (fun H locs hP hS => ?_)
    have hP : va_P D vwCl (GM cy ad mt q3 mb mo ms mk my mu ma me mr mp mg mw mf ml mq) H := hP
    exact bX12_ranges_105 C hI hK hN @hk2 h (lv_sub hl [1, 2, 3, 0] rfl) hP hS
def X12_ranges_121 (mb : Tmb) (ms : Tms) (mu : Tmu) (me : Tme) (k2 : Tmc → Tmg → Int32 → Option (Tmc × Tmg)) (mc : Tmc) (mg : Tmg) (v1 : Int32) (v2 : Int32) : Option (Tmc × Tmg) := (if inb v1 400 = true then (if (me.2.2.2.2.2.2.2.2.2.2.2.2.2.2.2.1 (v1).toNatClampNeg) = 0 then X12_ranges_162 mb ms mu me k2 mc mg v1 else (if inb v1 400 = true then (if inb (6 : Int32) 7 = true then (if (me.2.2.2.2.2.2.2.2.2.2.2.2.2.2.2.2.2.2 (v1).toNatClampNeg) < (((ms.2.2.2.2.2 ((6 : Int32)).toNatClampNeg)).toInt64) then ((X12_list mc mb ms mu me mg v1).bind fun q6 => X12_ranges_162 mb ms mu me k2 q6.1 q6.2 v1) else (letq (X12_fail mc (3 : Int32) v2) fun q8 => X12_ranges_162 mb ms mu me k2 q8 mg v1)) else none) else none)) else none)
set_option maxRecDepth 20000 in
theorem bX12_ranges_121 (C : Cx p s m args meth c cX12_ranges 5 none RX12 (.code yX12_ranges cX12_ranges 5 none)) (hI : Apart ad 71) (hK : va_K D vwCl (tysX cy) s) (hN : NW s) {k2 : Tmc → Tmg → Int32 → Option (Tmc × Tmg)} {q : Tmc × Tmg} (hk2 : ∀ {mc : Tmc} {mg : Tmg} {v1 : Int32}, k2 mc mg v1 = some q → ∀ {ls : Array Slot}, lv_has ls 5 [(0, .ref (ad 0)), (1, .int v1)] → ∀ {H : Heap} {locs : List Loc}, va_P D vwCl (GM cy ad mt mc mb mo ms mk my mu ma me mr mp mg mw mf ml mq) H → va_S (Ac ad 71) s.heap H locs → W p l e ({ frames := 4, cells := 0, slots := 0, locals := 108 } : Room) s m args below meth c H locs 0 0 (MQ below (QR none D (GM cy ad mt q.1 mb mo ms mk my mu ma me mr mp q.2 mw mf ml mq) (Ac ad 71)) args s 0 0 (Ac ad 71)) (F0 m 2 ls [])) {v1 : Int32} {v2 : Int32} (h : X12_ranges_121 mb ms mu me k2 mc mg v1 v2 = some q) {ls : Array Slot} (hl : lv_has ls 5 [(0, .ref (ad 0)), (1, .int v1), (2, .int v2)]) {H : Heap} {locs : List Loc} (hP : va_P D vwCl (GM cy ad mt mc mb mo ms mk my mu ma me mr mp mg mw mf ml mq) H) (hS : va_S (Ac ad 71) s.heap H locs) : W p l e ({ frames := 4, cells := 0, slots := 0, locals := 108 } : Room) s m args below meth c H locs 0 0 (MQ below (QR none D (GM cy ad mt q.1 mb mo ms mk my mu ma me mr mp q.2 mw mf ml mq) (Ac ad 71)) args s 0 0 (Ac ad 71)) (F0 m 121 ls []) := by
  obtain ⟨hx, hb, hml, hown, hts, hr, hlk⟩ := id C
  unfold X12_ranges_121 at h
  refine lv_aload_n hx hb dX12_ranges_121 rfl (lv_at hl 0 rfl) ?_
  refine gM0_56 C hK hP w1423 dX12_ranges_122 ?_
  refine lv_iload_n hx hb dX12_ranges_125 rfl (lv_at hl 1 rfl) ?_
  obtain ⟨n1, h⟩ := grd h
  refine aM48 (f := me.2.2.2.2.2.2.2.2.2.2.2.2.2.2.2.1) C hK hP rfl n1 dX12_ranges_126 ?_
  refine lv_if_eq (tgt := 162) hx hb dX12_ranges_127 (by decide) (fun c2 => ?_) (fun c2 => ?_)
  · rw [if_pos c2] at h
    exact bX12_ranges_162 C hI hK hN @hk2 h (lv_sub hl [0, 1] rfl) hP hS
  · rw [if_neg c2] at h
    refine lv_aload_n hx hb dX12_ranges_130 rfl (lv_at hl 0 rfl) ?_
    refine gM0_59 C hK hP w1426 dX12_ranges_131 ?_
    refine lv_iload_n hx hb dX12_ranges_134 rfl (lv_at hl 1 rfl) ?_
    obtain ⟨n3, h⟩ := grd h
    refine aM51 (f := me.2.2.2.2.2.2.2.2.2.2.2.2.2.2.2.2.2.2) C hK hP rfl n3 dX12_ranges_135 ?_
    refine lv_aload_n hx hb dX12_ranges_136 rfl (lv_at hl 0 rfl) ?_
    refine gM0_21 C hK hP w1388 dX12_ranges_137 ?_
    refine lv_bipush (v := (6 : Int32)) hx hb dX12_ranges_140 (by decide) ?_
    obtain ⟨n4, h⟩ := grd h
    refine aM14 (f := ms.2.2.2.2.2) C hK hP rfl n4 dX12_ranges_142 ?_
    refine lv_i2l (v := (((ms.2.2.2.2.2 ((6 : Int32)).toNatClampNeg)).toInt64)) hx hb dX12_ranges_143 rfl ?_
    refine lc_lt (tgt := 157) hx hb dX12_ranges_144 dX12_ranges_145 (by decide) (fun c5 => ?_) (fun c5 => ?_)
    · rw [if_pos c5] at h
      refine lv_aload_n hx hb dX12_ranges_157 rfl (lv_at hl 0 rfl) ?_
      refine lv_iload_n hx hb dX12_ranges_158 rfl (lv_at hl 1 rfl) ?_
      obtain ⟨q6, h7, h⟩ := bnd h
      refine cRv (run_V (rest := []) C (kX12_list hI h7) caX12_list w1825 ⟨rfl, rfl, Nat.le_of_ble_eq_true rfl, Nat.le_of_ble_eq_true rfl⟩ hK hN hP (rM0 hK hP) rfl hl.1 rfl (Nat.le_of_ble_eq_true rfl) dX12_ranges_159 ⟨Nat.zero_le _, Nat.zero_le _⟩) hS (fun H locs hP hS => ?_)
      have hP : va_P D vwCl (GM cy ad mt q6.1 mb mo ms mk my mu ma me mr mp q6.2 mw mf ml mq) H := hP
      exact bX12_ranges_162 C hI hK hN @hk2 h (lv_sub hl [0, 1] rfl) hP hS
    · rw [if_neg c5] at h
      refine lv_aload_n hx hb dX12_ranges_148 rfl (lv_at hl 0 rfl) ?_
      refine lv_iconst (v := (3 : Int32)) hx hb dX12_ranges_149 (by decide) ?_
      refine lv_iload_n hx hb dX12_ranges_150 rfl (lv_at hl 2 rfl) ?_
      obtain ⟨q8, h9, h⟩ := lets h
      refine cRv (run_V (rest := []) C (kX12_fail hI h9) caX12_fail w1678 ⟨rfl, rfl, Nat.le_of_ble_eq_true rfl, Nat.le_of_ble_eq_true rfl⟩ hK hN hP (rM0 hK hP) rfl hl.1 rfl (Nat.le_of_ble_eq_true rfl) dX12_ranges_151 ⟨Nat.zero_le _, Nat.zero_le _⟩) hS (fun H locs hP hS => ?_)
      have hP : va_P D vwCl (GM cy ad mt q8 mb mo ms mk my mu ma me mr mp mg mw mf ml mq) H := hP
      refine lv_goto (tgt := 162) hx hb dX12_ranges_154 (by decide) ?_
      exact bX12_ranges_162 C hI hK hN @hk2 h (lv_sub hl [0, 1] rfl) hP hS
def X12_ranges_2b (mb : Tmb) (ms : Tms) (mu : Tmu) (me : Tme)  (k2 : Tmc → Tmg → Int32 → Option (Tmc × Tmg)) (mc : Tmc) (mg : Tmg) (v1 : Int32) : Option (Tmc × Tmg) := (if inb mb.2.1 2 = true then (if v1 < (me.1 (mb.2.1).toNatClampNeg) then (if (X12_isRight mc) = 0 then some (mc, mg) else (if inb (((400 : Int32) * mb.2.1) + v1) 800 = true then (if inb v1 400 = true then (if (me.2.2.2.2.2.2.2.2.2.2.2.2.1 (v1).toNatClampNeg) = 0 then X12_ranges_121 mb ms mu me k2 mc mg v1 (me.2.2.2.2.2.1 ((((400 : Int32) * mb.2.1) + v1)).toNatClampNeg) else (if inb v1 400 = true then (if (me.2.2.2.2.2.2.2.2.2.2.2.2.2.1 (v1).toNatClampNeg) = 0 then X12_ranges_121 mb ms mu me k2 mc mg v1 (me.2.2.2.2.2.1 ((((400 : Int32) * mb.2.1) + v1)).toNatClampNeg) else (if inb v1 400 = true then (if (me.2.2.2.2.2.2.2.2.2.2.2.2.2.2.1 (v1).toNatClampNeg) = 0 then (if inb v1 400 = true then X12_ranges_87 mb ms mu me k2 mc mg v1 (me.2.2.2.2.2.1 ((((400 : Int32) * mb.2.1) + v1)).toNatClampNeg) (me.2.2.2.2.2.2.2.2.2.2.2.2.2.2.2.2.2.1 (v1).toNatClampNeg) else none) else (if inb v1 400 = true then (if inb v1 400 = true then X12_ranges_87 mb ms mu me k2 mc mg v1 (me.2.2.2.2.2.1 ((((400 : Int32) * mb.2.1) + v1)).toNatClampNeg) ((me.2.2.2.2.2.2.2.2.2.2.2.2.2.2.2.2.1 (v1).toNatClampNeg) + (me.2.2.2.2.2.2.2.2.2.2.2.2.2.2.2.2.2.1 (v1).toNatClampNeg)) else none) else none)) else none)) else none)) else none) else none)) else some (mc, mg)) else none)
def X12_ranges_2 (mb : Tmb) (ms : Tms) (mu : Tmu) (me : Tme)  (n : Nat) (st : Tmc × Tmg × Int32) : Option (Tmc × Tmg) := lp (fun rec st => X12_ranges_2b mb ms mu me  (fun a0 a1 a2 => rec (a0, a1, a2)) st.1 st.2.1 st.2.2) n st
set_option maxRecDepth 20000 in
theorem bX12_ranges_2 (C : Cx p s m args meth c cX12_ranges 5 none RX12 (.code yX12_ranges cX12_ranges 5 none)) (hI : Apart ad 71) (hK : va_K D vwCl (tysX cy) s) (hN : NW s)  {q : Tmc × Tmg}  : ∀ (n : Nat) {mc : Tmc} {mg : Tmg} {v1 : Int32}, X12_ranges_2 mb ms mu me  n (mc, mg, v1) = some q → ∀ {ls : Array Slot}, lv_has ls 5 [(0, .ref (ad 0)), (1, .int v1)] → ∀ {H : Heap} {locs : List Loc}, va_P D vwCl (GM cy ad mt mc mb mo ms mk my mu ma me mr mp mg mw mf ml mq) H → va_S (Ac ad 71) s.heap H locs → W p l e ({ frames := 4, cells := 0, slots := 0, locals := 108 } : Room) s m args below meth c H locs 0 0 (MQ below (QR none D (GM cy ad mt q.1 mb mo ms mk my mu ma me mr mp q.2 mw mf ml mq) (Ac ad 71)) args s 0 0 (Ac ad 71)) (F0 m 2 ls []) := by
  obtain ⟨hx, hb, hml, hown, hts, hr, hlk⟩ := id C
  intro n
  induction n with
  | zero =>
    intro mc mg v1 h ls hl H locs hP hS
    have h : (none : Option (Tmc × Tmg)) = some q := h
    cases h
  | succ n ih =>
    intro mc mg v1 h ls hl H locs hP hS
    have h : X12_ranges_2b mb ms mu me  (fun a0 a1 a2 => X12_ranges_2 mb ms mu me  n (a0, a1, a2)) mc mg v1 = some q := h
    unfold X12_ranges_2b at h
    refine lv_iload_n hx hb dX12_ranges_2 rfl (lv_at hl 1 rfl) ?_
    refine lv_aload_n hx hb dX12_ranges_3 rfl (lv_at hl 0 rfl) ?_
    refine gM0_13 C hK hP w1380 dX12_ranges_4 ?_
    refine lv_aload_n hx hb dX12_ranges_7 rfl (lv_at hl 0 rfl) ?_
    refine gM0_6 (v := mb.2.1) C hK hP rfl w1373 dX12_ranges_8 ?_
    obtain ⟨n1, h⟩ := grd h
    refine aM6 (f := me.1) C hK hP rfl n1 dX12_ranges_11 ?_
    refine b_icmp_ge (tgt := 168) hx hb dX12_ranges_12 (by decide) (fun c2 => ?_) (fun c2 => ?_)
    · rw [if_neg c2] at h
      obtain rfl := Option.some.inj h
      exact W.vret hx hb hr (fun t ht _ => ⟨rfl, by rw [ht]; exact hP, hS.F ht⟩) hS.2.2 dX12_ranges_168 hlk
    · rw [if_pos c2] at h
      refine lv_aload_n hx hb dX12_ranges_15 rfl (lv_at hl 0 rfl) ?_
      refine cPi (run_V (rest := []) C (kX12_isRight rfl) caX12_isRight w1682 ⟨rfl, rfl, Nat.le_of_ble_eq_true rfl, Nat.le_of_ble_eq_true rfl⟩ hK hN hP (rM0 hK hP) rfl hl.1 rfl (Nat.le_of_ble_eq_true rfl) dX12_ranges_16 ⟨Nat.zero_le _, Nat.zero_le _⟩) ?_
      refine lv_if_eq (tgt := 168) hx hb dX12_ranges_19 (by decide) (fun c3 => ?_) (fun c3 => ?_)
      · rw [if_pos c3] at h
        obtain rfl := Option.some.inj h
        exact W.vret hx hb hr (fun t ht _ => ⟨rfl, by rw [ht]; exact hP, hS.F ht⟩) hS.2.2 dX12_ranges_168 hlk
      · rw [if_neg c3] at h
        refine lv_aload_n hx hb dX12_ranges_22 rfl (lv_at hl 0 rfl) ?_
        refine gM0_46 C hK hP w1413 dX12_ranges_23 ?_
        refine lv_sipush (v := (400 : Int32)) hx hb dX12_ranges_26 (by decide) ?_
        refine lv_aload_n hx hb dX12_ranges_29 rfl (lv_at hl 0 rfl) ?_
        refine gM0_6 (v := mb.2.1) C hK hP rfl w1373 dX12_ranges_30 ?_
        refine lv_imul hx hb dX12_ranges_33 ?_
        refine lv_iload_n hx hb dX12_ranges_34 rfl (lv_at hl 1 rfl) ?_
        refine lv_iadd hx hb dX12_ranges_35 ?_
        obtain ⟨n4, h⟩ := grd h
        refine aM38 (f := me.2.2.2.2.2.1) C hK hP rfl n4 dX12_ranges_36 ?_
        refine lv_istore_n (lv' := [(2, .int (me.2.2.2.2.2.1 ((((400 : Int32) * mb.2.1) + v1)).toNatClampNeg)), (0, .ref (ad 0)), (1, .int v1)]) hx hb dX12_ranges_37 rfl hl (by decide) rfl (fun ls hl => ?_)
        refine lv_aload_n hx hb dX12_ranges_38 rfl (lv_at hl 1 rfl) ?_
        refine gM0_53 C hK hP w1420 dX12_ranges_39 ?_
        refine lv_iload_n hx hb dX12_ranges_42 rfl (lv_at hl 2 rfl) ?_
        obtain ⟨n5, h⟩ := grd h
        refine aM45 (f := me.2.2.2.2.2.2.2.2.2.2.2.2.1) C hK hP rfl n5 dX12_ranges_43 ?_
        refine lv_if_eq (tgt := 121) hx hb dX12_ranges_44 (by decide) (fun c6 => ?_) (fun c6 => ?_)
        · rw [if_pos c6] at h
          exact bX12_ranges_121 C hI hK hN @ih h (lv_sub hl [1, 2, 0] rfl) hP hS
        · rw [if_neg c6] at h
          refine lv_aload_n hx hb dX12_ranges_47 rfl (lv_at hl 1 rfl) ?_
          refine gM0_54 C hK hP w1421 dX12_ranges_48 ?_
          refine lv_iload_n hx hb dX12_ranges_51 rfl (lv_at hl 2 rfl) ?_
          obtain ⟨n7, h⟩ := grd h
          refine aM46 (f := me.2.2.2.2.2.2.2.2.2.2.2.2.2.1) C hK hP rfl n7 dX12_ranges_52 ?_
          refine lv_if_eq (tgt := 121) hx hb dX12_ranges_53 (by decide) (fun c8 => ?_) (fun c8 => ?_)
          · rw [if_pos c8] at h
            exact bX12_ranges_121 C hI hK hN @ih h (lv_sub hl [1, 2, 0] rfl) hP hS
          · rw [if_neg c8] at h
            refine lv_aload_n hx hb dX12_ranges_56 rfl (lv_at hl 1 rfl) ?_
            refine gM0_55 C hK hP w1422 dX12_ranges_57 ?_
            refine lv_iload_n hx hb dX12_ranges_60 rfl (lv_at hl 2 rfl) ?_
            obtain ⟨n9, h⟩ := grd h
            refine aM47 (f := me.2.2.2.2.2.2.2.2.2.2.2.2.2.2.1) C hK hP rfl n9 dX12_ranges_61 ?_
            refine lv_if_eq (tgt := 81) hx hb dX12_ranges_62 (by decide) (fun c10 => ?_) (fun c10 => ?_)
            · rw [if_pos c10] at h
              refine lv_aload_n hx hb dX12_ranges_81 rfl (lv_at hl 1 rfl) ?_
              refine gM0_58 C hK hP w1425 dX12_ranges_82 ?_
              refine lv_iload_n hx hb dX12_ranges_85 rfl (lv_at hl 2 rfl) ?_
              obtain ⟨n11, h⟩ := grd h
              refine aM50 (f := me.2.2.2.2.2.2.2.2.2.2.2.2.2.2.2.2.2.1) C hK hP rfl n11 dX12_ranges_86 ?_
              exact bX12_ranges_87 C hI hK hN @ih h (lv_sub hl [1, 2, 0] rfl) hP hS
            · rw [if_neg c10] at h
              refine lv_aload_n hx hb dX12_ranges_65 rfl (lv_at hl 1 rfl) ?_
              refine gM0_57 C hK hP w1424 dX12_ranges_66 ?_
              refine lv_iload_n hx hb dX12_ranges_69 rfl (lv_at hl 2 rfl) ?_
              obtain ⟨n12, h⟩ := grd h
              refine aM49 (f := me.2.2.2.2.2.2.2.2.2.2.2.2.2.2.2.2.1) C hK hP rfl n12 dX12_ranges_70 ?_
              refine lv_aload_n hx hb dX12_ranges_71 rfl (lv_at hl 1 rfl) ?_
              refine gM0_58 C hK hP w1425 dX12_ranges_72 ?_
              refine lv_iload_n hx hb dX12_ranges_75 rfl (lv_at hl 2 rfl) ?_
              obtain ⟨n13, h⟩ := grd h
              refine aM50 (f := me.2.2.2.2.2.2.2.2.2.2.2.2.2.2.2.2.2.1) C hK hP rfl n13 dX12_ranges_76 ?_
              refine lv_ladd hx hb dX12_ranges_77 ?_
              refine lv_goto (tgt := 87) hx hb dX12_ranges_78 (by decide) ?_
              exact bX12_ranges_87 C hI hK hN @ih h (lv_sub hl [1, 2, 0] rfl) hP hS
def X12_ranges (mc : Tmc) (mb : Tmb) (ms : Tms) (mu : Tmu) (me : Tme) (mg : Tmg)  : Option (Tmc × Tmg) := X12_ranges_2 mb ms mu me FU (mc, mg, (0 : Int32))
set_option maxRecDepth 20000 in
theorem bX12_ranges_0 (C : Cx p s m args meth c cX12_ranges 5 none RX12 (.code yX12_ranges cX12_ranges 5 none)) (hI : Apart ad 71) (hK : va_K D vwCl (tysX cy) s) (hN : NW s)  {q : Tmc × Tmg}   (h : X12_ranges mc mb ms mu me mg = some q) {ls : Array Slot} (hl : lv_has ls 5 [(0, .ref (ad 0))]) {H : Heap} {locs : List Loc} (hP : va_P D vwCl (GM cy ad mt mc mb mo ms mk my mu ma me mr mp mg mw mf ml mq) H) (hS : va_S (Ac ad 71) s.heap H locs) : W p l e ({ frames := 4, cells := 0, slots := 0, locals := 108 } : Room) s m args below meth c H locs 0 0 (MQ below (QR none D (GM cy ad mt q.1 mb mo ms mk my mu ma me mr mp q.2 mw mf ml mq) (Ac ad 71)) args s 0 0 (Ac ad 71)) (F0 m 0 ls []) := by
  obtain ⟨hx, hb, hml, hown, hts, hr, hlk⟩ := id C
  unfold X12_ranges at h
  refine lv_iconst (v := (0 : Int32)) hx hb dX12_ranges_0 (by decide) ?_
  refine lv_istore_n (lv' := [(1, .int (0 : Int32)), (0, .ref (ad 0))]) hx hb dX12_ranges_1 rfl hl (by decide) rfl (fun ls hl => ?_)
  exact bX12_ranges_2 C hI hK hN FU h (lv_sub hl [1, 0] rfl) hP hS
theorem kX12_ranges (hI : Apart ad 71)  {q : Tmc × Tmg} (h : X12_ranges mc mb ms mu me mg = some q) : Met l yX12_ranges (.code yX12_ranges cX12_ranges 5 none :: WA) ({ frames := 4, cells := 0, slots := 0, locals := 108 } : Room) (va_Pc [.ref (ad 0)] (PR D cy (GM cy ad mt mc mb mo ms mk my mu ma me mr mp mg mw mf ml mq))) (QR none D (GM cy ad mt q.1 mb mo ms mk my mu ma me mr mp q.2 mw mf ml mq) (Ac ad 71)) 0 0 (Ac ad 71) :=
  met_of (by decide) (Nat.le_of_ble_eq_true rfl) (fun p e s m below meth c ls C hP hK hN hl => bX12_ranges_0 C hI hK hN h hl hP va_S.rf)
def X12_constants_214 (mb : Tmb) (k131 : Tmc → Tml → Int32 → Option (Tmc × Tml)) (mc : Tmc) (ml : Tml) (v2 : Int32) : Option (Tmc × Tml) := k131 mc ml (v2 + (1 : Int32))
set_option maxRecDepth 20000 in
theorem bX12_constants_214 (C : Cx p s m args meth c cX12_constants 4 none RX12 (.code yX12_constants cX12_constants 4 none)) (hI : Apart ad 71) (hK : va_K D vwCl (tysX cy) s) (hN : NW s) {k131 : Tmc → Tml → Int32 → Option (Tmc × Tml)} {q : Tmc × Tml} (hk131 : ∀ {mc : Tmc} {ml : Tml} {v2 : Int32}, k131 mc ml v2 = some q → ∀ {ls : Array Slot}, lv_has ls 4 [(0, .ref (ad 0)), (2, .int v2)] → ∀ {H : Heap} {locs : List Loc}, va_P D vwCl (GM cy ad mt mc mb mo ms mk my mu ma me mr mp mg mw mf ml mq) H → va_S (Ac ad 71) s.heap H locs → W p l e ({ frames := 4, cells := 0, slots := 0, locals := 94 } : Room) s m args below meth c H locs 0 0 (MQ below (QR none D (GM cy ad mt q.1 mb mo ms mk my mu ma me mr mp mg mw mf q.2 mq) (Ac ad 71)) args s 0 0 (Ac ad 71)) (F0 m 131 ls [])) {v2 : Int32} (h : X12_constants_214 mb k131 mc ml v2 = some q) {ls : Array Slot} (hl : lv_has ls 4 [(0, .ref (ad 0)), (2, .int v2)]) {H : Heap} {locs : List Loc} (hP : va_P D vwCl (GM cy ad mt mc mb mo ms mk my mu ma me mr mp mg mw mf ml mq) H) (hS : va_S (Ac ad 71) s.heap H locs) : W p l e ({ frames := 4, cells := 0, slots := 0, locals := 94 } : Room) s m args below meth c H locs 0 0 (MQ below (QR none D (GM cy ad mt q.1 mb mo ms mk my mu ma me mr mp mg mw mf q.2 mq) (Ac ad 71)) args s 0 0 (Ac ad 71)) (F0 m 214 ls []) := by
  obtain ⟨hx, hb, hml, hown, hts, hr, hlk⟩ := id C
  unfold X12_constants_214 at h
  refine lv_iinc (v := (v2 + (1 : Int32))) (lv' := [(2, .int (v2 + (1 : Int32))), (0, .ref (ad 0))]) hx hb dX12_constants_214 hl (k := 1) rfl rfl (by decide) rfl (fun ls hl => ?_)
  refine lv_goto (tgt := 131) hx hb dX12_constants_217 (by decide) ?_
  exact hk131 h (lv_sub hl [1, 0] rfl) hP hS
def X12_constants_184 (mb : Tmb) (k131 : Tmc → Tml → Int32 → Option (Tmc × Tml)) (mc : Tmc) (ml : Tml) (v1 : Int32) (v2 : Int32) (z0 : Int32) : Option (Tmc × Tml) := (if (X12_isRight mc) = 0 then X12_constants_214 mb k131 mc ml v2 else (if v2 < (10 : Int32) then (if inb v2 20 = true then (if (ml.2.2.2.2.1 (v2).toNatClampNeg) = z0 then X12_constants_214 mb k131 mc ml v2 else (letq (X12_fail mc (2 : Int32) v1) fun q5 => X12_constants_214 mb k131 q5 ml v2)) else none) else X12_constants_214 mb k131 mc ml v2))
set_option maxRecDepth 20000 in
theorem bX12_constants_184 (C : Cx p s m args meth c cX12_constants 4 none RX12 (.code yX12_constants cX12_constants 4 none)) (hI : Apart ad 71) (hK : va_K D vwCl (tysX cy) s) (hN : NW s) {k131 : Tmc → Tml → Int32 → Option (Tmc × Tml)} {q : Tmc × Tml} (hk131 : ∀ {mc : Tmc} {ml : Tml} {v2 : Int32}, k131 mc ml v2 = some q → ∀ {ls : Array Slot}, lv_has ls 4 [(0, .ref (ad 0)), (2, .int v2)] → ∀ {H : Heap} {locs : List Loc}, va_P D vwCl (GM cy ad mt mc mb mo ms mk my mu ma me mr mp mg mw mf ml mq) H → va_S (Ac ad 71) s.heap H locs → W p l e ({ frames := 4, cells := 0, slots := 0, locals := 94 } : Room) s m args below meth c H locs 0 0 (MQ below (QR none D (GM cy ad mt q.1 mb mo ms mk my mu ma me mr mp mg mw mf q.2 mq) (Ac ad 71)) args s 0 0 (Ac ad 71)) (F0 m 131 ls [])) {v1 : Int32} {v2 : Int32} {z0 : Int32} (h : X12_constants_184 mb k131 mc ml v1 v2 z0 = some q) {ls : Array Slot} (hl : lv_has ls 4 [(0, .ref (ad 0)), (1, .int v1), (2, .int v2)]) {H : Heap} {locs : List Loc} (hP : va_P D vwCl (GM cy ad mt mc mb mo ms mk my mu ma me mr mp mg mw mf ml mq) H) (hS : va_S (Ac ad 71) s.heap H locs) : W p l e ({ frames := 4, cells := 0, slots := 0, locals := 94 } : Room) s m args below meth c H locs 0 0 (MQ below (QR none D (GM cy ad mt q.1 mb mo ms mk my mu ma me mr mp mg mw mf q.2 mq) (Ac ad 71)) args s 0 0 (Ac ad 71)) (F0 m 184 ls [.int z0]) := by
  obtain ⟨hx, hb, hml, hown, hts, hr, hlk⟩ := id C
  unfold X12_constants_184 at h
  refine lv_istore_n (lv' := [(3, .int z0), (0, .ref (ad 0)), (1, .int v1), (2, .int v2)]) hx hb dX12_constants_184 rfl hl (by decide) rfl (fun ls hl => ?_)
  refine lv_aload_n hx hb dX12_constants_185 rfl (lv_at hl 1 rfl) ?_
  refine cPi (run_V (rest := []) C (kX12_isRight rfl) caX12_isRight w1682 ⟨rfl, rfl, Nat.le_of_ble_eq_true rfl, Nat.le_of_ble_eq_true rfl⟩ hK hN hP (rM0 hK hP) rfl hl.1 rfl (Nat.le_of_ble_eq_true rfl) dX12_constants_186 ⟨Nat.zero_le _, Nat.zero_le _⟩) ?_
  refine lv_if_eq (tgt := 214) hx hb dX12_constants_189 (by decide) (fun c1 => ?_) (fun c1 => ?_)
  · rw [if_pos c1] at h
    exact bX12_constants_214 C hI hK hN @hk131 h (lv_sub hl [1, 3] rfl) hP hS
  · rw [if_neg c1] at h
    refine lv_iload_n hx hb dX12_constants_192 rfl (lv_at hl 3 rfl) ?_
    refine lv_bipush (v := (10 : Int32)) hx hb dX12_constants_193 (by decide) ?_
    refine b_icmp_ge (tgt := 214) hx hb dX12_constants_195 (by decide) (fun c2 => ?_) (fun c2 => ?_)
    · rw [if_neg c2] at h
      exact bX12_constants_214 C hI hK hN @hk131 h (lv_sub hl [1, 3] rfl) hP hS
    · rw [if_pos c2] at h
      refine lv_aload_n hx hb dX12_constants_198 rfl (lv_at hl 1 rfl) ?_
      refine gM0_83 C hK hP w1450 dX12_constants_199 ?_
      refine lv_iload_n hx hb dX12_constants_202 rfl (lv_at hl 3 rfl) ?_
      obtain ⟨n3, h⟩ := grd h
      refine aM67 (f := ml.2.2.2.2.1) C hK hP rfl n3 dX12_constants_203 ?_
      refine lv_iload_n hx hb dX12_constants_204 rfl (lv_at hl 0 rfl) ?_
      refine lv_icmp_eq (tgt := 214) hx hb dX12_constants_205 (by decide) (fun c4 => ?_) (fun c4 => ?_)
      · rw [if_pos c4] at h
        exact bX12_constants_214 C hI hK hN @hk131 h (lv_sub hl [1, 3] rfl) hP hS
      · rw [if_neg c4] at h
        refine lv_aload_n hx hb dX12_constants_208 rfl (lv_at hl 1 rfl) ?_
        refine lv_iconst (v := (2 : Int32)) hx hb dX12_constants_209 (by decide) ?_
        refine lv_iload_n hx hb dX12_constants_210 rfl (lv_at hl 2 rfl) ?_
        obtain ⟨q5, h6, h⟩ := lets h
        refine cRv (run_V (rest := []) C (kX12_fail hI h6) caX12_fail w1678 ⟨rfl, rfl, Nat.le_of_ble_eq_true rfl, Nat.le_of_ble_eq_true rfl⟩ hK hN hP (rM0 hK hP) rfl hl.1 rfl (Nat.le_of_ble_eq_true rfl) dX12_constants_211 ⟨Nat.zero_le _, Nat.zero_le _⟩) hS (fun H locs hP hS => ?_)
        have hP : va_P D vwCl (GM cy ad mt q5 mb mo ms mk my mu ma me mr mp mg mw mf ml mq) H := hP
        exact bX12_constants_214 C hI hK hN @hk131 h (lv_sub hl [1, 3] rfl) hP hS
def X12_constants_179 (mb : Tmb) (k131 : Tmc → Tml → Int32 → Option (Tmc × Tml)) (mc : Tmc) (ml : Tml) (v1 : Int32) (v2 : Int32) : Option (Tmc × Tml) := X12_constants_184 mb k131 mc ml v1 v2 (1 : Int32)
set_option maxRecDepth 20000 in
theorem bX12_constants_179 (C : Cx p s m args meth c cX12_constants 4 none RX12 (.code yX12_constants cX12_constants 4 none)) (hI : Apart ad 71) (hK : va_K D vwCl (tysX cy) s) (hN : NW s) {k131 : Tmc → Tml → Int32 → Option (Tmc × Tml)} {q : Tmc × Tml} (hk131 : ∀ {mc : Tmc} {ml : Tml} {v2 : Int32}, k131 mc ml v2 = some q → ∀ {ls : Array Slot}, lv_has ls 4 [(0, .ref (ad 0)), (2, .int v2)] → ∀ {H : Heap} {locs : List Loc}, va_P D vwCl (GM cy ad mt mc mb mo ms mk my mu ma me mr mp mg mw mf ml mq) H → va_S (Ac ad 71) s.heap H locs → W p l e ({ frames := 4, cells := 0, slots := 0, locals := 94 } : Room) s m args below meth c H locs 0 0 (MQ below (QR none D (GM cy ad mt q.1 mb mo ms mk my mu ma me mr mp mg mw mf q.2 mq) (Ac ad 71)) args s 0 0 (Ac ad 71)) (F0 m 131 ls [])) {v1 : Int32} {v2 : Int32} (h : X12_constants_179 mb k131 mc ml v1 v2 = some q) {ls : Array Slot} (hl : lv_has ls 4 [(0, .ref (ad 0)), (1, .int v1), (2, .int v2)]) {H : Heap} {locs : List Loc} (hP : va_P D vwCl (GM cy ad mt mc mb mo ms mk my mu ma me mr mp mg mw mf ml mq) H) (hS : va_S (Ac ad 71) s.heap H locs) : W p l e ({ frames := 4, cells := 0, slots := 0, locals := 94 } : Room) s m args below meth c H locs 0 0 (MQ below (QR none D (GM cy ad mt q.1 mb mo ms mk my mu ma me mr mp mg mw mf q.2 mq) (Ac ad 71)) args s 0 0 (Ac ad 71)) (F0 m 179 ls []) := by
  obtain ⟨hx, hb, hml, hown, hts, hr, hlk⟩ := id C
  unfold X12_constants_179 at h
  refine lv_iconst (v := (1 : Int32)) hx hb dX12_constants_179 (by decide) ?_
  refine lv_goto (tgt := 184) hx hb dX12_constants_180 (by decide) ?_
  exact bX12_constants_184 C hI hK hN @hk131 h (lv_sub hl [0, 1, 2] rfl) hP hS
def X12_constants_173 (mb : Tmb) (k131 : Tmc → Tml → Int32 → Option (Tmc × Tml)) (mc : Tmc) (ml : Tml) (v1 : Int32) (v2 : Int32) : Option (Tmc × Tml) := (if v2 = (9 : Int32) then X12_constants_179 mb k131 mc ml v1 v2 else X12_constants_184 mb k131 mc ml v1 v2 (0 : Int32))
set_option maxRecDepth 20000 in
theorem bX12_constants_173 (C : Cx p s m args meth c cX12_constants 4 none RX12 (.code yX12_constants cX12_constants 4 none)) (hI : Apart ad 71) (hK : va_K D vwCl (tysX cy) s) (hN : NW s) {k131 : Tmc → Tml → Int32 → Option (Tmc × Tml)} {q : Tmc × Tml} (hk131 : ∀ {mc : Tmc} {ml : Tml} {v2 : Int32}, k131 mc ml v2 = some q → ∀ {ls : Array Slot}, lv_has ls 4 [(0, .ref (ad 0)), (2, .int v2)] → ∀ {H : Heap} {locs : List Loc}, va_P D vwCl (GM cy ad mt mc mb mo ms mk my mu ma me mr mp mg mw mf ml mq) H → va_S (Ac ad 71) s.heap H locs → W p l e ({ frames := 4, cells := 0, slots := 0, locals := 94 } : Room) s m args below meth c H locs 0 0 (MQ below (QR none D (GM cy ad mt q.1 mb mo ms mk my mu ma me mr mp mg mw mf q.2 mq) (Ac ad 71)) args s 0 0 (Ac ad 71)) (F0 m 131 ls [])) {v1 : Int32} {v2 : Int32} (h : X12_constants_173 mb k131 mc ml v1 v2 = some q) {ls : Array Slot} (hl : lv_has ls 4 [(0, .ref (ad 0)), (1, .int v1), (2, .int v2)]) {H : Heap} {locs : List Loc} (hP : va_P D vwCl (GM cy ad mt mc mb mo ms mk my mu ma me mr mp mg mw mf ml mq) H) (hS : va_S (Ac ad 71) s.heap H locs) : W p l e ({ frames := 4, cells := 0, slots := 0, locals := 94 } : Room) s m args below meth c H locs 0 0 (MQ below (QR none D (GM cy ad mt q.1 mb mo ms mk my mu ma me mr mp mg mw mf q.2 mq) (Ac ad 71)) args s 0 0 (Ac ad 71)) (F0 m 173 ls []) := by
  obtain ⟨hx, hb, hml, hown, hts, hr, hlk⟩ := id C
  unfold X12_constants_173 at h
  refine lv_iload_n hx hb dX12_constants_173 rfl (lv_at hl 2 rfl) ?_
  refine lv_bipush (v := (9 : Int32)) hx hb dX12_constants_174 (by decide) ?_
  refine lv_icmp_ne (tgt := 183) hx hb dX12_constants_176 (by decide) (fun c1 => ?_) (fun c1 => ?_)
  · rw [if_neg c1] at h
    refine lv_iconst (v := (0 : Int32)) hx hb dX12_constants_183 (by decide) ?_
    exact bX12_constants_184 C hI hK hN @hk131 h (lv_sub hl [0, 1, 2] rfl) hP hS
  · rw [if_pos c1] at h
    exact bX12_constants_179 C hI hK hN @hk131 h (lv_sub hl [0, 1, 2] rfl) hP hS
def X12_constants_131b (mb : Tmb)  (k131 : Tmc → Tml → Int32 → Option (Tmc × Tml)) (mc : Tmc) (ml : Tml) (v2 : Int32) : Option (Tmc × Tml) := (if v2 < ml.2.2.2.1 then (if (X12_isRight mc) = 0 then some (mc, ml) else ((X12_number mc mb (1 : Int32)).bind fun q3 => (if inb v2 20 = true then (if v2 < (2 : Int32) then X12_constants_173 mb k131 q3.2 (ml.1, ml.2.1, ml.2.2.1, ml.2.2.2.1, (upd ml.2.2.2.2.1 (v2).toNatClampNeg ((q3.1).toInt32)), ml.2.2.2.2.2.1, ml.2.2.2.2.2.2.1, ml.2.2.2.2.2.2.2.1, ml.2.2.2.2.2.2.2.2.1, ml.2.2.2.2.2.2.2.2.2) mc.1 v2 else (if (5 : Int32) < v2 then X12_constants_173 mb k131 q3.2 (ml.1, ml.2.1, ml.2.2.1, ml.2.2.2.1, (upd ml.2.2.2.2.1 (v2).toNatClampNeg ((q3.1).toInt32)), ml.2.2.2.2.2.1, ml.2.2.2.2.2.2.1, ml.2.2.2.2.2.2.2.1, ml.2.2.2.2.2.2.2.2.1, ml.2.2.2.2.2.2.2.2.2) mc.1 v2 else X12_constants_179 mb k131 q3.2 (ml.1, ml.2.1, ml.2.2.1, ml.2.2.2.1, (upd ml.2.2.2.2.1 (v2).toNatClampNeg ((q3.1).toInt32)), ml.2.2.2.2.2.1, ml.2.2.2.2.2.2.1, ml.2.2.2.2.2.2.2.1, ml.2.2.2.2.2.2.2.2.1, ml.2.2.2.2.2.2.2.2.2) mc.1 v2)) else none))) else some (mc, ml))
def X12_constants_131 (mb : Tmb)  (n : Nat) (st : Tmc × Tml × Int32) : Option (Tmc × Tml) := lp (fun rec st => X12_constants_131b mb  (fun a0 a1 a2 => rec (a0, a1, a2)) st.1 st.2.1 st.2.2) n st
set_option maxRecDepth 20000 in
theorem bX12_constants_131 (C : Cx p s m args meth c cX12_constants 4 none RX12 (.code yX12_constants cX12_constants 4 none)) (hI : Apart ad 71) (hK : va_K D vwCl (tysX cy) s) (hN : NW s)  {q : Tmc × Tml}  : ∀ (n : Nat) {mc : Tmc} {ml : Tml} {v2 : Int32}, X12_constants_131 mb  n (mc, ml, v2) = some q → ∀ {ls : Array Slot}, lv_has ls 4 [(0, .ref (ad 0)), (2, .int v2)] → ∀ {H : Heap} {locs : List Loc}, va_P D vwCl (GM cy ad mt mc mb mo ms mk my mu ma me mr mp mg mw mf ml mq) H → va_S (Ac ad 71) s.heap H locs → W p l e ({ frames := 4, cells := 0, slots := 0, locals := 94 } : Room) s m args below meth c H locs 0 0 (MQ below (QR none D (GM cy ad mt q.1 mb mo ms mk my mu ma me mr mp mg mw mf q.2 mq) (Ac ad 71)) args s 0 0 (Ac ad 71)) (F0 m 131 ls []) := by
  obtain ⟨hx, hb, hml, hown, hts, hr, hlk⟩ := id C
  intro n
  induction n with
  | zero =>
    intro mc ml v2 h ls hl H locs hP hS
    have h : (none : Option (Tmc × Tml)) = some q := h
    cases h
  | succ n ih =>
    intro mc ml v2 h ls hl H locs hP hS
    have h : X12_constants_131b mb  (fun a0 a1 a2 => X12_constants_131 mb  n (a0, a1, a2)) mc ml v2 = some q := h
    unfold X12_constants_131b at h
    refine lv_iload_n hx hb dX12_constants_131 rfl (lv_at hl 1 rfl) ?_
    refine lv_aload_n hx hb dX12_constants_132 rfl (lv_at hl 0 rfl) ?_
    refine gM0_82 (v := ml.2.2.2.1) C hK hP rfl w1449 dX12_constants_133 ?_
    refine b_icmp_ge (tgt := 220) hx hb dX12_constants_136 (by decide) (fun c1 => ?_) (fun c1 => ?_)
    · rw [if_neg c1] at h
      obtain rfl := Option.some.inj h
      exact W.vret hx hb hr (fun t ht _ => ⟨rfl, by rw [ht]; exact hP, hS.F ht⟩) hS.2.2 dX12_constants_220 hlk
    · rw [if_pos c1] at h
      refine lv_aload_n hx hb dX12_constants_139 rfl (lv_at hl 0 rfl) ?_
      refine cPi (run_V (rest := []) C (kX12_isRight rfl) caX12_isRight w1682 ⟨rfl, rfl, Nat.le_of_ble_eq_true rfl, Nat.le_of_ble_eq_true rfl⟩ hK hN hP (rM0 hK hP) rfl hl.1 rfl (Nat.le_of_ble_eq_true rfl) dX12_constants_140 ⟨Nat.zero_le _, Nat.zero_le _⟩) ?_
      refine lv_if_eq (tgt := 220) hx hb dX12_constants_143 (by decide) (fun c2 => ?_) (fun c2 => ?_)
      · rw [if_pos c2] at h
        obtain rfl := Option.some.inj h
        exact W.vret hx hb hr (fun t ht _ => ⟨rfl, by rw [ht]; exact hP, hS.F ht⟩) hS.2.2 dX12_constants_220 hlk
      · rw [if_neg c2] at h
        refine lv_aload_n hx hb dX12_constants_146 rfl (lv_at hl 0 rfl) ?_
        refine gM0_77 (v := mc.1) C hK hP rfl w1444 dX12_constants_147 ?_
        refine lv_istore_n (lv' := [(1, .int mc.1), (0, .ref (ad 0)), (2, .int v2)]) hx hb dX12_constants_150 rfl hl (by decide) rfl (fun ls hl => ?_)
        refine lv_aload_n hx hb dX12_constants_151 rfl (lv_at hl 1 rfl) ?_
        refine gM0_83 C hK hP w1450 dX12_constants_152 ?_
        refine lv_iload_n hx hb dX12_constants_155 rfl (lv_at hl 2 rfl) ?_
        refine lv_aload_n hx hb dX12_constants_156 rfl (lv_at hl 1 rfl) ?_
        refine lv_iconst (v := (1 : Int32)) hx hb dX12_constants_157 (by decide) ?_
        obtain ⟨q3, h4, h⟩ := bnd h
        refine cRl (run_V (rest := [.int v2, .ref (ad 67)]) C (kX12_number hI h4) caX12_number w1724 ⟨rfl, rfl, Nat.le_of_ble_eq_true rfl, Nat.le_of_ble_eq_true rfl⟩ hK hN hP (rM0 hK hP) rfl hl.1 rfl (Nat.le_of_ble_eq_true rfl) dX12_constants_158 ⟨Nat.zero_le _, Nat.zero_le _⟩) hS (fun H locs hP hS => ?_)
        have hP : va_P D vwCl (GM cy ad mt q3.2 mb mo ms mk my mu ma me mr mp mg mw mf ml mq) H := hP
        refine lv_l2i (v := ((q3.1).toInt32)) hx hb dX12_constants_161 rfl ?_
        obtain ⟨n5, h⟩ := grd h
        refine sM67 (f := ml.2.2.2.2.1) C hI hK hP hS rfl n5 dX12_constants_162 (fun H locs hP hS => ?_)
        have hP : va_P D vwCl (GM cy ad mt q3.2 mb mo ms mk my mu ma me mr mp mg mw mf (ml.1, ml.2.1, ml.2.2.1, ml.2.2.2.1, (upd ml.2.2.2.2.1 (v2).toNatClampNeg ((q3.1).toInt32)), ml.2.2.2.2.2.1, ml.2.2.2.2.2.2.1, ml.2.2.2.2.2.2.2.1, ml.2.2.2.2.2.2.2.2.1, ml.2.2.2.2.2.2.2.2.2) mq) H := hP
        refine lv_iload_n hx hb dX12_constants_163 rfl (lv_at hl 2 rfl) ?_
        refine lv_iconst (v := (2 : Int32)) hx hb dX12_constants_164 (by decide) ?_
        refine lv_icmp_lt (tgt := 173) hx hb dX12_constants_165 (by decide) (fun c6 => ?_) (fun c6 => ?_)
        · rw [if_pos c6] at h
          exact bX12_constants_173 C hI hK hN @ih h (lv_sub hl [1, 0, 2] rfl) hP hS
        · rw [if_neg c6] at h
          refine lv_iload_n hx hb dX12_constants_168 rfl (lv_at hl 2 rfl) ?_
          refine lv_iconst (v := (5 : Int32)) hx hb dX12_constants_169 (by decide) ?_
          refine b_icmp_le (tgt := 179) hx hb dX12_constants_170 (by decide) (fun c7 => ?_) (fun c7 => ?_)
          · rw [if_neg c7] at h
            exact bX12_constants_179 C hI hK hN @ih h (lv_sub hl [1, 0, 2] rfl) hP hS
          · rw [if_pos c7] at h
            exact bX12_constants_173 C hI hK hN @ih h (lv_sub hl [1, 0, 2] rfl) hP hS
def X12_constants_129 (mb : Tmb)  (mc : Tmc) (ml : Tml)  : Option (Tmc × Tml) := X12_constants_131 mb FU (mc, ml, (1 : Int32))
set_option maxRecDepth 20000 in
theorem bX12_constants_129 (C : Cx p s m args meth c cX12_constants 4 none RX12 (.code yX12_constants cX12_constants 4 none)) (hI : Apart ad 71) (hK : va_K D vwCl (tysX cy) s) (hN : NW s)  {q : Tmc × Tml}   (h : X12_constants_129 mb mc ml = some q) {ls : Array Slot} (hl : lv_has ls 4 [(0, .ref (ad 0))]) {H : Heap} {locs : List Loc} (hP : va_P D vwCl (GM cy ad mt mc mb mo ms mk my mu ma me mr mp mg mw mf ml mq) H) (hS : va_S (Ac ad 71) s.heap H locs) : W p l e ({ frames := 4, cells := 0, slots := 0, locals := 94 } : Room) s m args below meth c H locs 0 0 (MQ below (QR none D (GM cy ad mt q.1 mb mo ms mk my mu ma me mr mp mg mw mf q.2 mq) (Ac ad 71)) args s 0 0 (Ac ad 71)) (F0 m 129 ls []) := by
  obtain ⟨hx, hb, hml, hown, hts, hr, hlk⟩ := id C
  unfold X12_constants_129 at h
  refine lv_iconst (v := (1 : Int32)) hx hb dX12_constants_129 (by decide) ?_
  refine lv_istore_n (lv' := [(2, .int (1 : Int32)), (0, .ref (ad 0))]) hx hb dX12_constants_130 rfl hl (by decide) rfl (fun ls hl => ?_)
  exact bX12_constants_131 C hI hK hN FU h (lv_sub hl [1, 0] rfl) hP hS
def X12_constants_123 (mb : Tmb)  (mc : Tmc) (ml : Tml) (v1 : Int32) : Option (Tmc × Tml) := (letq (X12_fail mc (2 : Int32) v1) fun q1 => X12_constants_129 mb q1 ml)
set_option maxRecDepth 20000 in
theorem bX12_constants_123 (C : Cx p s m args meth c cX12_constants 4 none RX12 (.code yX12_constants cX12_constants 4 none)) (hI : Apart ad 71) (hK : va_K D vwCl (tysX cy) s) (hN : NW s)  {q : Tmc × Tml}  {v1 : Int32} (h : X12_constants_123 mb mc ml v1 = some q) {ls : Array Slot} (hl : lv_has ls 4 [(0, .ref (ad 0)), (1, .int v1)]) {H : Heap} {locs : List Loc} (hP : va_P D vwCl (GM cy ad mt mc mb mo ms mk my mu ma me mr mp mg mw mf ml mq) H) (hS : va_S (Ac ad 71) s.heap H locs) : W p l e ({ frames := 4, cells := 0, slots := 0, locals := 94 } : Room) s m args below meth c H locs 0 0 (MQ below (QR none D (GM cy ad mt q.1 mb mo ms mk my mu ma me mr mp mg mw mf q.2 mq) (Ac ad 71)) args s 0 0 (Ac ad 71)) (F0 m 123 ls []) := by
  obtain ⟨hx, hb, hml, hown, hts, hr, hlk⟩ := id C
  unfold X12_constants_123 at h
  refine lv_aload_n hx hb dX12_constants_123 rfl (lv_at hl 0 rfl) ?_
  refine lv_iconst (v := (2 : Int32)) hx hb dX12_constants_124 (by decide) ?_
  refine lv_iload_n hx hb dX12_constants_125 rfl (lv_at hl 1 rfl) ?_
  obtain ⟨q1, h2, h⟩ := lets h
  refine cRv (run_V (rest := []) C (kX12_fail hI h2) caX12_fail w1678 ⟨rfl, rfl, Nat.le_of_ble_eq_true rfl, Nat.le_of_ble_eq_true rfl⟩ hK hN hP (rM0 hK hP) rfl hl.1 rfl (Nat.le_of_ble_eq_true rfl) dX12_constants_126 ⟨Nat.zero_le _, Nat.zero_le _⟩) hS (fun H locs hP hS => ?_)
  have hP : va_P D vwCl (GM cy ad mt q1 mb mo ms mk my mu ma me mr mp mg mw mf ml mq) H := hP
  exact bX12_constants_129 C hI hK hN h (lv_sub hl [0] rfl) hP hS
def X12_constants_83 (mb : Tmb)  (mc : Tmc) (ml : Tml)  : Option (Tmc × Tml) := ((X12_number mc mb (1 : Int32)).bind fun q1 => (if (X12_isRight q1.2) = 0 then X12_constants_129 mb q1.2 (ml.1, ml.2.1, ml.2.2.1, ((q1.1).toInt32), ml.2.2.2.2.1, ml.2.2.2.2.2.1, ml.2.2.2.2.2.2.1, ml.2.2.2.2.2.2.2.1, ml.2.2.2.2.2.2.2.2.1, ml.2.2.2.2.2.2.2.2.2) else (if ((q1.1).toInt32) < (10 : Int32) then X12_constants_123 mb q1.2 (ml.1, ml.2.1, ml.2.2.1, ((q1.1).toInt32), ml.2.2.2.2.1, ml.2.2.2.2.2.1, ml.2.2.2.2.2.2.1, ml.2.2.2.2.2.2.2.1, ml.2.2.2.2.2.2.2.2.1, ml.2.2.2.2.2.2.2.2.2) mc.1 else (if (20 : Int32) < ((q1.1).toInt32) then X12_constants_123 mb q1.2 (ml.1, ml.2.1, ml.2.2.1, ((q1.1).toInt32), ml.2.2.2.2.1, ml.2.2.2.2.2.1, ml.2.2.2.2.2.2.1, ml.2.2.2.2.2.2.2.1, ml.2.2.2.2.2.2.2.2.1, ml.2.2.2.2.2.2.2.2.2) mc.1 else X12_constants_129 mb q1.2 (ml.1, ml.2.1, ml.2.2.1, ((q1.1).toInt32), ml.2.2.2.2.1, ml.2.2.2.2.2.1, ml.2.2.2.2.2.2.1, ml.2.2.2.2.2.2.2.1, ml.2.2.2.2.2.2.2.2.1, ml.2.2.2.2.2.2.2.2.2)))))
set_option maxRecDepth 20000 in
theorem bX12_constants_83 (C : Cx p s m args meth c cX12_constants 4 none RX12 (.code yX12_constants cX12_constants 4 none)) (hI : Apart ad 71) (hK : va_K D vwCl (tysX cy) s) (hN : NW s)  {q : Tmc × Tml}   (h : X12_constants_83 mb mc ml = some q) {ls : Array Slot} (hl : lv_has ls 4 [(0, .ref (ad 0))]) {H : Heap} {locs : List Loc} (hP : va_P D vwCl (GM cy ad mt mc mb mo ms mk my mu ma me mr mp mg mw mf ml mq) H) (hS : va_S (Ac ad 71) s.heap H locs) : W p l e ({ frames := 4, cells := 0, slots := 0, locals := 94 } : Room) s m args below meth c H locs 0 0 (MQ below (QR none D (GM cy ad mt q.1 mb mo ms mk my mu ma me mr mp mg mw mf q.2 mq) (Ac ad 71)) args s 0 0 (Ac ad 71)) (F0 m 83 ls []) := by
  obtain ⟨hx, hb, hml, hown, hts, hr, hlk⟩ := id C
  unfold X12_constants_83 at h
  refine lv_aload_n hx hb dX12_constants_83 rfl (lv_at hl 0 rfl) ?_
  refine gM0_77 (v := mc.1) C hK hP rfl w1444 dX12_constants_84 ?_
  refine lv_istore_n (lv' := [(1, .int mc.1), (0, .ref (ad 0))]) hx hb dX12_constants_87 rfl hl (by decide) rfl (fun ls hl => ?_)
  refine lv_aload_n hx hb dX12_constants_88 rfl (lv_at hl 1 rfl) ?_
  refine lv_aload_n hx hb dX12_constants_89 rfl (lv_at hl 1 rfl) ?_
  refine lv_iconst (v := (1 : Int32)) hx hb dX12_constants_90 (by decide) ?_
  obtain ⟨q1, h2, h⟩ := bnd h
  refine cRl (run_V (rest := [.ref (ad 0)]) C (kX12_number hI h2) caX12_number w1724 ⟨rfl, rfl, Nat.le_of_ble_eq_true rfl, Nat.le_of_ble_eq_true rfl⟩ hK hN hP (rM0 hK hP) rfl hl.1 rfl (Nat.le_of_ble_eq_true rfl) dX12_constants_91 ⟨Nat.zero_le _, Nat.zero_le _⟩) hS (fun H locs hP hS => ?_)
  have hP : va_P D vwCl (GM cy ad mt q1.2 mb mo ms mk my mu ma me mr mp mg mw mf ml mq) H := hP
  refine lv_l2i (v := ((q1.1).toInt32)) hx hb dX12_constants_94 rfl ?_
  refine pM0_82 (v := ((q1.1).toInt32)) C hI hK hP hS w1449 dX12_constants_95 (fun H locs hP hS => ?_)
  have hP : va_P D vwCl (GM cy ad mt q1.2 mb mo ms mk my mu ma me mr mp mg mw mf (ml.1, ml.2.1, ml.2.2.1, ((q1.1).toInt32), ml.2.2.2.2.1, ml.2.2.2.2.2.1, ml.2.2.2.2.2.2.1, ml.2.2.2.2.2.2.2.1, ml.2.2.2.2.2.2.2.2.1, ml.2.2.2.2.2.2.2.2.2) mq) H := hP
  refine lv_aload_n hx hb dX12_constants_98 rfl (lv_at hl 1 rfl) ?_
  refine cPi (run_V (rest := []) C (kX12_isRight rfl) caX12_isRight w1682 ⟨rfl, rfl, Nat.le_of_ble_eq_true rfl, Nat.le_of_ble_eq_true rfl⟩ hK hN hP (rM0 hK hP) rfl hl.1 rfl (Nat.le_of_ble_eq_true rfl) dX12_constants_99 ⟨Nat.zero_le _, Nat.zero_le _⟩) ?_
  refine lv_if_eq (tgt := 129) hx hb dX12_constants_102 (by decide) (fun c3 => ?_) (fun c3 => ?_)
  · rw [if_pos c3] at h
    exact bX12_constants_129 C hI hK hN h (lv_sub hl [1] rfl) hP hS
  · rw [if_neg c3] at h
    refine lv_aload_n hx hb dX12_constants_105 rfl (lv_at hl 1 rfl) ?_
    refine gM0_82 (v := ((q1.1).toInt32)) C hK hP rfl w1449 dX12_constants_106 ?_
    refine lv_bipush (v := (10 : Int32)) hx hb dX12_constants_109 (by decide) ?_
    refine lv_icmp_lt (tgt := 123) hx hb dX12_constants_111 (by decide) (fun c4 => ?_) (fun c4 => ?_)
    · rw [if_pos c4] at h
      exact bX12_constants_123 C hI hK hN h (lv_sub hl [1, 0] rfl) hP hS
    · rw [if_neg c4] at h
      refine lv_aload_n hx hb dX12_constants_114 rfl (lv_at hl 1 rfl) ?_
      refine gM0_82 (v := ((q1.1).toInt32)) C hK hP rfl w1449 dX12_constants_115 ?_
      refine lv_bipush (v := (20 : Int32)) hx hb dX12_constants_118 (by decide) ?_
      refine b_icmp_le (tgt := 129) hx hb dX12_constants_120 (by decide) (fun c5 => ?_) (fun c5 => ?_)
      · rw [if_neg c5] at h
        exact bX12_constants_129 C hI hK hN h (lv_sub hl [1] rfl) hP hS
      · rw [if_pos c5] at h
        exact bX12_constants_123 C hI hK hN h (lv_sub hl [1, 0] rfl) hP hS
def X12_constants_37 (mb : Tmb)  (mc : Tmc) (ml : Tml)  : Option (Tmc × Tml) := ((X12_number mc mb (1 : Int32)).bind fun q1 => ((X12_number q1.2 mb (1 : Int32)).bind fun q3 => (if (X12_isRight q3.2) = 0 then X12_constants_83 mb q3.2 (ml.1, ((((q1.1).toInt32)).toInt8.toInt32), ((q3.1).toInt32), ml.2.2.2.1, ml.2.2.2.2.1, ml.2.2.2.2.2.1, ml.2.2.2.2.2.2.1, ml.2.2.2.2.2.2.2.1, ml.2.2.2.2.2.2.2.2.1, ml.2.2.2.2.2.2.2.2.2) else (if ((q3.1).toInt32) = 0 then (letq (X12_fail q3.2 (2 : Int32) q1.2.1) fun q7 => X12_constants_83 mb q7 (ml.1, ((((q1.1).toInt32)).toInt8.toInt32), ((q3.1).toInt32), ml.2.2.2.1, ml.2.2.2.2.1, ml.2.2.2.2.2.1, ml.2.2.2.2.2.2.1, ml.2.2.2.2.2.2.2.1, ml.2.2.2.2.2.2.2.2.1, ml.2.2.2.2.2.2.2.2.2)) else X12_constants_83 mb q3.2 (ml.1, ((((q1.1).toInt32)).toInt8.toInt32), ((q3.1).toInt32), ml.2.2.2.1, ml.2.2.2.2.1, ml.2.2.2.2.2.1, ml.2.2.2.2.2.2.1, ml.2.2.2.2.2.2.2.1, ml.2.2.2.2.2.2.2.2.1, ml.2.2.2.2.2.2.2.2.2)))))
set_option maxRecDepth 20000 in
theorem bX12_constants_37 (C : Cx p s m args meth c cX12_constants 4 none RX12 (.code yX12_constants cX12_constants 4 none)) (hI : Apart ad 71) (hK : va_K D vwCl (tysX cy) s) (hN : NW s)  {q : Tmc × Tml}   (h : X12_constants_37 mb mc ml = some q) {ls : Array Slot} (hl : lv_has ls 4 [(0, .ref (ad 0))]) {H : Heap} {locs : List Loc} (hP : va_P D vwCl (GM cy ad mt mc mb mo ms mk my mu ma me mr mp mg mw mf ml mq) H) (hS : va_S (Ac ad 71) s.heap H locs) : W p l e ({ frames := 4, cells := 0, slots := 0, locals := 94 } : Room) s m args below meth c H locs 0 0 (MQ below (QR none D (GM cy ad mt q.1 mb mo ms mk my mu ma me mr mp mg mw mf q.2 mq) (Ac ad 71)) args s 0 0 (Ac ad 71)) (F0 m 37 ls []) := by
  obtain ⟨hx, hb, hml, hown, hts, hr, hlk⟩ := id C
  unfold X12_constants_37 at h
  refine lv_aload_n hx hb dX12_constants_37 rfl (lv_at hl 0 rfl) ?_
  refine lv_aload_n hx hb dX12_constants_38 rfl (lv_at hl 0 rfl) ?_
  refine lv_iconst (v := (1 : Int32)) hx hb dX12_constants_39 (by decide) ?_
  obtain ⟨q1, h2, h⟩ := bnd h
  refine cRl (run_V (rest := [.ref (ad 0)]) C (kX12_number hI h2) caX12_number w1724 ⟨rfl, rfl, Nat.le_of_ble_eq_true rfl, Nat.le_of_ble_eq_true rfl⟩ hK hN hP (rM0 hK hP) rfl hl.1 rfl (Nat.le_of_ble_eq_true rfl) dX12_constants_40 ⟨Nat.zero_le _, Nat.zero_le _⟩) hS (fun H locs hP hS => ?_)
  have hP : va_P D vwCl (GM cy ad mt q1.2 mb mo ms mk my mu ma me mr mp mg mw mf ml mq) H := hP
  refine lv_l2i (v := ((q1.1).toInt32)) hx hb dX12_constants_43 rfl ?_
  refine lv_i2b (v := ((((q1.1).toInt32)).toInt8.toInt32)) hx hb dX12_constants_44 rfl ?_
  refine pM0_80 (v := ((((q1.1).toInt32)).toInt8.toInt32)) C hI hK hP hS w1447 dX12_constants_45 (fun H locs hP hS => ?_)
  have hP : va_P D vwCl (GM cy ad mt q1.2 mb mo ms mk my mu ma me mr mp mg mw mf (ml.1, ((((q1.1).toInt32)).toInt8.toInt32), ml.2.2.1, ml.2.2.2.1, ml.2.2.2.2.1, ml.2.2.2.2.2.1, ml.2.2.2.2.2.2.1, ml.2.2.2.2.2.2.2.1, ml.2.2.2.2.2.2.2.2.1, ml.2.2.2.2.2.2.2.2.2) mq) H := hP
  refine lv_aload_n hx hb dX12_constants_48 rfl (lv_at hl 0 rfl) ?_
  refine gM0_77 (v := q1.2.1) C hK hP rfl w1444 dX12_constants_49 ?_
  refine lv_istore_n (lv' := [(1, .int q1.2.1), (0, .ref (ad 0))]) hx hb dX12_constants_52 rfl hl (by decide) rfl (fun ls hl => ?_)
  refine lv_aload_n hx hb dX12_constants_53 rfl (lv_at hl 1 rfl) ?_
  refine lv_aload_n hx hb dX12_constants_54 rfl (lv_at hl 1 rfl) ?_
  refine lv_iconst (v := (1 : Int32)) hx hb dX12_constants_55 (by decide) ?_
  obtain ⟨q3, h4, h⟩ := bnd h
  refine cRl (run_V (rest := [.ref (ad 0)]) C (kX12_number hI h4) caX12_number w1724 ⟨rfl, rfl, Nat.le_of_ble_eq_true rfl, Nat.le_of_ble_eq_true rfl⟩ hK hN hP (rM0 hK hP) rfl hl.1 rfl (Nat.le_of_ble_eq_true rfl) dX12_constants_56 ⟨Nat.zero_le _, Nat.zero_le _⟩) hS (fun H locs hP hS => ?_)
  have hP : va_P D vwCl (GM cy ad mt q3.2 mb mo ms mk my mu ma me mr mp mg mw mf (ml.1, ((((q1.1).toInt32)).toInt8.toInt32), ml.2.2.1, ml.2.2.2.1, ml.2.2.2.2.1, ml.2.2.2.2.2.1, ml.2.2.2.2.2.2.1, ml.2.2.2.2.2.2.2.1, ml.2.2.2.2.2.2.2.2.1, ml.2.2.2.2.2.2.2.2.2) mq) H := hP
  refine lv_l2i (v := ((q3.1).toInt32)) hx hb dX12_constants_59 rfl ?_
  refine pM0_81 (v := ((q3.1).toInt32)) C hI hK hP hS w1448 dX12_constants_60 (fun H locs hP hS => ?_)
  have hP : va_P D vwCl (GM cy ad mt q3.2 mb mo ms mk my mu ma me mr mp mg mw mf (ml.1, ((((q1.1).toInt32)).toInt8.toInt32), ((q3.1).toInt32), ml.2.2.2.1, ml.2.2.2.2.1, ml.2.2.2.2.2.1, ml.2.2.2.2.2.2.1, ml.2.2.2.2.2.2.2.1, ml.2.2.2.2.2.2.2.2.1, ml.2.2.2.2.2.2.2.2.2) mq) H := hP
  refine lv_aload_n hx hb dX12_constants_63 rfl (lv_at hl 1 rfl) ?_
  refine cPi (run_V (rest := []) C (kX12_isRight rfl) caX12_isRight w1682 ⟨rfl, rfl, Nat.le_of_ble_eq_true rfl, Nat.le_of_ble_eq_true rfl⟩ hK hN hP (rM0 hK hP) rfl hl.1 rfl (Nat.le_of_ble_eq_true rfl) dX12_constants_64 ⟨Nat.zero_le _, Nat.zero_le _⟩) ?_
  refine lv_if_eq (tgt := 83) hx hb dX12_constants_67 (by decide) (fun c5 => ?_) (fun c5 => ?_)
  · rw [if_pos c5] at h
    exact bX12_constants_83 C hI hK hN h (lv_sub hl [1] rfl) hP hS
  · rw [if_neg c5] at h
    refine lv_aload_n hx hb dX12_constants_70 rfl (lv_at hl 1 rfl) ?_
    refine gM0_81 (v := ((q3.1).toInt32)) C hK hP rfl w1448 dX12_constants_71 ?_
    refine lv_if_ne (tgt := 83) hx hb dX12_constants_74 (by decide) (fun c6 => ?_) (fun c6 => ?_)
    · rw [if_neg c6] at h
      exact bX12_constants_83 C hI hK hN h (lv_sub hl [1] rfl) hP hS
    · rw [if_pos c6] at h
      refine lv_aload_n hx hb dX12_constants_77 rfl (lv_at hl 1 rfl) ?_
      refine lv_iconst (v := (2 : Int32)) hx hb dX12_constants_78 (by decide) ?_
      refine lv_iload_n hx hb dX12_constants_79 rfl (lv_at hl 0 rfl) ?_
      obtain ⟨q7, h8, h⟩ := lets h
      refine cRv (run_V (rest := []) C (kX12_fail hI h8) caX12_fail w1678 ⟨rfl, rfl, Nat.le_of_ble_eq_true rfl, Nat.le_of_ble_eq_true rfl⟩ hK hN hP (rM0 hK hP) rfl hl.1 rfl (Nat.le_of_ble_eq_true rfl) dX12_constants_80 ⟨Nat.zero_le _, Nat.zero_le _⟩) hS (fun H locs hP hS => ?_)
      have hP : va_P D vwCl (GM cy ad mt q7 mb mo ms mk my mu ma me mr mp mg mw mf (ml.1, ((((q1.1).toInt32)).toInt8.toInt32), ((q3.1).toInt32), ml.2.2.2.1, ml.2.2.2.2.1, ml.2.2.2.2.2.1, ml.2.2.2.2.2.2.1, ml.2.2.2.2.2.2.2.1, ml.2.2.2.2.2.2.2.2.1, ml.2.2.2.2.2.2.2.2.2) mq) H := hP
      exact bX12_constants_83 C hI hK hN h (lv_sub hl [1] rfl) hP hS
def X12_constants (mc : Tmc) (mb : Tmb) (ml : Tml)  : Option (Tmc × Tml) := ((X12_number mc mb (1 : Int32)).bind fun q1 => ((X12_must q1.2 mb (1 : Int32) (1 : Int32)).bind fun q3 => ((X12_number q3 mb (1 : Int32)).bind fun q5 => (if (1 : Int64) < q5.1 then (letq (X12_fail q5.2 (2 : Int32) q3.1) fun q8 => X12_constants_37 mb q8 (((q1.1).toInt32), ml.2.1, ml.2.2.1, ml.2.2.2.1, ml.2.2.2.2.1, ml.2.2.2.2.2.1, ml.2.2.2.2.2.2.1, ml.2.2.2.2.2.2.2.1, ml.2.2.2.2.2.2.2.2.1, ml.2.2.2.2.2.2.2.2.2)) else X12_constants_37 mb q5.2 (((q1.1).toInt32), ml.2.1, ml.2.2.1, ml.2.2.2.1, ml.2.2.2.2.1, ml.2.2.2.2.2.1, ml.2.2.2.2.2.2.1, ml.2.2.2.2.2.2.2.1, ml.2.2.2.2.2.2.2.2.1, ml.2.2.2.2.2.2.2.2.2)))))
set_option maxRecDepth 20000 in
theorem bX12_constants_0 (C : Cx p s m args meth c cX12_constants 4 none RX12 (.code yX12_constants cX12_constants 4 none)) (hI : Apart ad 71) (hK : va_K D vwCl (tysX cy) s) (hN : NW s)  {q : Tmc × Tml}   (h : X12_constants mc mb ml = some q) {ls : Array Slot} (hl : lv_has ls 4 [(0, .ref (ad 0))]) {H : Heap} {locs : List Loc} (hP : va_P D vwCl (GM cy ad mt mc mb mo ms mk my mu ma me mr mp mg mw mf ml mq) H) (hS : va_S (Ac ad 71) s.heap H locs) : W p l e ({ frames := 4, cells := 0, slots := 0, locals := 94 } : Room) s m args below meth c H locs 0 0 (MQ below (QR none D (GM cy ad mt q.1 mb mo ms mk my mu ma me mr mp mg mw mf q.2 mq) (Ac ad 71)) args s 0 0 (Ac ad 71)) (F0 m 0 ls []) := by
  obtain ⟨hx, hb, hml, hown, hts, hr, hlk⟩ := id C
  unfold X12_constants at h
  refine lv_aload_n hx hb dX12_constants_0 rfl (lv_at hl 0 rfl) ?_
  refine lv_aload_n hx hb dX12_constants_1 rfl (lv_at hl 0 rfl) ?_
  refine lv_iconst (v := (1 : Int32)) hx hb dX12_constants_2 (by decide) ?_
  obtain ⟨q1, h2, h⟩ := bnd h
  refine cRl (run_V (rest := [.ref (ad 0)]) C (kX12_number hI h2) caX12_number w1724 ⟨rfl, rfl, Nat.le_of_ble_eq_true rfl, Nat.le_of_ble_eq_true rfl⟩ hK hN hP (rM0 hK hP) rfl hl.1 rfl (Nat.le_of_ble_eq_true rfl) dX12_constants_3 ⟨Nat.zero_le _, Nat.zero_le _⟩) hS (fun H locs hP hS => ?_)
  have hP : va_P D vwCl (GM cy ad mt q1.2 mb mo ms mk my mu ma me mr mp mg mw mf ml mq) H := hP
  refine lv_l2i (v := ((q1.1).toInt32)) hx hb dX12_constants_6 rfl ?_
  refine pM0_79 (v := ((q1.1).toInt32)) C hI hK hP hS w1446 dX12_constants_7 (fun H locs hP hS => ?_)
  have hP : va_P D vwCl (GM cy ad mt q1.2 mb mo ms mk my mu ma me mr mp mg mw mf (((q1.1).toInt32), ml.2.1, ml.2.2.1, ml.2.2.2.1, ml.2.2.2.2.1, ml.2.2.2.2.2.1, ml.2.2.2.2.2.2.1, ml.2.2.2.2.2.2.2.1, ml.2.2.2.2.2.2.2.2.1, ml.2.2.2.2.2.2.2.2.2) mq) H := hP
  refine lv_aload_n hx hb dX12_constants_10 rfl (lv_at hl 0 rfl) ?_
  refine lv_iconst (v := (1 : Int32)) hx hb dX12_constants_11 (by decide) ?_
  refine lv_iconst (v := (1 : Int32)) hx hb dX12_constants_12 (by decide) ?_
  obtain ⟨q3, h4, h⟩ := bnd h
  refine cRv (run_V (rest := []) C (kX12_must hI h4) caX12_must w1733 ⟨rfl, rfl, Nat.le_of_ble_eq_true rfl, Nat.le_of_ble_eq_true rfl⟩ hK hN hP (rM0 hK hP) rfl hl.1 rfl (Nat.le_of_ble_eq_true rfl) dX12_constants_13 ⟨Nat.zero_le _, Nat.zero_le _⟩) hS (fun H locs hP hS => ?_)
  have hP : va_P D vwCl (GM cy ad mt q3 mb mo ms mk my mu ma me mr mp mg mw mf (((q1.1).toInt32), ml.2.1, ml.2.2.1, ml.2.2.2.1, ml.2.2.2.2.1, ml.2.2.2.2.2.1, ml.2.2.2.2.2.2.1, ml.2.2.2.2.2.2.2.1, ml.2.2.2.2.2.2.2.2.1, ml.2.2.2.2.2.2.2.2.2) mq) H := hP
  refine lv_aload_n hx hb dX12_constants_16 rfl (lv_at hl 0 rfl) ?_
  refine gM0_77 (v := q3.1) C hK hP rfl w1444 dX12_constants_17 ?_
  refine lv_istore_n (lv' := [(1, .int q3.1), (0, .ref (ad 0))]) hx hb dX12_constants_20 rfl hl (by decide) rfl (fun ls hl => ?_)
  refine lv_aload_n hx hb dX12_constants_21 rfl (lv_at hl 1 rfl) ?_
  refine lv_iconst (v := (1 : Int32)) hx hb dX12_constants_22 (by decide) ?_
  obtain ⟨q5, h6, h⟩ := bnd h
  refine cRl (run_V (rest := []) C (kX12_number hI h6) caX12_number w1724 ⟨rfl, rfl, Nat.le_of_ble_eq_true rfl, Nat.le_of_ble_eq_true rfl⟩ hK hN hP (rM0 hK hP) rfl hl.1 rfl (Nat.le_of_ble_eq_true rfl) dX12_constants_23 ⟨Nat.zero_le _, Nat.zero_le _⟩) hS (fun H locs hP hS => ?_)
  have hP : va_P D vwCl (GM cy ad mt q5.2 mb mo ms mk my mu ma me mr mp mg mw mf (((q1.1).toInt32), ml.2.1, ml.2.2.1, ml.2.2.2.1, ml.2.2.2.2.1, ml.2.2.2.2.2.1, ml.2.2.2.2.2.2.1, ml.2.2.2.2.2.2.2.1, ml.2.2.2.2.2.2.2.2.1, ml.2.2.2.2.2.2.2.2.2) mq) H := hP
  refine lv_lconst (v := (1 : Int64)) hx hb dX12_constants_26 (by decide) ?_
  refine lc_le (tgt := 37) hx hb dX12_constants_27 dX12_constants_28 (by decide) (fun c7 => ?_) (fun c7 => ?_)
  · rw [if_neg c7] at h
    exact bX12_constants_37 C hI hK hN h (lv_sub hl [1] rfl) hP hS
  · rw [if_pos c7] at h
    refine lv_aload_n hx hb dX12_constants_31 rfl (lv_at hl 1 rfl) ?_
    refine lv_iconst (v := (2 : Int32)) hx hb dX12_constants_32 (by decide) ?_
    refine lv_iload_n hx hb dX12_constants_33 rfl (lv_at hl 0 rfl) ?_
    obtain ⟨q8, h9, h⟩ := lets h
    refine cRv (run_V (rest := []) C (kX12_fail hI h9) caX12_fail w1678 ⟨rfl, rfl, Nat.le_of_ble_eq_true rfl, Nat.le_of_ble_eq_true rfl⟩ hK hN hP (rM0 hK hP) rfl hl.1 rfl (Nat.le_of_ble_eq_true rfl) dX12_constants_34 ⟨Nat.zero_le _, Nat.zero_le _⟩) hS (fun H locs hP hS => ?_)
    have hP : va_P D vwCl (GM cy ad mt q8 mb mo ms mk my mu ma me mr mp mg mw mf (((q1.1).toInt32), ml.2.1, ml.2.2.1, ml.2.2.2.1, ml.2.2.2.2.1, ml.2.2.2.2.2.1, ml.2.2.2.2.2.2.1, ml.2.2.2.2.2.2.2.1, ml.2.2.2.2.2.2.2.2.1, ml.2.2.2.2.2.2.2.2.2) mq) H := hP
    exact bX12_constants_37 C hI hK hN h (lv_sub hl [1] rfl) hP hS
theorem kX12_constants (hI : Apart ad 71)  {q : Tmc × Tml} (h : X12_constants mc mb ml = some q) : Met l yX12_constants (.code yX12_constants cX12_constants 4 none :: WA) ({ frames := 4, cells := 0, slots := 0, locals := 94 } : Room) (va_Pc [.ref (ad 0)] (PR D cy (GM cy ad mt mc mb mo ms mk my mu ma me mr mp mg mw mf ml mq))) (QR none D (GM cy ad mt q.1 mb mo ms mk my mu ma me mr mp mg mw mf q.2 mq) (Ac ad 71)) 0 0 (Ac ad 71) :=
  met_of (by decide) (Nat.le_of_ble_eq_true rfl) (fun p e s m below meth c ls C hP hK hN hl => bX12_constants_0 C hI hK hN h hl hP va_S.rf)
def X12_directories_24b (mb : Tmb)  (k24 : Tmc → Int64 → Int64 → Option (Int32 × Tmc)) (mc : Tmc) (v1 : Int64) (v3 : Int64) : Option (Int32 × Tmc) := (if (X12_isRight mc) = 0 then some (((v3).toInt32), mc) else (if v3 = v1 then some (((v3).toInt32), mc) else ((X12_string mc mb).bind fun q3 => k24 q3.2 v1 (v3 + (1 : Int64)))))
def X12_directories_24 (mb : Tmb)  (n : Nat) (st : Tmc × Int64 × Int64) : Option (Int32 × Tmc) := lp (fun rec st => X12_directories_24b mb  (fun a0 a1 a2 => rec (a0, a1, a2)) st.1 st.2.1 st.2.2) n st
set_option maxRecDepth 20000 in
theorem bX12_directories_24 (C : Cx p s m args meth c cX12_directories 5 (some .int) RX12 (.code yX12_directories cX12_directories 5 (some .int))) (hI : Apart ad 71) (hK : va_K D vwCl (tysX cy) s) (hN : NW s)  {q : Int32 × Tmc}  : ∀ (n : Nat) {mc : Tmc} {v1 : Int64} {v3 : Int64}, X12_directories_24 mb  n (mc, v1, v3) = some q → ∀ {ls : Array Slot}, lv_has ls 5 [(0, .ref (ad 0)), (1, .long v1), (3, .long v3)] → ∀ {H : Heap} {locs : List Loc}, va_P D vwCl (GM cy ad mt mc mb mo ms mk my mu ma me mr mp mg mw mf ml mq) H → va_S (Ac ad 71) s.heap H locs → W p l e ({ frames := 4, cells := 0, slots := 0, locals := 94 } : Room) s m args below meth c H locs 0 0 (MQ below (QR (some (.int q.1)) D (GM cy ad mt q.2 mb mo ms mk my mu ma me mr mp mg mw mf ml mq) (Ac ad 71)) args s 0 0 (Ac ad 71)) (F0 m 24 ls []) := by
  obtain ⟨hx, hb, hml, hown, hts, hr, hlk⟩ := id C
  intro n
  induction n with
  | zero =>
    intro mc v1 v3 h ls hl H locs hP hS
    have h : (none : Option (Int32 × Tmc)) = some q := h
    cases h
  | succ n ih =>
    intro mc v1 v3 h ls hl H locs hP hS
    have h : X12_directories_24b mb  (fun a0 a1 a2 => X12_directories_24 mb  n (a0, a1, a2)) mc v1 v3 = some q := h
    unfold X12_directories_24b at h
    refine lv_aload_n hx hb dX12_directories_24 rfl (lv_at hl 0 rfl) ?_
    refine cPi (run_V (rest := []) C (kX12_isRight rfl) caX12_isRight w1682 ⟨rfl, rfl, Nat.le_of_ble_eq_true rfl, Nat.le_of_ble_eq_true rfl⟩ hK hN hP (rM0 hK hP) rfl hl.1 rfl (Nat.le_of_ble_eq_true rfl) dX12_directories_25 ⟨Nat.zero_le _, Nat.zero_le _⟩) ?_
    refine lv_if_eq (tgt := 49) hx hb dX12_directories_28 (by decide) (fun c1 => ?_) (fun c1 => ?_)
    · rw [if_pos c1] at h
      refine lv_lload_n hx hb dX12_directories_49 rfl (lv_at hl 2 rfl) ?_
      refine lv_l2i (v := ((v3).toInt32)) hx hb dX12_directories_50 rfl ?_
      obtain rfl := Option.some.inj h
      exact W.iret hx hb hr (fun t ht _ => ⟨rfl, by rw [ht]; exact hP, hS.F ht⟩) hS.2.2 dX12_directories_51 hlk
    · rw [if_neg c1] at h
      refine lv_lload_n hx hb dX12_directories_31 rfl (lv_at hl 2 rfl) ?_
      refine lv_lload_n hx hb dX12_directories_32 rfl (lv_at hl 1 rfl) ?_
      refine lc_eq (tgt := 49) hx hb dX12_directories_33 dX12_directories_34 (by decide) (fun c2 => ?_) (fun c2 => ?_)
      · rw [if_pos c2] at h
        refine lv_lload_n hx hb dX12_directories_49 rfl (lv_at hl 2 rfl) ?_
        refine lv_l2i (v := ((v3).toInt32)) hx hb dX12_directories_50 rfl ?_
        obtain rfl := Option.some.inj h
        exact W.iret hx hb hr (fun t ht _ => ⟨rfl, by rw [ht]; exact hP, hS.F ht⟩) hS.2.2 dX12_directories_51 hlk
      · rw [if_neg c2] at h
        refine lv_aload_n hx hb dX12_directories_37 rfl (lv_at hl 0 rfl) ?_
        obtain ⟨q3, h4, h⟩ := bnd h
        refine cRi (run_V (rest := []) C (kX12_string hI h4) caX12_string w1781 ⟨rfl, rfl, Nat.le_of_ble_eq_true rfl, Nat.le_of_ble_eq_true rfl⟩ hK hN hP (rM0 hK hP) rfl hl.1 rfl (Nat.le_of_ble_eq_true rfl) dX12_directories_38 ⟨Nat.zero_le _, Nat.zero_le _⟩) hS (fun H locs hP hS => ?_)
        have hP : va_P D vwCl (GM cy ad mt q3.2 mb mo ms mk my mu ma me mr mp mg mw mf ml mq) H := hP
        refine lv_pop hx hb dX12_directories_41 rfl ?_
        refine lv_lload_n hx hb dX12_directories_42 rfl (lv_at hl 2 rfl) ?_
        refine lv_lconst (v := (1 : Int64)) hx hb dX12_directories_43 (by decide) ?_
        refine lv_ladd hx hb dX12_directories_44 ?_
        refine lv_lstore_n (lv' := [(3, .long (v3 + (1 : Int64))), (0, .ref (ad 0)), (1, .long v1)]) hx hb dX12_directories_45 rfl hl (by decide) rfl (fun ls hl => ?_)
        refine lv_goto (tgt := 24) hx hb dX12_directories_46 (by decide) ?_
        exact ih h (lv_sub hl [1, 2, 0] rfl) hP hS
def X12_directories (mc : Tmc) (mb : Tmb)  : Option (Int32 × Tmc) := ((X12_must mc mb (1 : Int32) (1 : Int32)).bind fun q1 => ((X12_mustLeb q1 mb (1 : Int32)).bind fun q3 => ((X12_mustLeb q3 mb (8 : Int32)).bind fun q5 => ((X12_uleb q5 mb).bind fun q7 => X12_directories_24 mb FU (q7.2, q7.1, (0 : Int64))))))
set_option maxRecDepth 20000 in
theorem bX12_directories_0 (C : Cx p s m args meth c cX12_directories 5 (some .int) RX12 (.code yX12_directories cX12_directories 5 (some .int))) (hI : Apart ad 71) (hK : va_K D vwCl (tysX cy) s) (hN : NW s)  {q : Int32 × Tmc}   (h : X12_directories mc mb = some q) {ls : Array Slot} (hl : lv_has ls 5 [(0, .ref (ad 0))]) {H : Heap} {locs : List Loc} (hP : va_P D vwCl (GM cy ad mt mc mb mo ms mk my mu ma me mr mp mg mw mf ml mq) H) (hS : va_S (Ac ad 71) s.heap H locs) : W p l e ({ frames := 4, cells := 0, slots := 0, locals := 94 } : Room) s m args below meth c H locs 0 0 (MQ below (QR (some (.int q.1)) D (GM cy ad mt q.2 mb mo ms mk my mu ma me mr mp mg mw mf ml mq) (Ac ad 71)) args s 0 0 (Ac ad 71)) (F0 m 0 ls []) := by
  obtain ⟨hx, hb, hml, hown, hts, hr, hlk⟩ := id C
  unfold X12_directories at h
  refine lv_aload_n hx hb dX12_directories_0 rfl (lv_at hl 0 rfl) ?_
  refine lv_iconst (v := (1 : Int32)) hx hb dX12_directories_1 (by decide) ?_
  refine lv_iconst (v := (1 : Int32)) hx hb dX12_directories_2 (by decide) ?_
  obtain ⟨q1, h2, h⟩ := bnd h
  refine cRv (run_V (rest := []) C (kX12_must hI h2) caX12_must w1733 ⟨rfl, rfl, Nat.le_of_ble_eq_true rfl, Nat.le_of_ble_eq_true rfl⟩ hK hN hP (rM0 hK hP) rfl hl.1 rfl (Nat.le_of_ble_eq_true rfl) dX12_directories_3 ⟨Nat.zero_le _, Nat.zero_le _⟩) hS (fun H locs hP hS => ?_)
  have hP : va_P D vwCl (GM cy ad mt q1 mb mo ms mk my mu ma me mr mp mg mw mf ml mq) H := hP
  refine lv_aload_n hx hb dX12_directories_6 rfl (lv_at hl 0 rfl) ?_
  refine lv_iconst (v := (1 : Int32)) hx hb dX12_directories_7 (by decide) ?_
  obtain ⟨q3, h4, h⟩ := bnd h
  refine cRv (run_V (rest := []) C (kX12_mustLeb hI h4) caX12_mustLeb w1849 ⟨rfl, rfl, Nat.le_of_ble_eq_true rfl, Nat.le_of_ble_eq_true rfl⟩ hK hN hP (rM0 hK hP) rfl hl.1 rfl (Nat.le_of_ble_eq_true rfl) dX12_directories_8 ⟨Nat.zero_le _, Nat.zero_le _⟩) hS (fun H locs hP hS => ?_)
  have hP : va_P D vwCl (GM cy ad mt q3 mb mo ms mk my mu ma me mr mp mg mw mf ml mq) H := hP
  refine lv_aload_n hx hb dX12_directories_11 rfl (lv_at hl 0 rfl) ?_
  refine lv_bipush (v := (8 : Int32)) hx hb dX12_directories_12 (by decide) ?_
  obtain ⟨q5, h6, h⟩ := bnd h
  refine cRv (run_V (rest := []) C (kX12_mustLeb hI h6) caX12_mustLeb w1849 ⟨rfl, rfl, Nat.le_of_ble_eq_true rfl, Nat.le_of_ble_eq_true rfl⟩ hK hN hP (rM0 hK hP) rfl hl.1 rfl (Nat.le_of_ble_eq_true rfl) dX12_directories_14 ⟨Nat.zero_le _, Nat.zero_le _⟩) hS (fun H locs hP hS => ?_)
  have hP : va_P D vwCl (GM cy ad mt q5 mb mo ms mk my mu ma me mr mp mg mw mf ml mq) H := hP
  refine lv_aload_n hx hb dX12_directories_17 rfl (lv_at hl 0 rfl) ?_
  obtain ⟨q7, h8, h⟩ := bnd h
  refine cRl (run_V (rest := []) C (kX12_uleb hI h8) caX12_uleb w1741 ⟨rfl, rfl, Nat.le_of_ble_eq_true rfl, Nat.le_of_ble_eq_true rfl⟩ hK hN hP (rM0 hK hP) rfl hl.1 rfl (Nat.le_of_ble_eq_true rfl) dX12_directories_18 ⟨Nat.zero_le _, Nat.zero_le _⟩) hS (fun H locs hP hS => ?_)
  have hP : va_P D vwCl (GM cy ad mt q7.2 mb mo ms mk my mu ma me mr mp mg mw mf ml mq) H := hP
  refine lv_lstore_n (lv' := [(1, .long q7.1), (0, .ref (ad 0))]) hx hb dX12_directories_21 rfl hl (by decide) rfl (fun ls hl => ?_)
  refine lv_lconst (v := (0 : Int64)) hx hb dX12_directories_22 (by decide) ?_
  refine lv_lstore_n (lv' := [(3, .long (0 : Int64)), (1, .long q7.1), (0, .ref (ad 0))]) hx hb dX12_directories_23 rfl hl (by decide) rfl (fun ls hl => ?_)
  exact bX12_directories_24 C hI hK hN FU h (lv_sub hl [2, 1, 0] rfl) hP hS
theorem kX12_directories (hI : Apart ad 71)  {q : Int32 × Tmc} (h : X12_directories mc mb = some q) : Met l yX12_directories (.code yX12_directories cX12_directories 5 (some .int) :: WA) ({ frames := 4, cells := 0, slots := 0, locals := 94 } : Room) (va_Pc [.ref (ad 0)] (PR D cy (GM cy ad mt mc mb mo ms mk my mu ma me mr mp mg mw mf ml mq))) (QR (some (.int q.1)) D (GM cy ad mt q.2 mb mo ms mk my mu ma me mr mp mg mw mf ml mq) (Ac ad 71)) 0 0 (Ac ad 71) :=
  met_of (by decide) (Nat.le_of_ble_eq_true rfl) (fun p e s m below meth c ls C hP hK hN hl => bX12_directories_0 C hI hK hN h hl hP va_S.rf)
def X12_files_178 (mb : Tmb) (k104 : Tmc → Tmu → Tmf → Int32 → Int32 → Int64 → Int32 → Option (Tmc × Tmu × Tmf)) (mc : Tmc) (mu : Tmu) (mf : Tmf) (v1 : Int32) (v2 : Int32) (v4 : Int64) (v6 : Int32) (v8 : Int32) (v9 : Int32) : Option (Tmc × Tmu × Tmf) := (if (X12_isRight mc) = 0 then some (mc, mu, mf) else (if inb mb.2.1 2 = true then (if inb (((40 : Int32) * mb.2.1) + (mf.1 (mb.2.1).toNatClampNeg)) 80 = true then (if inb (((40 : Int32) * mb.2.1) + (mf.1 (mb.2.1).toNatClampNeg)) 80 = true then (if inb mb.2.1 2 = true then (if inb mb.2.1 2 = true then (if inb (((20 : Int32) * mb.2.1) + v1) 40 = true then (if inb (((20 : Int32) * mb.2.1) + v1) 40 = true then k104 mc (mu.1, mu.2.1, mu.2.2.1, mu.2.2.2.1, (upd mu.2.2.2.2.1 ((((20 : Int32) * mb.2.1) + v1)).toNatClampNeg ((mu.2.2.2.2.1 ((((20 : Int32) * mb.2.1) + v1)).toNatClampNeg) + (1 : Int32))), mu.2.2.2.2.2.1, mu.2.2.2.2.2.2) ((upd mf.1 (mb.2.1).toNatClampNeg ((mf.1 (mb.2.1).toNatClampNeg) + (1 : Int32))), (upd mf.2.1 ((((40 : Int32) * mb.2.1) + (mf.1 (mb.2.1).toNatClampNeg))).toNatClampNeg v8), (upd mf.2.2 ((((40 : Int32) * mb.2.1) + (mf.1 (mb.2.1).toNatClampNeg))).toNatClampNeg v9)) v1 v2 v4 (v6 + (1 : Int32)) else none) else none) else none) else none) else none) else none) else none))
set_option maxRecDepth 20000 in
theorem bX12_files_178 (C : Cx p s m args meth c cX12_files 13 none RX12 (.code yX12_files cX12_files 13 none)) (hI : Apart ad 71) (hK : va_K D vwCl (tysX cy) s) (hN : NW s) {k104 : Tmc → Tmu → Tmf → Int32 → Int32 → Int64 → Int32 → Option (Tmc × Tmu × Tmf)} {q : Tmc × Tmu × Tmf} (hk104 : ∀ {mc : Tmc} {mu : Tmu} {mf : Tmf} {v1 : Int32} {v2 : Int32} {v4 : Int64} {v6 : Int32}, k104 mc mu mf v1 v2 v4 v6 = some q → ∀ {ls : Array Slot}, lv_has ls 13 [(0, .ref (ad 0)), (1, .int v1), (2, .int v2), (4, .long v4), (6, .int v6)] → ∀ {H : Heap} {locs : List Loc}, va_P D vwCl (GM cy ad mt mc mb mo ms mk my mu ma me mr mp mg mw mf ml mq) H → va_S (Ac ad 71) s.heap H locs → W p l e ({ frames := 4, cells := 0, slots := 0, locals := 94 } : Room) s m args below meth c H locs 0 0 (MQ below (QR none D (GM cy ad mt q.1 mb mo ms mk my q.2.1 ma me mr mp mg mw q.2.2 ml mq) (Ac ad 71)) args s 0 0 (Ac ad 71)) (F0 m 104 ls [])) {v1 : Int32} {v2 : Int32} {v4 : Int64} {v6 : Int32} {v8 : Int32} {v9 : Int32} (h : X12_files_178 mb k104 mc mu mf v1 v2 v4 v6 v8 v9 = some q) {ls : Array Slot} (hl : lv_has ls 13 [(0, .ref (ad 0)), (1, .int v1), (2, .int v2), (4, .long v4), (6, .int v6), (8, .int v8), (9, .int v9)]) {H : Heap} {locs : List Loc} (hP : va_P D vwCl (GM cy ad mt mc mb mo ms mk my mu ma me mr mp mg mw mf ml mq) H) (hS : va_S (Ac ad 71) s.heap H locs) : W p l e ({ frames := 4, cells := 0, slots := 0, locals := 94 } : Room) s m args below meth c H locs 0 0 (MQ below (QR none D (GM cy ad mt q.1 mb mo ms mk my q.2.1 ma me mr mp mg mw q.2.2 ml mq) (Ac ad 71)) args s 0 0 (Ac ad 71)) (F0 m 178 ls []) := by
  obtain ⟨hx, hb, hml, hown, hts, hr, hlk⟩ := id C
  unfold X12_files_178 at h
  refine lv_aload_n hx hb dX12_files_178 rfl (lv_at hl 0 rfl) ?_
  refine cPi (run_V (rest := []) C (kX12_isRight rfl) caX12_isRight w1682 ⟨rfl, rfl, Nat.le_of_ble_eq_true rfl, Nat.le_of_ble_eq_true rfl⟩ hK hN hP (rM0 hK hP) rfl hl.1 rfl (Nat.le_of_ble_eq_true rfl) dX12_files_179 ⟨Nat.zero_le _, Nat.zero_le _⟩) ?_
  refine lv_if_ne (tgt := 186) hx hb dX12_files_182 (by decide) (fun c1 => ?_) (fun c1 => ?_)
  · rw [if_neg c1] at h
    refine lv_bipush (v := (40 : Int32)) hx hb dX12_files_186 (by decide) ?_
    refine lv_aload_n hx hb dX12_files_188 rfl (lv_at hl 0 rfl) ?_
    refine gM0_6 (v := mb.2.1) C hK hP rfl w1373 dX12_files_189 ?_
    refine lv_imul hx hb dX12_files_192 ?_
    refine lv_aload_n hx hb dX12_files_193 rfl (lv_at hl 0 rfl) ?_
    refine gM0_16 C hK hP w1383 dX12_files_194 ?_
    refine lv_aload_n hx hb dX12_files_197 rfl (lv_at hl 0 rfl) ?_
    refine gM0_6 (v := mb.2.1) C hK hP rfl w1373 dX12_files_198 ?_
    obtain ⟨n2, h⟩ := grd h
    refine aM9 (f := mf.1) C hK hP rfl n2 dX12_files_201 ?_
    refine lv_iadd hx hb dX12_files_202 ?_
    refine lv_istore (lv' := [(12, .int (((40 : Int32) * mb.2.1) + (mf.1 (mb.2.1).toNatClampNeg))), (0, .ref (ad 0)), (1, .int v1), (2, .int v2), (4, .long v4), (6, .int v6), (8, .int v8), (9, .int v9)]) hx hb dX12_files_203 hl (by decide) rfl (fun ls hl => ?_)
    refine lv_aload_n hx hb dX12_files_205 rfl (lv_at hl 1 rfl) ?_
    refine gM0_75 C hK hP w1442 dX12_files_206 ?_
    refine lv_iload hx hb dX12_files_209 (lv_at hl 0 rfl) ?_
    refine lv_iload hx hb dX12_files_211 (lv_at hl 6 rfl) ?_
    obtain ⟨n3, h⟩ := grd h
    refine sM65 (f := mf.2.1) C hI hK hP hS rfl n3 dX12_files_213 (fun H locs hP hS => ?_)
    have hP : va_P D vwCl (GM cy ad mt mc mb mo ms mk my mu ma me mr mp mg mw (mf.1, (upd mf.2.1 ((((40 : Int32) * mb.2.1) + (mf.1 (mb.2.1).toNatClampNeg))).toNatClampNeg v8), mf.2.2) ml mq) H := hP
    refine lv_aload_n hx hb dX12_files_214 rfl (lv_at hl 1 rfl) ?_
    refine gM0_76 C hK hP w1443 dX12_files_215 ?_
    refine lv_iload hx hb dX12_files_218 (lv_at hl 0 rfl) ?_
    refine lv_iload hx hb dX12_files_220 (lv_at hl 7 rfl) ?_
    obtain ⟨n4, h⟩ := grd h
    refine sM66 (f := mf.2.2) C hI hK hP hS rfl n4 dX12_files_222 (fun H locs hP hS => ?_)
    have hP : va_P D vwCl (GM cy ad mt mc mb mo ms mk my mu ma me mr mp mg mw (mf.1, (upd mf.2.1 ((((40 : Int32) * mb.2.1) + (mf.1 (mb.2.1).toNatClampNeg))).toNatClampNeg v8), (upd mf.2.2 ((((40 : Int32) * mb.2.1) + (mf.1 (mb.2.1).toNatClampNeg))).toNatClampNeg v9)) ml mq) H := hP
    refine lv_aload_n hx hb dX12_files_223 rfl (lv_at hl 1 rfl) ?_
    refine gM0_16 C hK hP w1383 dX12_files_224 ?_
    refine lv_aload_n hx hb dX12_files_227 rfl (lv_at hl 1 rfl) ?_
    refine gM0_6 (v := mb.2.1) C hK hP rfl w1373 dX12_files_228 ?_
    refine lv_dup2_11 hx hb dX12_files_231 rfl rfl ?_
    obtain ⟨n5, h⟩ := grd h
    refine aM9 (f := mf.1) C hK hP rfl n5 dX12_files_232 ?_
    refine lv_iconst (v := (1 : Int32)) hx hb dX12_files_233 (by decide) ?_
    refine lv_iadd hx hb dX12_files_234 ?_
    obtain ⟨n6, h⟩ := grd h
    refine sM9 (f := mf.1) C hI hK hP hS rfl n6 dX12_files_235 (fun H locs hP hS => ?_)
    have hP : va_P D vwCl (GM cy ad mt mc mb mo ms mk my mu ma me mr mp mg mw ((upd mf.1 (mb.2.1).toNatClampNeg ((mf.1 (mb.2.1).toNatClampNeg) + (1 : Int32))), (upd mf.2.1 ((((40 : Int32) * mb.2.1) + (mf.1 (mb.2.1).toNatClampNeg))).toNatClampNeg v8), (upd mf.2.2 ((((40 : Int32) * mb.2.1) + (mf.1 (mb.2.1).toNatClampNeg))).toNatClampNeg v9)) ml mq) H := hP
    refine lv_aload_n hx hb dX12_files_236 rfl (lv_at hl 1 rfl) ?_
    refine gM0_31 C hK hP w1398 dX12_files_237 ?_
    refine lv_bipush (v := (20 : Int32)) hx hb dX12_files_240 (by decide) ?_
    refine lv_aload_n hx hb dX12_files_242 rfl (lv_at hl 1 rfl) ?_
    refine gM0_6 (v := mb.2.1) C hK hP rfl w1373 dX12_files_243 ?_
    refine lv_imul hx hb dX12_files_246 ?_
    refine lv_iload_n hx hb dX12_files_247 rfl (lv_at hl 2 rfl) ?_
    refine lv_iadd hx hb dX12_files_248 ?_
    refine lv_dup2_11 hx hb dX12_files_249 rfl rfl ?_
    obtain ⟨n7, h⟩ := grd h
    refine aM24 (f := mu.2.2.2.2.1) C hK hP rfl n7 dX12_files_250 ?_
    refine lv_iconst (v := (1 : Int32)) hx hb dX12_files_251 (by decide) ?_
    refine lv_iadd hx hb dX12_files_252 ?_
    obtain ⟨n8, h⟩ := grd h
    refine sM24 (f := mu.2.2.2.2.1) C hI hK hP hS rfl n8 dX12_files_253 (fun H locs hP hS => ?_)
    have hP : va_P D vwCl (GM cy ad mt mc mb mo ms mk my (mu.1, mu.2.1, mu.2.2.1, mu.2.2.2.1, (upd mu.2.2.2.2.1 ((((20 : Int32) * mb.2.1) + v1)).toNatClampNeg ((mu.2.2.2.2.1 ((((20 : Int32) * mb.2.1) + v1)).toNatClampNeg) + (1 : Int32))), mu.2.2.2.2.2.1, mu.2.2.2.2.2.2) ma me mr mp mg mw ((upd mf.1 (mb.2.1).toNatClampNeg ((mf.1 (mb.2.1).toNatClampNeg) + (1 : Int32))), (upd mf.2.1 ((((40 : Int32) * mb.2.1) + (mf.1 (mb.2.1).toNatClampNeg))).toNatClampNeg v8), (upd mf.2.2 ((((40 : Int32) * mb.2.1) + (mf.1 (mb.2.1).toNatClampNeg))).toNatClampNeg v9)) ml mq) H := hP
    refine lv_iinc (v := (v6 + (1 : Int32))) (lv' := [(6, .int (v6 + (1 : Int32))), (12, .int (((40 : Int32) * mb.2.1) + (mf.1 (mb.2.1).toNatClampNeg))), (0, .ref (ad 0)), (1, .int v1), (2, .int v2), (4, .long v4), (8, .int v8), (9, .int v9)]) hx hb dX12_files_254 hl (k := 5) rfl rfl (by decide) rfl (fun ls hl => ?_)
    refine lv_goto (tgt := 104) hx hb dX12_files_257 (by decide) ?_
    exact hk104 h (lv_sub hl [2, 3, 4, 5, 0] rfl) hP hS
  · rw [if_pos c1] at h
    obtain rfl := Option.some.inj h
    exact W.vret hx hb hr (fun t ht _ => ⟨rfl, by rw [ht]; exact hP, hS.F ht⟩) hS.2.2 dX12_files_185 hlk
def X12_files_171 (mb : Tmb) (k104 : Tmc → Tmu → Tmf → Int32 → Int32 → Int64 → Int32 → Option (Tmc × Tmu × Tmf)) (mc : Tmc) (mu : Tmu) (mf : Tmf) (v1 : Int32) (v2 : Int32) (v4 : Int64) (v6 : Int32) (v7 : Int32) (v8 : Int32) (v9 : Int32) : Option (Tmc × Tmu × Tmf) := (letq (X12_fail mc (3 : Int32) v7) fun q1 => X12_files_178 mb k104 q1 mu mf v1 v2 v4 v6 v8 v9)
set_option maxRecDepth 20000 in
theorem bX12_files_171 (C : Cx p s m args meth c cX12_files 13 none RX12 (.code yX12_files cX12_files 13 none)) (hI : Apart ad 71) (hK : va_K D vwCl (tysX cy) s) (hN : NW s) {k104 : Tmc → Tmu → Tmf → Int32 → Int32 → Int64 → Int32 → Option (Tmc × Tmu × Tmf)} {q : Tmc × Tmu × Tmf} (hk104 : ∀ {mc : Tmc} {mu : Tmu} {mf : Tmf} {v1 : Int32} {v2 : Int32} {v4 : Int64} {v6 : Int32}, k104 mc mu mf v1 v2 v4 v6 = some q → ∀ {ls : Array Slot}, lv_has ls 13 [(0, .ref (ad 0)), (1, .int v1), (2, .int v2), (4, .long v4), (6, .int v6)] → ∀ {H : Heap} {locs : List Loc}, va_P D vwCl (GM cy ad mt mc mb mo ms mk my mu ma me mr mp mg mw mf ml mq) H → va_S (Ac ad 71) s.heap H locs → W p l e ({ frames := 4, cells := 0, slots := 0, locals := 94 } : Room) s m args below meth c H locs 0 0 (MQ below (QR none D (GM cy ad mt q.1 mb mo ms mk my q.2.1 ma me mr mp mg mw q.2.2 ml mq) (Ac ad 71)) args s 0 0 (Ac ad 71)) (F0 m 104 ls [])) {v1 : Int32} {v2 : Int32} {v4 : Int64} {v6 : Int32} {v7 : Int32} {v8 : Int32} {v9 : Int32} (h : X12_files_171 mb k104 mc mu mf v1 v2 v4 v6 v7 v8 v9 = some q) {ls : Array Slot} (hl : lv_has ls 13 [(0, .ref (ad 0)), (1, .int v1), (2, .int v2), (4, .long v4), (6, .int v6), (7, .int v7), (8, .int v8), (9, .int v9)]) {H : Heap} {locs : List Loc} (hP : va_P D vwCl (GM cy ad mt mc mb mo ms mk my mu ma me mr mp mg mw mf ml mq) H) (hS : va_S (Ac ad 71) s.heap H locs) : W p l e ({ frames := 4, cells := 0, slots := 0, locals := 94 } : Room) s m args below meth c H locs 0 0 (MQ below (QR none D (GM cy ad mt q.1 mb mo ms mk my q.2.1 ma me mr mp mg mw q.2.2 ml mq) (Ac ad 71)) args s 0 0 (Ac ad 71)) (F0 m 171 ls []) := by
  obtain ⟨hx, hb, hml, hown, hts, hr, hlk⟩ := id C
  unfold X12_files_171 at h
  refine lv_aload_n hx hb dX12_files_171 rfl (lv_at hl 0 rfl) ?_
  refine lv_iconst (v := (3 : Int32)) hx hb dX12_files_172 (by decide) ?_
  refine lv_iload hx hb dX12_files_173 (lv_at hl 5 rfl) ?_
  obtain ⟨q1, h2, h⟩ := lets h
  refine cRv (run_V (rest := []) C (kX12_fail hI h2) caX12_fail w1678 ⟨rfl, rfl, Nat.le_of_ble_eq_true rfl, Nat.le_of_ble_eq_true rfl⟩ hK hN hP (rM0 hK hP) rfl hl.1 rfl (Nat.le_of_ble_eq_true rfl) dX12_files_175 ⟨Nat.zero_le _, Nat.zero_le _⟩) hS (fun H locs hP hS => ?_)
  have hP : va_P D vwCl (GM cy ad mt q1 mb mo ms mk my mu ma me mr mp mg mw mf ml mq) H := hP
  exact bX12_files_178 C hI hK hN @hk104 h (lv_sub hl [0, 1, 2, 3, 4, 6, 7] rfl) hP hS
def X12_files_104b (mb : Tmb)  (k104 : Tmc → Tmu → Tmf → Int32 → Int32 → Int64 → Int32 → Option (Tmc × Tmu × Tmf)) (mc : Tmc) (mu : Tmu) (mf : Tmf) (v1 : Int32) (v2 : Int32) (v4 : Int64) (v6 : Int32) : Option (Tmc × Tmu × Tmf) := (if ((v6).toInt64) < v4 then (if (X12_isRight mc) = 0 then some (mc, mu, mf) else ((X12_string mc mb).bind fun q3 => ((X12_uleb q3.2 mb).bind fun q5 => (if (X12_isRight q5.2) = 0 then X12_files_178 mb k104 q5.2 mu mf v1 v2 v4 v6 q3.1 ((q3.2.1 - q3.1) - (1 : Int32)) else (if q5.1 < (0 : Int64) then X12_files_171 mb k104 q5.2 mu mf v1 v2 v4 v6 mc.1 q3.1 ((q3.2.1 - q3.1) - (1 : Int32)) else (if q5.1 < ((v2).toInt64) then X12_files_178 mb k104 q5.2 mu mf v1 v2 v4 v6 q3.1 ((q3.2.1 - q3.1) - (1 : Int32)) else X12_files_171 mb k104 q5.2 mu mf v1 v2 v4 v6 mc.1 q3.1 ((q3.2.1 - q3.1) - (1 : Int32)))))))) else some (mc, mu, mf))
def X12_files_104 (mb : Tmb)  (n : Nat) (st : Tmc × Tmu × Tmf × Int32 × Int32 × Int64 × Int32) : Option (Tmc × Tmu × Tmf) := lp (fun rec st => X12_files_104b mb  (fun a0 a1 a2 a3 a4 a5 a6 => rec (a0, a1, a2, a3, a4, a5, a6)) st.1 st.2.1 st.2.2.1 st.2.2.2.1 st.2.2.2.2.1 st.2.2.2.2.2.1 st.2.2.2.2.2.2) n st
set_option maxRecDepth 20000 in
theorem bX12_files_104 (C : Cx p s m args meth c cX12_files 13 none RX12 (.code yX12_files cX12_files 13 none)) (hI : Apart ad 71) (hK : va_K D vwCl (tysX cy) s) (hN : NW s)  {q : Tmc × Tmu × Tmf}  : ∀ (n : Nat) {mc : Tmc} {mu : Tmu} {mf : Tmf} {v1 : Int32} {v2 : Int32} {v4 : Int64} {v6 : Int32}, X12_files_104 mb  n (mc, mu, mf, v1, v2, v4, v6) = some q → ∀ {ls : Array Slot}, lv_has ls 13 [(0, .ref (ad 0)), (1, .int v1), (2, .int v2), (4, .long v4), (6, .int v6)] → ∀ {H : Heap} {locs : List Loc}, va_P D vwCl (GM cy ad mt mc mb mo ms mk my mu ma me mr mp mg mw mf ml mq) H → va_S (Ac ad 71) s.heap H locs → W p l e ({ frames := 4, cells := 0, slots := 0, locals := 94 } : Room) s m args below meth c H locs 0 0 (MQ below (QR none D (GM cy ad mt q.1 mb mo ms mk my q.2.1 ma me mr mp mg mw q.2.2 ml mq) (Ac ad 71)) args s 0 0 (Ac ad 71)) (F0 m 104 ls []) := by
  obtain ⟨hx, hb, hml, hown, hts, hr, hlk⟩ := id C
  intro n
  induction n with
  | zero =>
    intro mc mu mf v1 v2 v4 v6 h ls hl H locs hP hS
    have h : (none : Option (Tmc × Tmu × Tmf)) = some q := h
    cases h
  | succ n ih =>
    intro mc mu mf v1 v2 v4 v6 h ls hl H locs hP hS
    have h : X12_files_104b mb  (fun a0 a1 a2 a3 a4 a5 a6 => X12_files_104 mb  n (a0, a1, a2, a3, a4, a5, a6)) mc mu mf v1 v2 v4 v6 = some q := h
    unfold X12_files_104b at h
    refine lv_iload hx hb dX12_files_104 (lv_at hl 4 rfl) ?_
    refine lv_i2l (v := ((v6).toInt64)) hx hb dX12_files_106 rfl ?_
    refine lv_lload hx hb dX12_files_107 (lv_at hl 3 rfl) ?_
    refine lc_ge (tgt := 260) hx hb dX12_files_109 dX12_files_110 (by decide) (fun c1 => ?_) (fun c1 => ?_)
    · rw [if_neg c1] at h
      obtain rfl := Option.some.inj h
      exact W.vret hx hb hr (fun t ht _ => ⟨rfl, by rw [ht]; exact hP, hS.F ht⟩) hS.2.2 dX12_files_260 hlk
    · rw [if_pos c1] at h
      refine lv_aload_n hx hb dX12_files_113 rfl (lv_at hl 0 rfl) ?_
      refine cPi (run_V (rest := []) C (kX12_isRight rfl) caX12_isRight w1682 ⟨rfl, rfl, Nat.le_of_ble_eq_true rfl, Nat.le_of_ble_eq_true rfl⟩ hK hN hP (rM0 hK hP) rfl hl.1 rfl (Nat.le_of_ble_eq_true rfl) dX12_files_114 ⟨Nat.zero_le _, Nat.zero_le _⟩) ?_
      refine lv_if_eq (tgt := 260) hx hb dX12_files_117 (by decide) (fun c2 => ?_) (fun c2 => ?_)
      · rw [if_pos c2] at h
        obtain rfl := Option.some.inj h
        exact W.vret hx hb hr (fun t ht _ => ⟨rfl, by rw [ht]; exact hP, hS.F ht⟩) hS.2.2 dX12_files_260 hlk
      · rw [if_neg c2] at h
        refine lv_aload_n hx hb dX12_files_120 rfl (lv_at hl 0 rfl) ?_
        refine gM0_77 (v := mc.1) C hK hP rfl w1444 dX12_files_121 ?_
        refine lv_istore (lv' := [(7, .int mc.1), (0, .ref (ad 0)), (1, .int v1), (2, .int v2), (4, .long v4), (6, .int v6)]) hx hb dX12_files_124 hl (by decide) rfl (fun ls hl => ?_)
        refine lv_aload_n hx hb dX12_files_126 rfl (lv_at hl 1 rfl) ?_
        obtain ⟨q3, h4, h⟩ := bnd h
        refine cRi (run_V (rest := []) C (kX12_string hI h4) caX12_string w1781 ⟨rfl, rfl, Nat.le_of_ble_eq_true rfl, Nat.le_of_ble_eq_true rfl⟩ hK hN hP (rM0 hK hP) rfl hl.1 rfl (Nat.le_of_ble_eq_true rfl) dX12_files_127 ⟨Nat.zero_le _, Nat.zero_le _⟩) hS (fun H locs hP hS => ?_)
        have hP : va_P D vwCl (GM cy ad mt q3.2 mb mo ms mk my mu ma me mr mp mg mw mf ml mq) H := hP
        refine lv_istore (lv' := [(8, .int q3.1), (7, .int mc.1), (0, .ref (ad 0)), (1, .int v1), (2, .int v2), (4, .long v4), (6, .int v6)]) hx hb dX12_files_130 hl (by decide) rfl (fun ls hl => ?_)
        refine lv_aload_n hx hb dX12_files_132 rfl (lv_at hl 2 rfl) ?_
        refine gM0_77 (v := q3.2.1) C hK hP rfl w1444 dX12_files_133 ?_
        refine lv_iload hx hb dX12_files_136 (lv_at hl 0 rfl) ?_
        refine lv_isub hx hb dX12_files_138 ?_
        refine lv_iconst (v := (1 : Int32)) hx hb dX12_files_139 (by decide) ?_
        refine lv_isub hx hb dX12_files_140 ?_
        refine lv_istore (lv' := [(9, .int ((q3.2.1 - q3.1) - (1 : Int32))), (8, .int q3.1), (7, .int mc.1), (0, .ref (ad 0)), (1, .int v1), (2, .int v2), (4, .long v4), (6, .int v6)]) hx hb dX12_files_141 hl (by decide) rfl (fun ls hl => ?_)
        refine lv_aload_n hx hb dX12_files_143 rfl (lv_at hl 3 rfl) ?_
        obtain ⟨q5, h6, h⟩ := bnd h
        refine cRl (run_V (rest := []) C (kX12_uleb hI h6) caX12_uleb w1741 ⟨rfl, rfl, Nat.le_of_ble_eq_true rfl, Nat.le_of_ble_eq_true rfl⟩ hK hN hP (rM0 hK hP) rfl hl.1 rfl (Nat.le_of_ble_eq_true rfl) dX12_files_144 ⟨Nat.zero_le _, Nat.zero_le _⟩) hS (fun H locs hP hS => ?_)
        have hP : va_P D vwCl (GM cy ad mt q5.2 mb mo ms mk my mu ma me mr mp mg mw mf ml mq) H := hP
        refine lv_lstore (lv' := [(10, .long q5.1), (9, .int ((q3.2.1 - q3.1) - (1 : Int32))), (8, .int q3.1), (7, .int mc.1), (0, .ref (ad 0)), (1, .int v1), (2, .int v2), (4, .long v4), (6, .int v6)]) hx hb dX12_files_147 hl (by decide) rfl (fun ls hl => ?_)
        refine lv_aload_n hx hb dX12_files_149 rfl (lv_at hl 4 rfl) ?_
        refine cPi (run_V (rest := []) C (kX12_isRight rfl) caX12_isRight w1682 ⟨rfl, rfl, Nat.le_of_ble_eq_true rfl, Nat.le_of_ble_eq_true rfl⟩ hK hN hP (rM0 hK hP) rfl hl.1 rfl (Nat.le_of_ble_eq_true rfl) dX12_files_150 ⟨Nat.zero_le _, Nat.zero_le _⟩) ?_
        refine lv_if_eq (tgt := 178) hx hb dX12_files_153 (by decide) (fun c7 => ?_) (fun c7 => ?_)
        · rw [if_pos c7] at h
          exact bX12_files_178 C hI hK hN @ih h (lv_sub hl [4, 5, 6, 7, 8, 2, 1] rfl) hP hS
        · rw [if_neg c7] at h
          refine lv_lload hx hb dX12_files_156 (lv_at hl 0 rfl) ?_
          refine lv_lconst (v := (0 : Int64)) hx hb dX12_files_158 (by decide) ?_
          refine lc_lt (tgt := 171) hx hb dX12_files_159 dX12_files_160 (by decide) (fun c8 => ?_) (fun c8 => ?_)
          · rw [if_pos c8] at h
            exact bX12_files_171 C hI hK hN @ih h (lv_sub hl [4, 5, 6, 7, 8, 3, 2, 1] rfl) hP hS
          · rw [if_neg c8] at h
            refine lv_lload hx hb dX12_files_163 (lv_at hl 0 rfl) ?_
            refine lv_iload_n hx hb dX12_files_165 rfl (lv_at hl 6 rfl) ?_
            refine lv_i2l (v := ((v2).toInt64)) hx hb dX12_files_166 rfl ?_
            refine lc_lt (tgt := 178) hx hb dX12_files_167 dX12_files_168 (by decide) (fun c9 => ?_) (fun c9 => ?_)
            · rw [if_pos c9] at h
              exact bX12_files_178 C hI hK hN @ih h (lv_sub hl [4, 5, 6, 7, 8, 2, 1] rfl) hP hS
            · rw [if_neg c9] at h
              exact bX12_files_171 C hI hK hN @ih h (lv_sub hl [4, 5, 6, 7, 8, 3, 2, 1] rfl) hP hS
def X12_files_78 (mb : Tmb)  (mc : Tmc) (mu : Tmu) (mf : Tmf) (v1 : Int32) (v2 : Int32) (v4 : Int64) : Option (Tmc × Tmu × Tmf) := (if inb mb.2.1 2 = true then (if inb (((20 : Int32) * mb.2.1) + v1) 40 = true then X12_files_104 mb FU (mc, (mu.1, mu.2.1, mu.2.2.1, (upd mu.2.2.2.1 ((((20 : Int32) * mb.2.1) + v1)).toNatClampNeg (mf.1 (mb.2.1).toNatClampNeg)), mu.2.2.2.2.1, mu.2.2.2.2.2.1, mu.2.2.2.2.2.2), mf, v1, v2, v4, (0 : Int32)) else none) else none)
set_option maxRecDepth 20000 in
theorem bX12_files_78 (C : Cx p s m args meth c cX12_files 13 none RX12 (.code yX12_files cX12_files 13 none)) (hI : Apart ad 71) (hK : va_K D vwCl (tysX cy) s) (hN : NW s)  {q : Tmc × Tmu × Tmf}  {v1 : Int32} {v2 : Int32} {v4 : Int64} (h : X12_files_78 mb mc mu mf v1 v2 v4 = some q) {ls : Array Slot} (hl : lv_has ls 13 [(0, .ref (ad 0)), (1, .int v1), (2, .int v2), (4, .long v4)]) {H : Heap} {locs : List Loc} (hP : va_P D vwCl (GM cy ad mt mc mb mo ms mk my mu ma me mr mp mg mw mf ml mq) H) (hS : va_S (Ac ad 71) s.heap H locs) : W p l e ({ frames := 4, cells := 0, slots := 0, locals := 94 } : Room) s m args below meth c H locs 0 0 (MQ below (QR none D (GM cy ad mt q.1 mb mo ms mk my q.2.1 ma me mr mp mg mw q.2.2 ml mq) (Ac ad 71)) args s 0 0 (Ac ad 71)) (F0 m 78 ls []) := by
  obtain ⟨hx, hb, hml, hown, hts, hr, hlk⟩ := id C
  unfold X12_files_78 at h
  refine lv_aload_n hx hb dX12_files_78 rfl (lv_at hl 0 rfl) ?_
  refine gM0_30 C hK hP w1397 dX12_files_79 ?_
  refine lv_bipush (v := (20 : Int32)) hx hb dX12_files_82 (by decide) ?_
  refine lv_aload_n hx hb dX12_files_84 rfl (lv_at hl 0 rfl) ?_
  refine gM0_6 (v := mb.2.1) C hK hP rfl w1373 dX12_files_85 ?_
  refine lv_imul hx hb dX12_files_88 ?_
  refine lv_iload_n hx hb dX12_files_89 rfl (lv_at hl 1 rfl) ?_
  refine lv_iadd hx hb dX12_files_90 ?_
  refine lv_aload_n hx hb dX12_files_91 rfl (lv_at hl 0 rfl) ?_
  refine gM0_16 C hK hP w1383 dX12_files_92 ?_
  refine lv_aload_n hx hb dX12_files_95 rfl (lv_at hl 0 rfl) ?_
  refine gM0_6 (v := mb.2.1) C hK hP rfl w1373 dX12_files_96 ?_
  obtain ⟨n1, h⟩ := grd h
  refine aM9 (f := mf.1) C hK hP rfl n1 dX12_files_99 ?_
  obtain ⟨n2, h⟩ := grd h
  refine sM23 (f := mu.2.2.2.1) C hI hK hP hS rfl n2 dX12_files_100 (fun H locs hP hS => ?_)
  have hP : va_P D vwCl (GM cy ad mt mc mb mo ms mk my (mu.1, mu.2.1, mu.2.2.1, (upd mu.2.2.2.1 ((((20 : Int32) * mb.2.1) + v1)).toNatClampNeg (mf.1 (mb.2.1).toNatClampNeg)), mu.2.2.2.2.1, mu.2.2.2.2.2.1, mu.2.2.2.2.2.2) ma me mr mp mg mw mf ml mq) H := hP
  refine lv_iconst (v := (0 : Int32)) hx hb dX12_files_101 (by decide) ?_
  refine lv_istore (lv' := [(6, .int (0 : Int32)), (0, .ref (ad 0)), (1, .int v1), (2, .int v2), (4, .long v4)]) hx hb dX12_files_102 hl (by decide) rfl (fun ls hl => ?_)
  exact bX12_files_104 C hI hK hN FU h (lv_sub hl [1, 2, 3, 4, 0] rfl) hP hS
def X12_files_72 (mb : Tmb)  (mc : Tmc) (mu : Tmu) (mf : Tmf) (v1 : Int32) (v2 : Int32) (v3 : Int32) (v4 : Int64) : Option (Tmc × Tmu × Tmf) := (letq (X12_fail mc (4 : Int32) v3) fun q1 => X12_files_78 mb q1 mu mf v1 v2 v4)
set_option maxRecDepth 20000 in
theorem bX12_files_72 (C : Cx p s m args meth c cX12_files 13 none RX12 (.code yX12_files cX12_files 13 none)) (hI : Apart ad 71) (hK : va_K D vwCl (tysX cy) s) (hN : NW s)  {q : Tmc × Tmu × Tmf}  {v1 : Int32} {v2 : Int32} {v3 : Int32} {v4 : Int64} (h : X12_files_72 mb mc mu mf v1 v2 v3 v4 = some q) {ls : Array Slot} (hl : lv_has ls 13 [(0, .ref (ad 0)), (1, .int v1), (2, .int v2), (3, .int v3), (4, .long v4)]) {H : Heap} {locs : List Loc} (hP : va_P D vwCl (GM cy ad mt mc mb mo ms mk my mu ma me mr mp mg mw mf ml mq) H) (hS : va_S (Ac ad 71) s.heap H locs) : W p l e ({ frames := 4, cells := 0, slots := 0, locals := 94 } : Room) s m args below meth c H locs 0 0 (MQ below (QR none D (GM cy ad mt q.1 mb mo ms mk my q.2.1 ma me mr mp mg mw q.2.2 ml mq) (Ac ad 71)) args s 0 0 (Ac ad 71)) (F0 m 72 ls []) := by
  obtain ⟨hx, hb, hml, hown, hts, hr, hlk⟩ := id C
  unfold X12_files_72 at h
  refine lv_aload_n hx hb dX12_files_72 rfl (lv_at hl 0 rfl) ?_
  refine lv_iconst (v := (4 : Int32)) hx hb dX12_files_73 (by decide) ?_
  refine lv_iload_n hx hb dX12_files_74 rfl (lv_at hl 3 rfl) ?_
  obtain ⟨q1, h2, h⟩ := lets h
  refine cRv (run_V (rest := []) C (kX12_fail hI h2) caX12_fail w1678 ⟨rfl, rfl, Nat.le_of_ble_eq_true rfl, Nat.le_of_ble_eq_true rfl⟩ hK hN hP (rM0 hK hP) rfl hl.1 rfl (Nat.le_of_ble_eq_true rfl) dX12_files_75 ⟨Nat.zero_le _, Nat.zero_le _⟩) hS (fun H locs hP hS => ?_)
  have hP : va_P D vwCl (GM cy ad mt q1 mb mo ms mk my mu ma me mr mp mg mw mf ml mq) H := hP
  exact bX12_files_78 C hI hK hN h (lv_sub hl [0, 1, 2, 4] rfl) hP hS
def X12_files (mc : Tmc) (mb : Tmb) (mu : Tmu) (mf : Tmf) (v1 : Int32) (v2 : Int32) : Option (Tmc × Tmu × Tmf) := ((X12_must mc mb (1 : Int32) (2 : Int32)).bind fun q1 => ((X12_mustLeb q1 mb (1 : Int32)).bind fun q3 => ((X12_mustLeb q3 mb (8 : Int32)).bind fun q5 => ((X12_mustLeb q5 mb (2 : Int32)).bind fun q7 => ((X12_mustLeb q7 mb (15 : Int32)).bind fun q9 => ((X12_uleb q9 mb).bind fun q11 => (if (X12_isRight q11.2) = 0 then X12_files_78 mb q11.2 mu mf v1 v2 q11.1 else (if q11.1 < (0 : Int64) then X12_files_72 mb q11.2 mu mf v1 v2 q9.1 q11.1 else (if inb mb.2.1 2 = true then (if ((((40 : Int32) - (mf.1 (mb.2.1).toNatClampNeg))).toInt64) < q11.1 then X12_files_72 mb q11.2 mu mf v1 v2 q9.1 q11.1 else X12_files_78 mb q11.2 mu mf v1 v2 q11.1) else none)))))))))
set_option maxRecDepth 20000 in
theorem bX12_files_0 (C : Cx p s m args meth c cX12_files 13 none RX12 (.code yX12_files cX12_files 13 none)) (hI : Apart ad 71) (hK : va_K D vwCl (tysX cy) s) (hN : NW s)  {q : Tmc × Tmu × Tmf}  {v1 : Int32} {v2 : Int32} (h : X12_files mc mb mu mf v1 v2 = some q) {ls : Array Slot} (hl : lv_has ls 13 [(0, .ref (ad 0)), (1, .int v1), (2, .int v2)]) {H : Heap} {locs : List Loc} (hP : va_P D vwCl (GM cy ad mt mc mb mo ms mk my mu ma me mr mp mg mw mf ml mq) H) (hS : va_S (Ac ad 71) s.heap H locs) : W p l e ({ frames := 4, cells := 0, slots := 0, locals := 94 } : Room) s m args below meth c H locs 0 0 (MQ below (QR none D (GM cy ad mt q.1 mb mo ms mk my q.2.1 ma me mr mp mg mw q.2.2 ml mq) (Ac ad 71)) args s 0 0 (Ac ad 71)) (F0 m 0 ls []) := by
  obtain ⟨hx, hb, hml, hown, hts, hr, hlk⟩ := id C
  unfold X12_files at h
  refine lv_aload_n hx hb dX12_files_0 rfl (lv_at hl 0 rfl) ?_
  refine lv_iconst (v := (1 : Int32)) hx hb dX12_files_1 (by decide) ?_
  refine lv_iconst (v := (2 : Int32)) hx hb dX12_files_2 (by decide) ?_
  obtain ⟨q1, h2, h⟩ := bnd h
  refine cRv (run_V (rest := []) C (kX12_must hI h2) caX12_must w1733 ⟨rfl, rfl, Nat.le_of_ble_eq_true rfl, Nat.le_of_ble_eq_true rfl⟩ hK hN hP (rM0 hK hP) rfl hl.1 rfl (Nat.le_of_ble_eq_true rfl) dX12_files_3 ⟨Nat.zero_le _, Nat.zero_le _⟩) hS (fun H locs hP hS => ?_)
  have hP : va_P D vwCl (GM cy ad mt q1 mb mo ms mk my mu ma me mr mp mg mw mf ml mq) H := hP
  refine lv_aload_n hx hb dX12_files_6 rfl (lv_at hl 0 rfl) ?_
  refine lv_iconst (v := (1 : Int32)) hx hb dX12_files_7 (by decide) ?_
  obtain ⟨q3, h4, h⟩ := bnd h
  refine cRv (run_V (rest := []) C (kX12_mustLeb hI h4) caX12_mustLeb w1849 ⟨rfl, rfl, Nat.le_of_ble_eq_true rfl, Nat.le_of_ble_eq_true rfl⟩ hK hN hP (rM0 hK hP) rfl hl.1 rfl (Nat.le_of_ble_eq_true rfl) dX12_files_8 ⟨Nat.zero_le _, Nat.zero_le _⟩) hS (fun H locs hP hS => ?_)
  have hP : va_P D vwCl (GM cy ad mt q3 mb mo ms mk my mu ma me mr mp mg mw mf ml mq) H := hP
  refine lv_aload_n hx hb dX12_files_11 rfl (lv_at hl 0 rfl) ?_
  refine lv_bipush (v := (8 : Int32)) hx hb dX12_files_12 (by decide) ?_
  obtain ⟨q5, h6, h⟩ := bnd h
  refine cRv (run_V (rest := []) C (kX12_mustLeb hI h6) caX12_mustLeb w1849 ⟨rfl, rfl, Nat.le_of_ble_eq_true rfl, Nat.le_of_ble_eq_true rfl⟩ hK hN hP (rM0 hK hP) rfl hl.1 rfl (Nat.le_of_ble_eq_true rfl) dX12_files_14 ⟨Nat.zero_le _, Nat.zero_le _⟩) hS (fun H locs hP hS => ?_)
  have hP : va_P D vwCl (GM cy ad mt q5 mb mo ms mk my mu ma me mr mp mg mw mf ml mq) H := hP
  refine lv_aload_n hx hb dX12_files_17 rfl (lv_at hl 0 rfl) ?_
  refine lv_iconst (v := (2 : Int32)) hx hb dX12_files_18 (by decide) ?_
  obtain ⟨q7, h8, h⟩ := bnd h
  refine cRv (run_V (rest := []) C (kX12_mustLeb hI h8) caX12_mustLeb w1849 ⟨rfl, rfl, Nat.le_of_ble_eq_true rfl, Nat.le_of_ble_eq_true rfl⟩ hK hN hP (rM0 hK hP) rfl hl.1 rfl (Nat.le_of_ble_eq_true rfl) dX12_files_19 ⟨Nat.zero_le _, Nat.zero_le _⟩) hS (fun H locs hP hS => ?_)
  have hP : va_P D vwCl (GM cy ad mt q7 mb mo ms mk my mu ma me mr mp mg mw mf ml mq) H := hP
  refine lv_aload_n hx hb dX12_files_22 rfl (lv_at hl 0 rfl) ?_
  refine lv_bipush (v := (15 : Int32)) hx hb dX12_files_23 (by decide) ?_
  obtain ⟨q9, h10, h⟩ := bnd h
  refine cRv (run_V (rest := []) C (kX12_mustLeb hI h10) caX12_mustLeb w1849 ⟨rfl, rfl, Nat.le_of_ble_eq_true rfl, Nat.le_of_ble_eq_true rfl⟩ hK hN hP (rM0 hK hP) rfl hl.1 rfl (Nat.le_of_ble_eq_true rfl) dX12_files_25 ⟨Nat.zero_le _, Nat.zero_le _⟩) hS (fun H locs hP hS => ?_)
  have hP : va_P D vwCl (GM cy ad mt q9 mb mo ms mk my mu ma me mr mp mg mw mf ml mq) H := hP
  refine lv_aload_n hx hb dX12_files_28 rfl (lv_at hl 0 rfl) ?_
  refine gM0_77 (v := q9.1) C hK hP rfl w1444 dX12_files_29 ?_
  refine lv_istore_n (lv' := [(3, .int q9.1), (0, .ref (ad 0)), (1, .int v1), (2, .int v2)]) hx hb dX12_files_32 rfl hl (by decide) rfl (fun ls hl => ?_)
  refine lv_aload_n hx hb dX12_files_33 rfl (lv_at hl 1 rfl) ?_
  obtain ⟨q11, h12, h⟩ := bnd h
  refine cRl (run_V (rest := []) C (kX12_uleb hI h12) caX12_uleb w1741 ⟨rfl, rfl, Nat.le_of_ble_eq_true rfl, Nat.le_of_ble_eq_true rfl⟩ hK hN hP (rM0 hK hP) rfl hl.1 rfl (Nat.le_of_ble_eq_true rfl) dX12_files_34 ⟨Nat.zero_le _, Nat.zero_le _⟩) hS (fun H locs hP hS => ?_)
  have hP : va_P D vwCl (GM cy ad mt q11.2 mb mo ms mk my mu ma me mr mp mg mw mf ml mq) H := hP
  refine lv_lstore (lv' := [(4, .long q11.1), (3, .int q9.1), (0, .ref (ad 0)), (1, .int v1), (2, .int v2)]) hx hb dX12_files_37 hl (by decide) rfl (fun ls hl => ?_)
  refine lv_aload_n hx hb dX12_files_39 rfl (lv_at hl 2 rfl) ?_
  refine cPi (run_V (rest := []) C (kX12_isRight rfl) caX12_isRight w1682 ⟨rfl, rfl, Nat.le_of_ble_eq_true rfl, Nat.le_of_ble_eq_true rfl⟩ hK hN hP (rM0 hK hP) rfl hl.1 rfl (Nat.le_of_ble_eq_true rfl) dX12_files_40 ⟨Nat.zero_le _, Nat.zero_le _⟩) ?_
  refine lv_if_eq (tgt := 78) hx hb dX12_files_43 (by decide) (fun c13 => ?_) (fun c13 => ?_)
  · rw [if_pos c13] at h
    exact bX12_files_78 C hI hK hN h (lv_sub hl [2, 3, 4, 0] rfl) hP hS
  · rw [if_neg c13] at h
    refine lv_lload hx hb dX12_files_46 (lv_at hl 0 rfl) ?_
    refine lv_lconst (v := (0 : Int64)) hx hb dX12_files_48 (by decide) ?_
    refine lc_lt (tgt := 72) hx hb dX12_files_49 dX12_files_50 (by decide) (fun c14 => ?_) (fun c14 => ?_)
    · rw [if_pos c14] at h
      exact bX12_files_72 C hI hK hN h (lv_sub hl [2, 3, 4, 1, 0] rfl) hP hS
    · rw [if_neg c14] at h
      refine lv_lload hx hb dX12_files_53 (lv_at hl 0 rfl) ?_
      refine lv_bipush (v := (40 : Int32)) hx hb dX12_files_55 (by decide) ?_
      refine lv_aload_n hx hb dX12_files_57 rfl (lv_at hl 2 rfl) ?_
      refine gM0_16 C hK hP w1383 dX12_files_58 ?_
      refine lv_aload_n hx hb dX12_files_61 rfl (lv_at hl 2 rfl) ?_
      refine gM0_6 (v := mb.2.1) C hK hP rfl w1373 dX12_files_62 ?_
      obtain ⟨n15, h⟩ := grd h
      refine aM9 (f := mf.1) C hK hP rfl n15 dX12_files_65 ?_
      refine lv_isub hx hb dX12_files_66 ?_
      refine lv_i2l (v := ((((40 : Int32) - (mf.1 (mb.2.1).toNatClampNeg))).toInt64)) hx hb dX12_files_67 rfl ?_
      refine lc_le (tgt := 78) hx hb dX12_files_68 dX12_files_69 (by decide) (fun c16 => ?_) (fun c16 => ?_)
      · rw [if_neg c16] at h
        exact bX12_files_78 C hI hK hN h (lv_sub hl [2, 3, 4, 0] rfl) hP hS
      · rw [if_pos c16] at h
        exact bX12_files_72 C hI hK hN h (lv_sub hl [2, 3, 4, 1, 0] rfl) hP hS
theorem kX12_files (hI : Apart ad 71) {v1 : Int32} {v2 : Int32} {q : Tmc × Tmu × Tmf} (h : X12_files mc mb mu mf v1 v2 = some q) : Met l yX12_files (.code yX12_files cX12_files 13 none :: WA) ({ frames := 4, cells := 0, slots := 0, locals := 94 } : Room) (va_Pc [.ref (ad 0), .int v1, .int v2] (PR D cy (GM cy ad mt mc mb mo ms mk my mu ma me mr mp mg mw mf ml mq))) (QR none D (GM cy ad mt q.1 mb mo ms mk my q.2.1 ma me mr mp mg mw q.2.2 ml mq) (Ac ad 71)) 0 0 (Ac ad 71) :=
  met_of (by decide) (Nat.le_of_ble_eq_true rfl) (fun p e s m below meth c ls C hP hK hN hl => bX12_files_0 C hI hK hN h hl hP va_S.rf)
def X12_resets (ml : Tml)  : Tml := (ml.1, ml.2.1, ml.2.2.1, ml.2.2.2.1, ml.2.2.2.2.1, (0 : Int64), (1 : Int64), (1 : Int64), ml.2.2.2.2.2.2.2.2.1, (0 : Int32))
set_option maxRecDepth 20000 in
theorem bX12_resets_0 (C : Cx p s m args meth c cX12_resets 1 none RX12 (.code yX12_resets cX12_resets 1 none)) (hI : Apart ad 71) (hK : va_K D vwCl (tysX cy) s) (hN : NW s)  {q : Tml}   (h : X12_resets ml = q) {ls : Array Slot} (hl : lv_has ls 1 [(0, .ref (ad 0))]) {H : Heap} {locs : List Loc} (hP : va_P D vwCl (GM cy ad mt mc mb mo ms mk my mu ma me mr mp mg mw mf ml mq) H) (hS : va_S (Ac ad 71) s.heap H locs) : W p l e ({ frames := 0, cells := 0, slots := 0, locals := 0 } : Room) s m args below meth c H locs 0 0 (MQ below (QR none D (GM cy ad mt mc mb mo ms mk my mu ma me mr mp mg mw mf q mq) (Ac ad 71)) args s 0 0 (Ac ad 71)) (F0 m 0 ls []) := by
  obtain ⟨hx, hb, hml, hown, hts, hr, hlk⟩ := id C
  unfold X12_resets at h
  refine lv_aload_n hx hb dX12_resets_0 rfl (lv_at hl 0 rfl) ?_
  refine lv_lconst (v := (0 : Int64)) hx hb dX12_resets_1 (by decide) ?_
  refine pM0_84 (v := (0 : Int64)) C hI hK hP hS w1451 dX12_resets_2 (fun H locs hP hS => ?_)
  have hP : va_P D vwCl (GM cy ad mt mc mb mo ms mk my mu ma me mr mp mg mw mf (ml.1, ml.2.1, ml.2.2.1, ml.2.2.2.1, ml.2.2.2.2.1, (0 : Int64), ml.2.2.2.2.2.2.1, ml.2.2.2.2.2.2.2.1, ml.2.2.2.2.2.2.2.2.1, ml.2.2.2.2.2.2.2.2.2) mq) H := hP
  refine lv_aload_n hx hb dX12_resets_5 rfl (lv_at hl 0 rfl) ?_
  refine lv_lconst (v := (1 : Int64)) hx hb dX12_resets_6 (by decide) ?_
  refine pM0_85 (v := (1 : Int64)) C hI hK hP hS w1452 dX12_resets_7 (fun H locs hP hS => ?_)
  have hP : va_P D vwCl (GM cy ad mt mc mb mo ms mk my mu ma me mr mp mg mw mf (ml.1, ml.2.1, ml.2.2.1, ml.2.2.2.1, ml.2.2.2.2.1, (0 : Int64), (1 : Int64), ml.2.2.2.2.2.2.2.1, ml.2.2.2.2.2.2.2.2.1, ml.2.2.2.2.2.2.2.2.2) mq) H := hP
  refine lv_aload_n hx hb dX12_resets_10 rfl (lv_at hl 0 rfl) ?_
  refine lv_lconst (v := (1 : Int64)) hx hb dX12_resets_11 (by decide) ?_
  refine pM0_86 (v := (1 : Int64)) C hI hK hP hS w1453 dX12_resets_12 (fun H locs hP hS => ?_)
  have hP : va_P D vwCl (GM cy ad mt mc mb mo ms mk my mu ma me mr mp mg mw mf (ml.1, ml.2.1, ml.2.2.1, ml.2.2.2.1, ml.2.2.2.2.1, (0 : Int64), (1 : Int64), (1 : Int64), ml.2.2.2.2.2.2.2.2.1, ml.2.2.2.2.2.2.2.2.2) mq) H := hP
  refine lv_aload_n hx hb dX12_resets_15 rfl (lv_at hl 0 rfl) ?_
  refine lv_iconst (v := (0 : Int32)) hx hb dX12_resets_16 (by decide) ?_
  refine pM0_88 (v := (0 : Int32)) C hI hK hP hS (by decide) w1455 dX12_resets_17 (fun H locs hP hS => ?_)
  have hP : va_P D vwCl (GM cy ad mt mc mb mo ms mk my mu ma me mr mp mg mw mf (ml.1, ml.2.1, ml.2.2.1, ml.2.2.2.1, ml.2.2.2.2.1, (0 : Int64), (1 : Int64), (1 : Int64), ml.2.2.2.2.2.2.2.2.1, (0 : Int32)) mq) H := hP
  obtain rfl := h
  exact W.vret hx hb hr (fun t ht _ => ⟨rfl, by rw [ht]; exact hP, hS.F ht⟩) hS.2.2 dX12_resets_20 hlk
theorem kX12_resets (hI : Apart ad 71)  {q : Tml} (h : X12_resets ml = q) : Met l yX12_resets (.code yX12_resets cX12_resets 1 none :: WA) ({ frames := 0, cells := 0, slots := 0, locals := 0 } : Room) (va_Pc [.ref (ad 0)] (PR D cy (GM cy ad mt mc mb mo ms mk my mu ma me mr mp mg mw mf ml mq))) (QR none D (GM cy ad mt mc mb mo ms mk my mu ma me mr mp mg mw mf q mq) (Ac ad 71)) 0 0 (Ac ad 71) :=
  met_of (by decide) (Nat.le_of_ble_eq_true rfl) (fun p e s m below meth c ls C hP hK hN hl => bX12_resets_0 C hI hK hN h hl hP va_S.rf)
def X12_comes_118 (mb : Tmb)  (mc : Tmc) (mw : Tmw) (ml : Tml) (v1 : Int32) (v2 : Int32) : Option (Tmc × Tmw × Tml) := (if (X12_isRight mc) = 0 then some (mc, mw, ml) else (if inb mb.2.1 2 = true then (if inb (((600 : Int32) * mb.2.1) + (mw.1 (mb.2.1).toNatClampNeg)) 1200 = true then (if inb (((600 : Int32) * mb.2.1) + (mw.1 (mb.2.1).toNatClampNeg)) 1200 = true then (if inb (((600 : Int32) * mb.2.1) + (mw.1 (mb.2.1).toNatClampNeg)) 1200 = true then (if inb (((600 : Int32) * mb.2.1) + (mw.1 (mb.2.1).toNatClampNeg)) 1200 = true then (if inb (((600 : Int32) * mb.2.1) + (mw.1 (mb.2.1).toNatClampNeg)) 1200 = true then (if inb mb.2.1 2 = true then (if inb mb.2.1 2 = true then (if v2 = 0 then some (mc, ((upd mw.1 (mb.2.1).toNatClampNeg ((mw.1 (mb.2.1).toNatClampNeg) + (1 : Int32))), (upd mw.2.1 ((((600 : Int32) * mb.2.1) + (mw.1 (mb.2.1).toNatClampNeg))).toNatClampNeg v1), (vp_updL mw.2.2.1 ((((600 : Int32) * mb.2.1) + (mw.1 (mb.2.1).toNatClampNeg))).toNatClampNeg ml.2.2.2.2.2.1), (upd mw.2.2.2.1 ((((600 : Int32) * mb.2.1) + (mw.1 (mb.2.1).toNatClampNeg))).toNatClampNeg ((ml.2.2.2.2.2.2.1).toInt32)), (upd mw.2.2.2.2.1 ((((600 : Int32) * mb.2.1) + (mw.1 (mb.2.1).toNatClampNeg))).toNatClampNeg ((ml.2.2.2.2.2.2.2.1).toInt32)), (upd mw.2.2.2.2.2 ((((600 : Int32) * mb.2.1) + (mw.1 (mb.2.1).toNatClampNeg))).toNatClampNeg (vp_nar .boolean v2))), (ml.1, ml.2.1, ml.2.2.1, ml.2.2.2.1, ml.2.2.2.2.1, ml.2.2.2.2.2.1, ml.2.2.2.2.2.2.1, ml.2.2.2.2.2.2.2.1, ml.2.2.2.2.2.1, (1 : Int32))) else (letq (X12_resets (ml.1, ml.2.1, ml.2.2.1, ml.2.2.2.1, ml.2.2.2.2.1, ml.2.2.2.2.2.1, ml.2.2.2.2.2.2.1, ml.2.2.2.2.2.2.2.1, ml.2.2.2.2.2.1, (1 : Int32))) fun q11 => some (mc, ((upd mw.1 (mb.2.1).toNatClampNeg ((mw.1 (mb.2.1).toNatClampNeg) + (1 : Int32))), (upd mw.2.1 ((((600 : Int32) * mb.2.1) + (mw.1 (mb.2.1).toNatClampNeg))).toNatClampNeg v1), (vp_updL mw.2.2.1 ((((600 : Int32) * mb.2.1) + (mw.1 (mb.2.1).toNatClampNeg))).toNatClampNeg ml.2.2.2.2.2.1), (upd mw.2.2.2.1 ((((600 : Int32) * mb.2.1) + (mw.1 (mb.2.1).toNatClampNeg))).toNatClampNeg ((ml.2.2.2.2.2.2.1).toInt32)), (upd mw.2.2.2.2.1 ((((600 : Int32) * mb.2.1) + (mw.1 (mb.2.1).toNatClampNeg))).toNatClampNeg ((ml.2.2.2.2.2.2.2.1).toInt32)), (upd mw.2.2.2.2.2 ((((600 : Int32) * mb.2.1) + (mw.1 (mb.2.1).toNatClampNeg))).toNatClampNeg (vp_nar .boolean v2))), q11))) else none) else none) else none) else none) else none) else none) else none) else none))
set_option maxRecDepth 20000 in
theorem bX12_comes_118 (C : Cx p s m args meth c cX12_comes 6 none RX12 (.code yX12_comes cX12_comes 6 none)) (hI : Apart ad 71) (hK : va_K D vwCl (tysX cy) s) (hN : NW s)  {q : Tmc × Tmw × Tml}  {v1 : Int32} {v2 : Int32} (h : X12_comes_118 mb mc mw ml v1 v2 = some q) {ls : Array Slot} (hl : lv_has ls 6 [(0, .ref (ad 0)), (1, .int v1), (2, .int v2)]) {H : Heap} {locs : List Loc} (hP : va_P D vwCl (GM cy ad mt mc mb mo ms mk my mu ma me mr mp mg mw mf ml mq) H) (hS : va_S (Ac ad 71) s.heap H locs) : W p l e ({ frames := 1, cells := 0, slots := 0, locals := 22 } : Room) s m args below meth c H locs 0 0 (MQ below (QR none D (GM cy ad mt q.1 mb mo ms mk my mu ma me mr mp mg q.2.1 mf q.2.2 mq) (Ac ad 71)) args s 0 0 (Ac ad 71)) (F0 m 118 ls []) := by
  obtain ⟨hx, hb, hml, hown, hts, hr, hlk⟩ := id C
  unfold X12_comes_118 at h
  refine lv_aload_n hx hb dX12_comes_118 rfl (lv_at hl 0 rfl) ?_
  refine cPi (run_V (rest := []) C (kX12_isRight rfl) caX12_isRight w1682 ⟨rfl, rfl, Nat.le_of_ble_eq_true rfl, Nat.le_of_ble_eq_true rfl⟩ hK hN hP (rM0 hK hP) rfl hl.1 rfl (Nat.le_of_ble_eq_true rfl) dX12_comes_119 ⟨Nat.zero_le _, Nat.zero_le _⟩) ?_
  refine lv_if_ne (tgt := 126) hx hb dX12_comes_122 (by decide) (fun c1 => ?_) (fun c1 => ?_)
  · rw [if_neg c1] at h
    refine lv_sipush (v := (600 : Int32)) hx hb dX12_comes_126 (by decide) ?_
    refine lv_aload_n hx hb dX12_comes_129 rfl (lv_at hl 0 rfl) ?_
    refine gM0_6 (v := mb.2.1) C hK hP rfl w1373 dX12_comes_130 ?_
    refine lv_imul hx hb dX12_comes_133 ?_
    refine lv_aload_n hx hb dX12_comes_134 rfl (lv_at hl 0 rfl) ?_
    refine gM0_15 C hK hP w1382 dX12_comes_135 ?_
    refine lv_aload_n hx hb dX12_comes_138 rfl (lv_at hl 0 rfl) ?_
    refine gM0_6 (v := mb.2.1) C hK hP rfl w1373 dX12_comes_139 ?_
    obtain ⟨n2, h⟩ := grd h
    refine aM8 (f := mw.1) C hK hP rfl n2 dX12_comes_142 ?_
    refine lv_iadd hx hb dX12_comes_143 ?_
    refine lv_istore (lv' := [(5, .int (((600 : Int32) * mb.2.1) + (mw.1 (mb.2.1).toNatClampNeg))), (0, .ref (ad 0)), (1, .int v1), (2, .int v2)]) hx hb dX12_comes_144 hl (by decide) rfl (fun ls hl => ?_)
    refine lv_aload_n hx hb dX12_comes_146 rfl (lv_at hl 1 rfl) ?_
    refine gM0_70 C hK hP w1437 dX12_comes_147 ?_
    refine lv_iload hx hb dX12_comes_150 (lv_at hl 0 rfl) ?_
    refine lv_iload_n hx hb dX12_comes_152 rfl (lv_at hl 2 rfl) ?_
    obtain ⟨n3, h⟩ := grd h
    refine sM60 (f := mw.2.1) C hI hK hP hS rfl n3 dX12_comes_153 (fun H locs hP hS => ?_)
    have hP : va_P D vwCl (GM cy ad mt mc mb mo ms mk my mu ma me mr mp mg (mw.1, (upd mw.2.1 ((((600 : Int32) * mb.2.1) + (mw.1 (mb.2.1).toNatClampNeg))).toNatClampNeg v1), mw.2.2.1, mw.2.2.2.1, mw.2.2.2.2.1, mw.2.2.2.2.2) mf ml mq) H := hP
    refine lv_aload_n hx hb dX12_comes_154 rfl (lv_at hl 1 rfl) ?_
    refine gM0_71 C hK hP w1438 dX12_comes_155 ?_
    refine lv_iload hx hb dX12_comes_158 (lv_at hl 0 rfl) ?_
    refine lv_aload_n hx hb dX12_comes_160 rfl (lv_at hl 1 rfl) ?_
    refine gM0_84 (v := ml.2.2.2.2.2.1) C hK hP rfl w1451 dX12_comes_161 ?_
    obtain ⟨n4, h⟩ := grd h
    refine sM61 (f := mw.2.2.1) C hI hK hP hS rfl n4 dX12_comes_164 (fun H locs hP hS => ?_)
    have hP : va_P D vwCl (GM cy ad mt mc mb mo ms mk my mu ma me mr mp mg (mw.1, (upd mw.2.1 ((((600 : Int32) * mb.2.1) + (mw.1 (mb.2.1).toNatClampNeg))).toNatClampNeg v1), (vp_updL mw.2.2.1 ((((600 : Int32) * mb.2.1) + (mw.1 (mb.2.1).toNatClampNeg))).toNatClampNeg ml.2.2.2.2.2.1), mw.2.2.2.1, mw.2.2.2.2.1, mw.2.2.2.2.2) mf ml mq) H := hP
    refine lv_aload_n hx hb dX12_comes_165 rfl (lv_at hl 1 rfl) ?_
    refine gM0_72 C hK hP w1439 dX12_comes_166 ?_
    refine lv_iload hx hb dX12_comes_169 (lv_at hl 0 rfl) ?_
    refine lv_aload_n hx hb dX12_comes_171 rfl (lv_at hl 1 rfl) ?_
    refine gM0_85 (v := ml.2.2.2.2.2.2.1) C hK hP rfl w1452 dX12_comes_172 ?_
    refine lv_l2i (v := ((ml.2.2.2.2.2.2.1).toInt32)) hx hb dX12_comes_175 rfl ?_
    obtain ⟨n5, h⟩ := grd h
    refine sM62 (f := mw.2.2.2.1) C hI hK hP hS rfl n5 dX12_comes_176 (fun H locs hP hS => ?_)
    have hP : va_P D vwCl (GM cy ad mt mc mb mo ms mk my mu ma me mr mp mg (mw.1, (upd mw.2.1 ((((600 : Int32) * mb.2.1) + (mw.1 (mb.2.1).toNatClampNeg))).toNatClampNeg v1), (vp_updL mw.2.2.1 ((((600 : Int32) * mb.2.1) + (mw.1 (mb.2.1).toNatClampNeg))).toNatClampNeg ml.2.2.2.2.2.1), (upd mw.2.2.2.1 ((((600 : Int32) * mb.2.1) + (mw.1 (mb.2.1).toNatClampNeg))).toNatClampNeg ((ml.2.2.2.2.2.2.1).toInt32)), mw.2.2.2.2.1, mw.2.2.2.2.2) mf ml mq) H := hP
    refine lv_aload_n hx hb dX12_comes_177 rfl (lv_at hl 1 rfl) ?_
    refine gM0_73 C hK hP w1440 dX12_comes_178 ?_
    refine lv_iload hx hb dX12_comes_181 (lv_at hl 0 rfl) ?_
    refine lv_aload_n hx hb dX12_comes_183 rfl (lv_at hl 1 rfl) ?_
    refine gM0_86 (v := ml.2.2.2.2.2.2.2.1) C hK hP rfl w1453 dX12_comes_184 ?_
    refine lv_l2i (v := ((ml.2.2.2.2.2.2.2.1).toInt32)) hx hb dX12_comes_187 rfl ?_
    obtain ⟨n6, h⟩ := grd h
    refine sM63 (f := mw.2.2.2.2.1) C hI hK hP hS rfl n6 dX12_comes_188 (fun H locs hP hS => ?_)
    have hP : va_P D vwCl (GM cy ad mt mc mb mo ms mk my mu ma me mr mp mg (mw.1, (upd mw.2.1 ((((600 : Int32) * mb.2.1) + (mw.1 (mb.2.1).toNatClampNeg))).toNatClampNeg v1), (vp_updL mw.2.2.1 ((((600 : Int32) * mb.2.1) + (mw.1 (mb.2.1).toNatClampNeg))).toNatClampNeg ml.2.2.2.2.2.1), (upd mw.2.2.2.1 ((((600 : Int32) * mb.2.1) + (mw.1 (mb.2.1).toNatClampNeg))).toNatClampNeg ((ml.2.2.2.2.2.2.1).toInt32)), (upd mw.2.2.2.2.1 ((((600 : Int32) * mb.2.1) + (mw.1 (mb.2.1).toNatClampNeg))).toNatClampNeg ((ml.2.2.2.2.2.2.2.1).toInt32)), mw.2.2.2.2.2) mf ml mq) H := hP
    refine lv_aload_n hx hb dX12_comes_189 rfl (lv_at hl 1 rfl) ?_
    refine gM0_74 C hK hP w1441 dX12_comes_190 ?_
    refine lv_iload hx hb dX12_comes_193 (lv_at hl 0 rfl) ?_
    refine lv_iload_n hx hb dX12_comes_195 rfl (lv_at hl 3 rfl) ?_
    obtain ⟨n7, h⟩ := grd h
    refine sM64 (f := mw.2.2.2.2.2) C hI hK hP hS rfl n7 dX12_comes_196 (fun H locs hP hS => ?_)
    have hP : va_P D vwCl (GM cy ad mt mc mb mo ms mk my mu ma me mr mp mg (mw.1, (upd mw.2.1 ((((600 : Int32) * mb.2.1) + (mw.1 (mb.2.1).toNatClampNeg))).toNatClampNeg v1), (vp_updL mw.2.2.1 ((((600 : Int32) * mb.2.1) + (mw.1 (mb.2.1).toNatClampNeg))).toNatClampNeg ml.2.2.2.2.2.1), (upd mw.2.2.2.1 ((((600 : Int32) * mb.2.1) + (mw.1 (mb.2.1).toNatClampNeg))).toNatClampNeg ((ml.2.2.2.2.2.2.1).toInt32)), (upd mw.2.2.2.2.1 ((((600 : Int32) * mb.2.1) + (mw.1 (mb.2.1).toNatClampNeg))).toNatClampNeg ((ml.2.2.2.2.2.2.2.1).toInt32)), (upd mw.2.2.2.2.2 ((((600 : Int32) * mb.2.1) + (mw.1 (mb.2.1).toNatClampNeg))).toNatClampNeg (vp_nar .boolean v2))) mf ml mq) H := hP
    refine lv_aload_n hx hb dX12_comes_197 rfl (lv_at hl 1 rfl) ?_
    refine gM0_15 C hK hP w1382 dX12_comes_198 ?_
    refine lv_aload_n hx hb dX12_comes_201 rfl (lv_at hl 1 rfl) ?_
    refine gM0_6 (v := mb.2.1) C hK hP rfl w1373 dX12_comes_202 ?_
    refine lv_dup2_11 hx hb dX12_comes_205 rfl rfl ?_
    obtain ⟨n8, h⟩ := grd h
    refine aM8 (f := mw.1) C hK hP rfl n8 dX12_comes_206 ?_
    refine lv_iconst (v := (1 : Int32)) hx hb dX12_comes_207 (by decide) ?_
    refine lv_iadd hx hb dX12_comes_208 ?_
    obtain ⟨n9, h⟩ := grd h
    refine sM8 (f := mw.1) C hI hK hP hS rfl n9 dX12_comes_209 (fun H locs hP hS => ?_)
    have hP : va_P D vwCl (GM cy ad mt mc mb mo ms mk my mu ma me mr mp mg ((upd mw.1 (mb.2.1).toNatClampNeg ((mw.1 (mb.2.1).toNatClampNeg) + (1 : Int32))), (upd mw.2.1 ((((600 : Int32) * mb.2.1) + (mw.1 (mb.2.1).toNatClampNeg))).toNatClampNeg v1), (vp_updL mw.2.2.1 ((((600 : Int32) * mb.2.1) + (mw.1 (mb.2.1).toNatClampNeg))).toNatClampNeg ml.2.2.2.2.2.1), (upd mw.2.2.2.1 ((((600 : Int32) * mb.2.1) + (mw.1 (mb.2.1).toNatClampNeg))).toNatClampNeg ((ml.2.2.2.2.2.2.1).toInt32)), (upd mw.2.2.2.2.1 ((((600 : Int32) * mb.2.1) + (mw.1 (mb.2.1).toNatClampNeg))).toNatClampNeg ((ml.2.2.2.2.2.2.2.1).toInt32)), (upd mw.2.2.2.2.2 ((((600 : Int32) * mb.2.1) + (mw.1 (mb.2.1).toNatClampNeg))).toNatClampNeg (vp_nar .boolean v2))) mf ml mq) H := hP
    refine lv_aload_n hx hb dX12_comes_210 rfl (lv_at hl 1 rfl) ?_
    refine lv_aload_n hx hb dX12_comes_211 rfl (lv_at hl 1 rfl) ?_
    refine gM0_84 (v := ml.2.2.2.2.2.1) C hK hP rfl w1451 dX12_comes_212 ?_
    refine pM0_87 (v := ml.2.2.2.2.2.1) C hI hK hP hS w1454 dX12_comes_215 (fun H locs hP hS => ?_)
    have hP : va_P D vwCl (GM cy ad mt mc mb mo ms mk my mu ma me mr mp mg ((upd mw.1 (mb.2.1).toNatClampNeg ((mw.1 (mb.2.1).toNatClampNeg) + (1 : Int32))), (upd mw.2.1 ((((600 : Int32) * mb.2.1) + (mw.1 (mb.2.1).toNatClampNeg))).toNatClampNeg v1), (vp_updL mw.2.2.1 ((((600 : Int32) * mb.2.1) + (mw.1 (mb.2.1).toNatClampNeg))).toNatClampNeg ml.2.2.2.2.2.1), (upd mw.2.2.2.1 ((((600 : Int32) * mb.2.1) + (mw.1 (mb.2.1).toNatClampNeg))).toNatClampNeg ((ml.2.2.2.2.2.2.1).toInt32)), (upd mw.2.2.2.2.1 ((((600 : Int32) * mb.2.1) + (mw.1 (mb.2.1).toNatClampNeg))).toNatClampNeg ((ml.2.2.2.2.2.2.2.1).toInt32)), (upd mw.2.2.2.2.2 ((((600 : Int32) * mb.2.1) + (mw.1 (mb.2.1).toNatClampNeg))).toNatClampNeg (vp_nar .boolean v2))) mf (ml.1, ml.2.1, ml.2.2.1, ml.2.2.2.1, ml.2.2.2.2.1, ml.2.2.2.2.2.1, ml.2.2.2.2.2.2.1, ml.2.2.2.2.2.2.2.1, ml.2.2.2.2.2.1, ml.2.2.2.2.2.2.2.2.2) mq) H := hP
    refine lv_aload_n hx hb dX12_comes_218 rfl (lv_at hl 1 rfl) ?_
    refine lv_iconst (v := (1 : Int32)) hx hb dX12_comes_219 (by decide) ?_
    refine pM0_88 (v := (1 : Int32)) C hI hK hP hS (by decide) w1455 dX12_comes_220 (fun H locs hP hS => ?_)
    have hP : va_P D vwCl (GM cy ad mt mc mb mo ms mk my mu ma me mr mp mg ((upd mw.1 (mb.2.1).toNatClampNeg ((mw.1 (mb.2.1).toNatClampNeg) + (1 : Int32))), (upd mw.2.1 ((((600 : Int32) * mb.2.1) + (mw.1 (mb.2.1).toNatClampNeg))).toNatClampNeg v1), (vp_updL mw.2.2.1 ((((600 : Int32) * mb.2.1) + (mw.1 (mb.2.1).toNatClampNeg))).toNatClampNeg ml.2.2.2.2.2.1), (upd mw.2.2.2.1 ((((600 : Int32) * mb.2.1) + (mw.1 (mb.2.1).toNatClampNeg))).toNatClampNeg ((ml.2.2.2.2.2.2.1).toInt32)), (upd mw.2.2.2.2.1 ((((600 : Int32) * mb.2.1) + (mw.1 (mb.2.1).toNatClampNeg))).toNatClampNeg ((ml.2.2.2.2.2.2.2.1).toInt32)), (upd mw.2.2.2.2.2 ((((600 : Int32) * mb.2.1) + (mw.1 (mb.2.1).toNatClampNeg))).toNatClampNeg (vp_nar .boolean v2))) mf (ml.1, ml.2.1, ml.2.2.1, ml.2.2.2.1, ml.2.2.2.2.1, ml.2.2.2.2.2.1, ml.2.2.2.2.2.2.1, ml.2.2.2.2.2.2.2.1, ml.2.2.2.2.2.1, (1 : Int32)) mq) H := hP
    refine lv_iload_n hx hb dX12_comes_223 rfl (lv_at hl 3 rfl) ?_
    refine lv_if_eq (tgt := 231) hx hb dX12_comes_224 (by decide) (fun c10 => ?_) (fun c10 => ?_)
    · rw [if_pos c10] at h
      obtain rfl := Option.some.inj h
      exact W.vret hx hb hr (fun t ht _ => ⟨rfl, by rw [ht]; exact hP, hS.F ht⟩) hS.2.2 dX12_comes_231 hlk
    · rw [if_neg c10] at h
      refine lv_aload_n hx hb dX12_comes_227 rfl (lv_at hl 1 rfl) ?_
      obtain ⟨q11, h12, h⟩ := lets h
      refine cRv (run_V (rest := []) C (kX12_resets hI h12) caX12_resets w1861 ⟨rfl, rfl, Nat.le_of_ble_eq_true rfl, Nat.le_of_ble_eq_true rfl⟩ hK hN hP (rM0 hK hP) rfl hl.1 rfl (Nat.le_of_ble_eq_true rfl) dX12_comes_228 ⟨Nat.zero_le _, Nat.zero_le _⟩) hS (fun H locs hP hS => ?_)
      have hP : va_P D vwCl (GM cy ad mt mc mb mo ms mk my mu ma me mr mp mg ((upd mw.1 (mb.2.1).toNatClampNeg ((mw.1 (mb.2.1).toNatClampNeg) + (1 : Int32))), (upd mw.2.1 ((((600 : Int32) * mb.2.1) + (mw.1 (mb.2.1).toNatClampNeg))).toNatClampNeg v1), (vp_updL mw.2.2.1 ((((600 : Int32) * mb.2.1) + (mw.1 (mb.2.1).toNatClampNeg))).toNatClampNeg ml.2.2.2.2.2.1), (upd mw.2.2.2.1 ((((600 : Int32) * mb.2.1) + (mw.1 (mb.2.1).toNatClampNeg))).toNatClampNeg ((ml.2.2.2.2.2.2.1).toInt32)), (upd mw.2.2.2.2.1 ((((600 : Int32) * mb.2.1) + (mw.1 (mb.2.1).toNatClampNeg))).toNatClampNeg ((ml.2.2.2.2.2.2.2.1).toInt32)), (upd mw.2.2.2.2.2 ((((600 : Int32) * mb.2.1) + (mw.1 (mb.2.1).toNatClampNeg))).toNatClampNeg (vp_nar .boolean v2))) mf q11 mq) H := hP
      obtain rfl := Option.some.inj h
      exact W.vret hx hb hr (fun t ht _ => ⟨rfl, by rw [ht]; exact hP, hS.F ht⟩) hS.2.2 dX12_comes_231 hlk
  · rw [if_pos c1] at h
    obtain rfl := Option.some.inj h
    exact W.vret hx hb hr (fun t ht _ => ⟨rfl, by rw [ht]; exact hP, hS.F ht⟩) hS.2.2 dX12_comes_125 hlk
def X12_comes_81 (mb : Tmb)  (mc : Tmc) (mw : Tmw) (ml : Tml) (v1 : Int32) (v2 : Int32) (v3 : Int32) (z0 : Int32) : Option (Tmc × Tmw × Tml) := (if z0 = 0 then (letq (X12_fail mc (2 : Int32) v3) fun q6 => X12_comes_118 mb q6 mw ml v1 v2) else (if inb mb.2.1 2 = true then (if (mw.1 (mb.2.1).toNatClampNeg) = (600 : Int32) then (letq (X12_fail mc (4 : Int32) v3) fun q4 => X12_comes_118 mb q4 mw ml v1 v2) else X12_comes_118 mb mc mw ml v1 v2) else none))
set_option maxRecDepth 20000 in
theorem bX12_comes_81 (C : Cx p s m args meth c cX12_comes 6 none RX12 (.code yX12_comes cX12_comes 6 none)) (hI : Apart ad 71) (hK : va_K D vwCl (tysX cy) s) (hN : NW s)  {q : Tmc × Tmw × Tml}  {v1 : Int32} {v2 : Int32} {v3 : Int32} {z0 : Int32} (h : X12_comes_81 mb mc mw ml v1 v2 v3 z0 = some q) {ls : Array Slot} (hl : lv_has ls 6 [(0, .ref (ad 0)), (1, .int v1), (2, .int v2), (3, .int v3)]) {H : Heap} {locs : List Loc} (hP : va_P D vwCl (GM cy ad mt mc mb mo ms mk my mu ma me mr mp mg mw mf ml mq) H) (hS : va_S (Ac ad 71) s.heap H locs) : W p l e ({ frames := 1, cells := 0, slots := 0, locals := 22 } : Room) s m args below meth c H locs 0 0 (MQ below (QR none D (GM cy ad mt q.1 mb mo ms mk my mu ma me mr mp mg q.2.1 mf q.2.2 mq) (Ac ad 71)) args s 0 0 (Ac ad 71)) (F0 m 81 ls [.int z0]) := by
  obtain ⟨hx, hb, hml, hown, hts, hr, hlk⟩ := id C
  unfold X12_comes_81 at h
  refine lv_istore (lv' := [(4, .int z0), (0, .ref (ad 0)), (1, .int v1), (2, .int v2), (3, .int v3)]) hx hb dX12_comes_81 hl (by decide) rfl (fun ls hl => ?_)
  refine lv_iload hx hb dX12_comes_83 (lv_at hl 0 rfl) ?_
  refine lv_if_ne (tgt := 97) hx hb dX12_comes_85 (by decide) (fun c1 => ?_) (fun c1 => ?_)
  · rw [if_neg c1] at h
    refine lv_aload_n hx hb dX12_comes_97 rfl (lv_at hl 1 rfl) ?_
    refine gM0_15 C hK hP w1382 dX12_comes_98 ?_
    refine lv_aload_n hx hb dX12_comes_101 rfl (lv_at hl 1 rfl) ?_
    refine gM0_6 (v := mb.2.1) C hK hP rfl w1373 dX12_comes_102 ?_
    obtain ⟨n2, h⟩ := grd h
    refine aM8 (f := mw.1) C hK hP rfl n2 dX12_comes_105 ?_
    refine lv_sipush (v := (600 : Int32)) hx hb dX12_comes_106 (by decide) ?_
    refine lv_icmp_ne (tgt := 118) hx hb dX12_comes_109 (by decide) (fun c3 => ?_) (fun c3 => ?_)
    · rw [if_neg c3] at h
      exact bX12_comes_118 C hI hK hN h (lv_sub hl [1, 2, 3] rfl) hP hS
    · rw [if_pos c3] at h
      refine lv_aload_n hx hb dX12_comes_112 rfl (lv_at hl 1 rfl) ?_
      refine lv_iconst (v := (4 : Int32)) hx hb dX12_comes_113 (by decide) ?_
      refine lv_iload_n hx hb dX12_comes_114 rfl (lv_at hl 4 rfl) ?_
      obtain ⟨q4, h5, h⟩ := lets h
      refine cRv (run_V (rest := []) C (kX12_fail hI h5) caX12_fail w1678 ⟨rfl, rfl, Nat.le_of_ble_eq_true rfl, Nat.le_of_ble_eq_true rfl⟩ hK hN hP (rM0 hK hP) rfl hl.1 rfl (Nat.le_of_ble_eq_true rfl) dX12_comes_115 ⟨Nat.zero_le _, Nat.zero_le _⟩) hS (fun H locs hP hS => ?_)
      have hP : va_P D vwCl (GM cy ad mt q4 mb mo ms mk my mu ma me mr mp mg mw mf ml mq) H := hP
      exact bX12_comes_118 C hI hK hN h (lv_sub hl [1, 2, 3] rfl) hP hS
  · rw [if_pos c1] at h
    refine lv_aload_n hx hb dX12_comes_88 rfl (lv_at hl 1 rfl) ?_
    refine lv_iconst (v := (2 : Int32)) hx hb dX12_comes_89 (by decide) ?_
    refine lv_iload_n hx hb dX12_comes_90 rfl (lv_at hl 4 rfl) ?_
    obtain ⟨q6, h7, h⟩ := lets h
    refine cRv (run_V (rest := []) C (kX12_fail hI h7) caX12_fail w1678 ⟨rfl, rfl, Nat.le_of_ble_eq_true rfl, Nat.le_of_ble_eq_true rfl⟩ hK hN hP (rM0 hK hP) rfl hl.1 rfl (Nat.le_of_ble_eq_true rfl) dX12_comes_91 ⟨Nat.zero_le _, Nat.zero_le _⟩) hS (fun H locs hP hS => ?_)
    have hP : va_P D vwCl (GM cy ad mt q6 mb mo ms mk my mu ma me mr mp mg mw mf ml mq) H := hP
    refine lv_goto (tgt := 118) hx hb dX12_comes_94 (by decide) ?_
    exact bX12_comes_118 C hI hK hN h (lv_sub hl [1, 2, 3] rfl) hP hS
def X12_comes_80 (mb : Tmb)  (mc : Tmc) (mw : Tmw) (ml : Tml) (v1 : Int32) (v2 : Int32) (v3 : Int32) : Option (Tmc × Tmw × Tml) := X12_comes_81 mb mc mw ml v1 v2 v3 (0 : Int32)
set_option maxRecDepth 20000 in
theorem bX12_comes_80 (C : Cx p s m args meth c cX12_comes 6 none RX12 (.code yX12_comes cX12_comes 6 none)) (hI : Apart ad 71) (hK : va_K D vwCl (tysX cy) s) (hN : NW s)  {q : Tmc × Tmw × Tml}  {v1 : Int32} {v2 : Int32} {v3 : Int32} (h : X12_comes_80 mb mc mw ml v1 v2 v3 = some q) {ls : Array Slot} (hl : lv_has ls 6 [(0, .ref (ad 0)), (1, .int v1), (2, .int v2), (3, .int v3)]) {H : Heap} {locs : List Loc} (hP : va_P D vwCl (GM cy ad mt mc mb mo ms mk my mu ma me mr mp mg mw mf ml mq) H) (hS : va_S (Ac ad 71) s.heap H locs) : W p l e ({ frames := 1, cells := 0, slots := 0, locals := 22 } : Room) s m args below meth c H locs 0 0 (MQ below (QR none D (GM cy ad mt q.1 mb mo ms mk my mu ma me mr mp mg q.2.1 mf q.2.2 mq) (Ac ad 71)) args s 0 0 (Ac ad 71)) (F0 m 80 ls []) := by
  obtain ⟨hx, hb, hml, hown, hts, hr, hlk⟩ := id C
  unfold X12_comes_80 at h
  refine lv_iconst (v := (0 : Int32)) hx hb dX12_comes_80 (by decide) ?_
  exact bX12_comes_81 C hI hK hN h (lv_sub hl [0, 1, 2, 3] rfl) hP hS
def X12_comes_36 (mb : Tmb)  (mc : Tmc) (mw : Tmw) (ml : Tml) (v1 : Int32) (v2 : Int32) (v3 : Int32) : Option (Tmc × Tmw × Tml) := (if ml.2.2.2.2.2.2.1 < (0 : Int64) then X12_comes_80 mb mc mw ml v1 v2 v3 else (if (1000000 : Int64) < ml.2.2.2.2.2.2.1 then X12_comes_80 mb mc mw ml v1 v2 v3 else (if ml.2.2.2.2.2.2.2.1 < (0 : Int64) then X12_comes_80 mb mc mw ml v1 v2 v3 else (if (1000000 : Int64) < ml.2.2.2.2.2.2.2.1 then X12_comes_80 mb mc mw ml v1 v2 v3 else X12_comes_81 mb mc mw ml v1 v2 v3 (1 : Int32)))))
set_option maxRecDepth 20000 in
theorem bX12_comes_36 (C : Cx p s m args meth c cX12_comes 6 none RX12 (.code yX12_comes cX12_comes 6 none)) (hI : Apart ad 71) (hK : va_K D vwCl (tysX cy) s) (hN : NW s)  {q : Tmc × Tmw × Tml}  {v1 : Int32} {v2 : Int32} {v3 : Int32} (h : X12_comes_36 mb mc mw ml v1 v2 v3 = some q) {ls : Array Slot} (hl : lv_has ls 6 [(0, .ref (ad 0)), (1, .int v1), (2, .int v2), (3, .int v3)]) {H : Heap} {locs : List Loc} (hP : va_P D vwCl (GM cy ad mt mc mb mo ms mk my mu ma me mr mp mg mw mf ml mq) H) (hS : va_S (Ac ad 71) s.heap H locs) : W p l e ({ frames := 1, cells := 0, slots := 0, locals := 22 } : Room) s m args below meth c H locs 0 0 (MQ below (QR none D (GM cy ad mt q.1 mb mo ms mk my mu ma me mr mp mg q.2.1 mf q.2.2 mq) (Ac ad 71)) args s 0 0 (Ac ad 71)) (F0 m 36 ls []) := by
  obtain ⟨hx, hb, hml, hown, hts, hr, hlk⟩ := id C
  unfold X12_comes_36 at h
  refine lv_aload_n hx hb dX12_comes_36 rfl (lv_at hl 0 rfl) ?_
  refine gM0_85 (v := ml.2.2.2.2.2.2.1) C hK hP rfl w1452 dX12_comes_37 ?_
  refine lv_lconst (v := (0 : Int64)) hx hb dX12_comes_40 (by decide) ?_
  refine lc_lt (tgt := 80) hx hb dX12_comes_41 dX12_comes_42 (by decide) (fun c1 => ?_) (fun c1 => ?_)
  · rw [if_pos c1] at h
    exact bX12_comes_80 C hI hK hN h (lv_sub hl [0, 1, 2, 3] rfl) hP hS
  · rw [if_neg c1] at h
    refine lv_aload_n hx hb dX12_comes_45 rfl (lv_at hl 0 rfl) ?_
    refine gM0_85 (v := ml.2.2.2.2.2.2.1) C hK hP rfl w1452 dX12_comes_46 ?_
    refine lv_ldc2 (v := (1000000 : Int64)) hx hb hown (hts _ (List.mem_cons_of_mem _ w1869)) dX12_comes_49 ?_
    refine lc_gt (tgt := 80) hx hb dX12_comes_52 dX12_comes_53 (by decide) (fun c2 => ?_) (fun c2 => ?_)
    · rw [if_pos c2] at h
      exact bX12_comes_80 C hI hK hN h (lv_sub hl [0, 1, 2, 3] rfl) hP hS
    · rw [if_neg c2] at h
      refine lv_aload_n hx hb dX12_comes_56 rfl (lv_at hl 0 rfl) ?_
      refine gM0_86 (v := ml.2.2.2.2.2.2.2.1) C hK hP rfl w1453 dX12_comes_57 ?_
      refine lv_lconst (v := (0 : Int64)) hx hb dX12_comes_60 (by decide) ?_
      refine lc_lt (tgt := 80) hx hb dX12_comes_61 dX12_comes_62 (by decide) (fun c3 => ?_) (fun c3 => ?_)
      · rw [if_pos c3] at h
        exact bX12_comes_80 C hI hK hN h (lv_sub hl [0, 1, 2, 3] rfl) hP hS
      · rw [if_neg c3] at h
        refine lv_aload_n hx hb dX12_comes_65 rfl (lv_at hl 0 rfl) ?_
        refine gM0_86 (v := ml.2.2.2.2.2.2.2.1) C hK hP rfl w1453 dX12_comes_66 ?_
        refine lv_ldc2 (v := (1000000 : Int64)) hx hb hown (hts _ (List.mem_cons_of_mem _ w1869)) dX12_comes_69 ?_
        refine lc_gt (tgt := 80) hx hb dX12_comes_72 dX12_comes_73 (by decide) (fun c4 => ?_) (fun c4 => ?_)
        · rw [if_pos c4] at h
          exact bX12_comes_80 C hI hK hN h (lv_sub hl [0, 1, 2, 3] rfl) hP hS
        · rw [if_neg c4] at h
          refine lv_iconst (v := (1 : Int32)) hx hb dX12_comes_76 (by decide) ?_
          refine lv_goto (tgt := 81) hx hb dX12_comes_77 (by decide) ?_
          exact bX12_comes_81 C hI hK hN h (lv_sub hl [0, 1, 2, 3] rfl) hP hS
def X12_comes (mc : Tmc) (mb : Tmb) (mw : Tmw) (ml : Tml) (v1 : Int32) (v2 : Int32) (v3 : Int32) : Option (Tmc × Tmw × Tml) := (if (X12_isRight mc) = 0 then some (mc, mw, ml) else (if ml.2.2.2.2.2.1 < (0 : Int64) then X12_comes_80 mb mc mw ml v1 v2 v3 else (if ml.2.2.2.2.2.2.2.2.2 = 0 then X12_comes_36 mb mc mw ml v1 v2 v3 else (if ml.2.2.2.2.2.1 < ml.2.2.2.2.2.2.2.2.1 then X12_comes_80 mb mc mw ml v1 v2 v3 else X12_comes_36 mb mc mw ml v1 v2 v3))))
set_option maxRecDepth 20000 in
theorem bX12_comes_0 (C : Cx p s m args meth c cX12_comes 6 none RX12 (.code yX12_comes cX12_comes 6 none)) (hI : Apart ad 71) (hK : va_K D vwCl (tysX cy) s) (hN : NW s)  {q : Tmc × Tmw × Tml}  {v1 : Int32} {v2 : Int32} {v3 : Int32} (h : X12_comes mc mb mw ml v1 v2 v3 = some q) {ls : Array Slot} (hl : lv_has ls 6 [(0, .ref (ad 0)), (1, .int v1), (2, .int v2), (3, .int v3)]) {H : Heap} {locs : List Loc} (hP : va_P D vwCl (GM cy ad mt mc mb mo ms mk my mu ma me mr mp mg mw mf ml mq) H) (hS : va_S (Ac ad 71) s.heap H locs) : W p l e ({ frames := 1, cells := 0, slots := 0, locals := 22 } : Room) s m args below meth c H locs 0 0 (MQ below (QR none D (GM cy ad mt q.1 mb mo ms mk my mu ma me mr mp mg q.2.1 mf q.2.2 mq) (Ac ad 71)) args s 0 0 (Ac ad 71)) (F0 m 0 ls []) := by
  obtain ⟨hx, hb, hml, hown, hts, hr, hlk⟩ := id C
  unfold X12_comes at h
  refine lv_aload_n hx hb dX12_comes_0 rfl (lv_at hl 0 rfl) ?_
  refine cPi (run_V (rest := []) C (kX12_isRight rfl) caX12_isRight w1682 ⟨rfl, rfl, Nat.le_of_ble_eq_true rfl, Nat.le_of_ble_eq_true rfl⟩ hK hN hP (rM0 hK hP) rfl hl.1 rfl (Nat.le_of_ble_eq_true rfl) dX12_comes_1 ⟨Nat.zero_le _, Nat.zero_le _⟩) ?_
  refine lv_if_ne (tgt := 8) hx hb dX12_comes_4 (by decide) (fun c1 => ?_) (fun c1 => ?_)
  · rw [if_neg c1] at h
    refine lv_aload_n hx hb dX12_comes_8 rfl (lv_at hl 0 rfl) ?_
    refine gM0_84 (v := ml.2.2.2.2.2.1) C hK hP rfl w1451 dX12_comes_9 ?_
    refine lv_lconst (v := (0 : Int64)) hx hb dX12_comes_12 (by decide) ?_
    refine lc_lt (tgt := 80) hx hb dX12_comes_13 dX12_comes_14 (by decide) (fun c2 => ?_) (fun c2 => ?_)
    · rw [if_pos c2] at h
      exact bX12_comes_80 C hI hK hN h (lv_sub hl [0, 1, 2, 3] rfl) hP hS
    · rw [if_neg c2] at h
      refine lv_aload_n hx hb dX12_comes_17 rfl (lv_at hl 0 rfl) ?_
      refine gM0_88 (v := ml.2.2.2.2.2.2.2.2.2) C hK hP rfl w1455 dX12_comes_18 ?_
      refine lv_if_eq (tgt := 36) hx hb dX12_comes_21 (by decide) (fun c3 => ?_) (fun c3 => ?_)
      · rw [if_pos c3] at h
        exact bX12_comes_36 C hI hK hN h (lv_sub hl [0, 1, 2, 3] rfl) hP hS
      · rw [if_neg c3] at h
        refine lv_aload_n hx hb dX12_comes_24 rfl (lv_at hl 0 rfl) ?_
        refine gM0_84 (v := ml.2.2.2.2.2.1) C hK hP rfl w1451 dX12_comes_25 ?_
        refine lv_aload_n hx hb dX12_comes_28 rfl (lv_at hl 0 rfl) ?_
        refine gM0_87 (v := ml.2.2.2.2.2.2.2.2.1) C hK hP rfl w1454 dX12_comes_29 ?_
        refine lc_lt (tgt := 80) hx hb dX12_comes_32 dX12_comes_33 (by decide) (fun c4 => ?_) (fun c4 => ?_)
        · rw [if_pos c4] at h
          exact bX12_comes_80 C hI hK hN h (lv_sub hl [0, 1, 2, 3] rfl) hP hS
        · rw [if_neg c4] at h
          exact bX12_comes_36 C hI hK hN h (lv_sub hl [0, 1, 2, 3] rfl) hP hS
  · rw [if_pos c1] at h
    obtain rfl := Option.some.inj h
    exact W.vret hx hb hr (fun t ht _ => ⟨rfl, by rw [ht]; exact hP, hS.F ht⟩) hS.2.2 dX12_comes_7 hlk
theorem kX12_comes (hI : Apart ad 71) {v1 : Int32} {v2 : Int32} {v3 : Int32} {q : Tmc × Tmw × Tml} (h : X12_comes mc mb mw ml v1 v2 v3 = some q) : Met l yX12_comes (.code yX12_comes cX12_comes 6 none :: WA) ({ frames := 1, cells := 0, slots := 0, locals := 22 } : Room) (va_Pc [.ref (ad 0), .int v1, .int v2, .int v3] (PR D cy (GM cy ad mt mc mb mo ms mk my mu ma me mr mp mg mw mf ml mq))) (QR none D (GM cy ad mt q.1 mb mo ms mk my mu ma me mr mp mg q.2.1 mf q.2.2 mq) (Ac ad 71)) 0 0 (Ac ad 71) :=
  met_of (by decide) (Nat.le_of_ble_eq_true rfl) (fun p e s m below meth c ls C hP hK hN hl => bX12_comes_0 C hI hK hN h hl hP va_S.rf)
def X12_extended_106 (mb : Tmb)  (mc : Tmc) (mw : Tmw) (ml : Tml) (v1 : Int32) (v2 : Int32) (v7 : Int32) : Option (Tmc × Tmw × Tml) := ((X12_comes mc mb mw ml v1 (1 : Int32) v2).bind fun q1 => some ((v7, q1.1.2.1, q1.1.2.2.1, q1.1.2.2.2), q1.2.1, q1.2.2))
set_option maxRecDepth 20000 in
theorem bX12_extended_106 (C : Cx p s m args meth c cX12_extended 8 none RX12 (.code yX12_extended cX12_extended 8 none)) (hI : Apart ad 71) (hK : va_K D vwCl (tysX cy) s) (hN : NW s)  {q : Tmc × Tmw × Tml}  {v1 : Int32} {v2 : Int32} {v7 : Int32} (h : X12_extended_106 mb mc mw ml v1 v2 v7 = some q) {ls : Array Slot} (hl : lv_has ls 8 [(0, .ref (ad 0)), (1, .int v1), (2, .int v2), (7, .int v7)]) {H : Heap} {locs : List Loc} (hP : va_P D vwCl (GM cy ad mt mc mb mo ms mk my mu ma me mr mp mg mw mf ml mq) H) (hS : va_S (Ac ad 71) s.heap H locs) : W p l e ({ frames := 3, cells := 0, slots := 0, locals := 69 } : Room) s m args below meth c H locs 0 0 (MQ below (QR none D (GM cy ad mt q.1 mb mo ms mk my mu ma me mr mp mg q.2.1 mf q.2.2 mq) (Ac ad 71)) args s 0 0 (Ac ad 71)) (F0 m 106 ls []) := by
  obtain ⟨hx, hb, hml, hown, hts, hr, hlk⟩ := id C
  unfold X12_extended_106 at h
  refine lv_aload_n hx hb dX12_extended_106 rfl (lv_at hl 0 rfl) ?_
  refine lv_iload_n hx hb dX12_extended_107 rfl (lv_at hl 1 rfl) ?_
  refine lv_iconst (v := (1 : Int32)) hx hb dX12_extended_108 (by decide) ?_
  refine lv_iload_n hx hb dX12_extended_109 rfl (lv_at hl 2 rfl) ?_
  obtain ⟨q1, h2, h⟩ := bnd h
  refine cRv (run_V (rest := []) C (kX12_comes hI h2) caX12_comes w1865 ⟨rfl, rfl, Nat.le_of_ble_eq_true rfl, Nat.le_of_ble_eq_true rfl⟩ hK hN hP (rM0 hK hP) rfl hl.1 rfl (Nat.le_of_ble_eq_true rfl) dX12_extended_110 ⟨Nat.zero_le _, Nat.zero_le _⟩) hS (fun H locs hP hS => ?_)
  have hP : va_P D vwCl (GM cy ad mt q1.1 mb mo ms mk my mu ma me mr mp mg q1.2.1 mf q1.2.2 mq) H := hP
  refine lv_goto (tgt := 156) hx hb dX12_extended_113 (by decide) ?_
  refine lv_aload_n hx hb dX12_extended_156 rfl (lv_at hl 0 rfl) ?_
  refine lv_iload hx hb dX12_extended_157 (lv_at hl 3 rfl) ?_
  refine pM0_77 (v := v7) C hI hK hP hS w1444 dX12_extended_159 (fun H locs hP hS => ?_)
  have hP : va_P D vwCl (GM cy ad mt (v7, q1.1.2.1, q1.1.2.2.1, q1.1.2.2.2) mb mo ms mk my mu ma me mr mp mg q1.2.1 mf q1.2.2 mq) H := hP
  obtain rfl := Option.some.inj h
  exact W.vret hx hb hr (fun t ht _ => ⟨rfl, by rw [ht]; exact hP, hS.F ht⟩) hS.2.2 dX12_extended_162 hlk
def X12_extended_59 (mb : Tmb)  (mc : Tmc) (mw : Tmw) (ml : Tml) (v1 : Int32) (v2 : Int32) (v4 : Int64) : Option (Tmc × Tmw × Tml) := (if (X12_isRight mc) = 0 then some (mc, mw, ml) else ((X12_byteOf mb mc.1).bind fun q2 => (if q2 = (1 : Int32) then (if v4 = (1 : Int64) then X12_extended_106 mb mc mw ml v1 v2 (mc.1 + ((v4).toInt32)) else (letq (X12_fail mc (2 : Int32) v2) fun q12 => X12_extended_106 mb q12 mw ml v1 v2 (mc.1 + ((v4).toInt32)))) else (if q2 = (2 : Int32) then (if v4 = (9 : Int64) then ((X12_numberAt mb (mc.1 + (1 : Int32)) (8 : Int32)).bind fun q7 => some (((mc.1 + ((v4).toInt32)), mc.2.1, mc.2.2.1, mc.2.2.2), mw, (ml.1, ml.2.1, ml.2.2.1, ml.2.2.2.1, ml.2.2.2.2.1, q7, ml.2.2.2.2.2.2.1, ml.2.2.2.2.2.2.2.1, ml.2.2.2.2.2.2.2.2.1, ml.2.2.2.2.2.2.2.2.2))) else (letq (X12_fail mc (2 : Int32) v2) fun q9 => some (((mc.1 + ((v4).toInt32)), q9.2.1, q9.2.2.1, q9.2.2.2), mw, ml))) else some (((mc.1 + ((v4).toInt32)), mc.2.1, mc.2.2.1, mc.2.2.2), mw, ml)))))
set_option maxRecDepth 20000 in
theorem bX12_extended_59 (C : Cx p s m args meth c cX12_extended 8 none RX12 (.code yX12_extended cX12_extended 8 none)) (hI : Apart ad 71) (hK : va_K D vwCl (tysX cy) s) (hN : NW s)  {q : Tmc × Tmw × Tml}  {v1 : Int32} {v2 : Int32} {v4 : Int64} (h : X12_extended_59 mb mc mw ml v1 v2 v4 = some q) {ls : Array Slot} (hl : lv_has ls 8 [(0, .ref (ad 0)), (1, .int v1), (2, .int v2), (4, .long v4)]) {H : Heap} {locs : List Loc} (hP : va_P D vwCl (GM cy ad mt mc mb mo ms mk my mu ma me mr mp mg mw mf ml mq) H) (hS : va_S (Ac ad 71) s.heap H locs) : W p l e ({ frames := 3, cells := 0, slots := 0, locals := 69 } : Room) s m args below meth c H locs 0 0 (MQ below (QR none D (GM cy ad mt q.1 mb mo ms mk my mu ma me mr mp mg q.2.1 mf q.2.2 mq) (Ac ad 71)) args s 0 0 (Ac ad 71)) (F0 m 59 ls []) := by
  obtain ⟨hx, hb, hml, hown, hts, hr, hlk⟩ := id C
  unfold X12_extended_59 at h
  refine lv_aload_n hx hb dX12_extended_59 rfl (lv_at hl 0 rfl) ?_
  refine cPi (run_V (rest := []) C (kX12_isRight rfl) caX12_isRight w1682 ⟨rfl, rfl, Nat.le_of_ble_eq_true rfl, Nat.le_of_ble_eq_true rfl⟩ hK hN hP (rM0 hK hP) rfl hl.1 rfl (Nat.le_of_ble_eq_true rfl) dX12_extended_60 ⟨Nat.zero_le _, Nat.zero_le _⟩) ?_
  refine lv_if_ne (tgt := 67) hx hb dX12_extended_63 (by decide) (fun c1 => ?_) (fun c1 => ?_)
  · rw [if_neg c1] at h
    refine lv_aload_n hx hb dX12_extended_67 rfl (lv_at hl 0 rfl) ?_
    refine lv_aload_n hx hb dX12_extended_68 rfl (lv_at hl 0 rfl) ?_
    refine gM0_77 (v := mc.1) C hK hP rfl w1444 dX12_extended_69 ?_
    obtain ⟨q2, h3, h⟩ := bnd h
    refine cPi (run_V (rest := []) C (kX12_byteOf h3) caX12_byteOf w1674 ⟨rfl, rfl, Nat.le_of_ble_eq_true rfl, Nat.le_of_ble_eq_true rfl⟩ hK hN hP (rM0 hK hP) rfl hl.1 rfl (Nat.le_of_ble_eq_true rfl) dX12_extended_72 ⟨Nat.zero_le _, Nat.zero_le _⟩) ?_
    refine lv_istore (lv' := [(6, .int q2), (0, .ref (ad 0)), (1, .int v1), (2, .int v2), (4, .long v4)]) hx hb dX12_extended_75 hl (by decide) rfl (fun ls hl => ?_)
    refine lv_aload_n hx hb dX12_extended_77 rfl (lv_at hl 1 rfl) ?_
    refine gM0_77 (v := mc.1) C hK hP rfl w1444 dX12_extended_78 ?_
    refine lv_lload hx hb dX12_extended_81 (lv_at hl 4 rfl) ?_
    refine lv_l2i (v := ((v4).toInt32)) hx hb dX12_extended_83 rfl ?_
    refine lv_iadd hx hb dX12_extended_84 ?_
    refine lv_istore (lv' := [(7, .int (mc.1 + ((v4).toInt32))), (6, .int q2), (0, .ref (ad 0)), (1, .int v1), (2, .int v2), (4, .long v4)]) hx hb dX12_extended_85 hl (by decide) rfl (fun ls hl => ?_)
    refine lv_iload hx hb dX12_extended_87 (lv_at hl 1 rfl) ?_
    refine lv_iconst (v := (1 : Int32)) hx hb dX12_extended_89 (by decide) ?_
    refine lv_icmp_ne (tgt := 116) hx hb dX12_extended_90 (by decide) (fun c4 => ?_) (fun c4 => ?_)
    · rw [if_neg c4] at h
      refine lv_iload hx hb dX12_extended_116 (lv_at hl 1 rfl) ?_
      refine lv_iconst (v := (2 : Int32)) hx hb dX12_extended_118 (by decide) ?_
      refine lv_icmp_ne (tgt := 156) hx hb dX12_extended_119 (by decide) (fun c5 => ?_) (fun c5 => ?_)
      · rw [if_neg c5] at h
        refine lv_aload_n hx hb dX12_extended_156 rfl (lv_at hl 2 rfl) ?_
        refine lv_iload hx hb dX12_extended_157 (lv_at hl 0 rfl) ?_
        refine pM0_77 (v := (mc.1 + ((v4).toInt32))) C hI hK hP hS w1444 dX12_extended_159 (fun H locs hP hS => ?_)
        have hP : va_P D vwCl (GM cy ad mt ((mc.1 + ((v4).toInt32)), mc.2.1, mc.2.2.1, mc.2.2.2) mb mo ms mk my mu ma me mr mp mg mw mf ml mq) H := hP
        obtain rfl := Option.some.inj h
        exact W.vret hx hb hr (fun t ht _ => ⟨rfl, by rw [ht]; exact hP, hS.F ht⟩) hS.2.2 dX12_extended_162 hlk
      · rw [if_pos c5] at h
        refine lv_lload hx hb dX12_extended_122 (lv_at hl 5 rfl) ?_
        refine lv_ldc2 (v := (9 : Int64)) hx hb hown (hts _ (List.mem_cons_of_mem _ w1874)) dX12_extended_124 ?_
        refine lc_eq (tgt := 140) hx hb dX12_extended_127 dX12_extended_128 (by decide) (fun c6 => ?_) (fun c6 => ?_)
        · rw [if_pos c6] at h
          refine lv_aload_n hx hb dX12_extended_140 rfl (lv_at hl 2 rfl) ?_
          refine lv_aload_n hx hb dX12_extended_141 rfl (lv_at hl 2 rfl) ?_
          refine lv_aload_n hx hb dX12_extended_142 rfl (lv_at hl 2 rfl) ?_
          refine gM0_77 (v := mc.1) C hK hP rfl w1444 dX12_extended_143 ?_
          refine lv_iconst (v := (1 : Int32)) hx hb dX12_extended_146 (by decide) ?_
          refine lv_iadd hx hb dX12_extended_147 ?_
          refine lv_bipush (v := (8 : Int32)) hx hb dX12_extended_148 (by decide) ?_
          obtain ⟨q7, h8, h⟩ := bnd h
          refine cPl (run_V (rest := [.ref (ad 0)]) C (kX12_numberAt h8) caX12_numberAt w1686 ⟨rfl, rfl, Nat.le_of_ble_eq_true rfl, Nat.le_of_ble_eq_true rfl⟩ hK hN hP (rM0 hK hP) rfl hl.1 rfl (Nat.le_of_ble_eq_true rfl) dX12_extended_150 ⟨Nat.zero_le _, Nat.zero_le _⟩) ?_
          refine pM0_84 (v := q7) C hI hK hP hS w1451 dX12_extended_153 (fun H locs hP hS => ?_)
          have hP : va_P D vwCl (GM cy ad mt mc mb mo ms mk my mu ma me mr mp mg mw mf (ml.1, ml.2.1, ml.2.2.1, ml.2.2.2.1, ml.2.2.2.2.1, q7, ml.2.2.2.2.2.2.1, ml.2.2.2.2.2.2.2.1, ml.2.2.2.2.2.2.2.2.1, ml.2.2.2.2.2.2.2.2.2) mq) H := hP
          refine lv_aload_n hx hb dX12_extended_156 rfl (lv_at hl 2 rfl) ?_
          refine lv_iload hx hb dX12_extended_157 (lv_at hl 0 rfl) ?_
          refine pM0_77 (v := (mc.1 + ((v4).toInt32))) C hI hK hP hS w1444 dX12_extended_159 (fun H locs hP hS => ?_)
          have hP : va_P D vwCl (GM cy ad mt ((mc.1 + ((v4).toInt32)), mc.2.1, mc.2.2.1, mc.2.2.2) mb mo ms mk my mu ma me mr mp mg mw mf (ml.1, ml.2.1, ml.2.2.1, ml.2.2.2.1, ml.2.2.2.2.1, q7, ml.2.2.2.2.2.2.1, ml.2.2.2.2.2.2.2.1, ml.2.2.2.2.2.2.2.2.1, ml.2.2.2.2.2.2.2.2.2) mq) H := hP
          obtain rfl := Option.some.inj h
          exact W.vret hx hb hr (fun t ht _ => ⟨rfl, by rw [ht]; exact hP, hS.F ht⟩) hS.2.2 dX12_extended_162 hlk
        · rw [if_neg c6] at h
          refine lv_aload_n hx hb dX12_extended_131 rfl (lv_at hl 2 rfl) ?_
          refine lv_iconst (v := (2 : Int32)) hx hb dX12_extended_132 (by decide) ?_
          refine lv_iload_n hx hb dX12_extended_133 rfl (lv_at hl 4 rfl) ?_
          obtain ⟨q9, h10, h⟩ := lets h
          refine cRv (run_V (rest := []) C (kX12_fail hI h10) caX12_fail w1678 ⟨rfl, rfl, Nat.le_of_ble_eq_true rfl, Nat.le_of_ble_eq_true rfl⟩ hK hN hP (rM0 hK hP) rfl hl.1 rfl (Nat.le_of_ble_eq_true rfl) dX12_extended_134 ⟨Nat.zero_le _, Nat.zero_le _⟩) hS (fun H locs hP hS => ?_)
          have hP : va_P D vwCl (GM cy ad mt q9 mb mo ms mk my mu ma me mr mp mg mw mf ml mq) H := hP
          refine lv_goto (tgt := 156) hx hb dX12_extended_137 (by decide) ?_
          refine lv_aload_n hx hb dX12_extended_156 rfl (lv_at hl 2 rfl) ?_
          refine lv_iload hx hb dX12_extended_157 (lv_at hl 0 rfl) ?_
          refine pM0_77 (v := (mc.1 + ((v4).toInt32))) C hI hK hP hS w1444 dX12_extended_159 (fun H locs hP hS => ?_)
          have hP : va_P D vwCl (GM cy ad mt ((mc.1 + ((v4).toInt32)), q9.2.1, q9.2.2.1, q9.2.2.2) mb mo ms mk my mu ma me mr mp mg mw mf ml mq) H := hP
          obtain rfl := Option.some.inj h
          exact W.vret hx hb hr (fun t ht _ => ⟨rfl, by rw [ht]; exact hP, hS.F ht⟩) hS.2.2 dX12_extended_162 hlk
    · rw [if_pos c4] at h
      refine lv_lload hx hb dX12_extended_93 (lv_at hl 5 rfl) ?_
      refine lv_lconst (v := (1 : Int64)) hx hb dX12_extended_95 (by decide) ?_
      refine lc_eq (tgt := 106) hx hb dX12_extended_96 dX12_extended_97 (by decide) (fun c11 => ?_) (fun c11 => ?_)
      · rw [if_pos c11] at h
        exact bX12_extended_106 C hI hK hN h (lv_sub hl [2, 3, 4, 0] rfl) hP hS
      · rw [if_neg c11] at h
        refine lv_aload_n hx hb dX12_extended_100 rfl (lv_at hl 2 rfl) ?_
        refine lv_iconst (v := (2 : Int32)) hx hb dX12_extended_101 (by decide) ?_
        refine lv_iload_n hx hb dX12_extended_102 rfl (lv_at hl 4 rfl) ?_
        obtain ⟨q12, h13, h⟩ := lets h
        refine cRv (run_V (rest := []) C (kX12_fail hI h13) caX12_fail w1678 ⟨rfl, rfl, Nat.le_of_ble_eq_true rfl, Nat.le_of_ble_eq_true rfl⟩ hK hN hP (rM0 hK hP) rfl hl.1 rfl (Nat.le_of_ble_eq_true rfl) dX12_extended_103 ⟨Nat.zero_le _, Nat.zero_le _⟩) hS (fun H locs hP hS => ?_)
        have hP : va_P D vwCl (GM cy ad mt q12 mb mo ms mk my mu ma me mr mp mg mw mf ml mq) H := hP
        exact bX12_extended_106 C hI hK hN h (lv_sub hl [2, 3, 4, 0] rfl) hP hS
  · rw [if_pos c1] at h
    obtain rfl := Option.some.inj h
    exact W.vret hx hb hr (fun t ht _ => ⟨rfl, by rw [ht]; exact hP, hS.F ht⟩) hS.2.2 dX12_extended_66 hlk
def X12_extended_53 (mb : Tmb)  (mc : Tmc) (mw : Tmw) (ml : Tml) (v1 : Int32) (v2 : Int32) (v4 : Int64) : Option (Tmc × Tmw × Tml) := (letq (X12_fail mc (1 : Int32) v2) fun q1 => X12_extended_59 mb q1 mw ml v1 v2 v4)
set_option maxRecDepth 20000 in
theorem bX12_extended_53 (C : Cx p s m args meth c cX12_extended 8 none RX12 (.code yX12_extended cX12_extended 8 none)) (hI : Apart ad 71) (hK : va_K D vwCl (tysX cy) s) (hN : NW s)  {q : Tmc × Tmw × Tml}  {v1 : Int32} {v2 : Int32} {v4 : Int64} (h : X12_extended_53 mb mc mw ml v1 v2 v4 = some q) {ls : Array Slot} (hl : lv_has ls 8 [(0, .ref (ad 0)), (1, .int v1), (2, .int v2), (4, .long v4)]) {H : Heap} {locs : List Loc} (hP : va_P D vwCl (GM cy ad mt mc mb mo ms mk my mu ma me mr mp mg mw mf ml mq) H) (hS : va_S (Ac ad 71) s.heap H locs) : W p l e ({ frames := 3, cells := 0, slots := 0, locals := 69 } : Room) s m args below meth c H locs 0 0 (MQ below (QR none D (GM cy ad mt q.1 mb mo ms mk my mu ma me mr mp mg q.2.1 mf q.2.2 mq) (Ac ad 71)) args s 0 0 (Ac ad 71)) (F0 m 53 ls []) := by
  obtain ⟨hx, hb, hml, hown, hts, hr, hlk⟩ := id C
  unfold X12_extended_53 at h
  refine lv_aload_n hx hb dX12_extended_53 rfl (lv_at hl 0 rfl) ?_
  refine lv_iconst (v := (1 : Int32)) hx hb dX12_extended_54 (by decide) ?_
  refine lv_iload_n hx hb dX12_extended_55 rfl (lv_at hl 2 rfl) ?_
  obtain ⟨q1, h2, h⟩ := lets h
  refine cRv (run_V (rest := []) C (kX12_fail hI h2) caX12_fail w1678 ⟨rfl, rfl, Nat.le_of_ble_eq_true rfl, Nat.le_of_ble_eq_true rfl⟩ hK hN hP (rM0 hK hP) rfl hl.1 rfl (Nat.le_of_ble_eq_true rfl) dX12_extended_56 ⟨Nat.zero_le _, Nat.zero_le _⟩) hS (fun H locs hP hS => ?_)
  have hP : va_P D vwCl (GM cy ad mt q1 mb mo ms mk my mu ma me mr mp mg mw mf ml mq) H := hP
  exact bX12_extended_59 C hI hK hN h (lv_sub hl [0, 1, 2, 3] rfl) hP hS
def X12_extended_26 (mb : Tmb)  (mc : Tmc) (mw : Tmw) (ml : Tml) (v1 : Int32) (v2 : Int32) (v3 : Int32) (v4 : Int64) : Option (Tmc × Tmw × Tml) := (if (X12_isRight mc) = 0 then X12_extended_59 mb mc mw ml v1 v2 v4 else (if v4 < (0 : Int64) then X12_extended_53 mb mc mw ml v1 v2 v4 else (if (((v3 - mc.1)).toInt64) < v4 then X12_extended_53 mb mc mw ml v1 v2 v4 else X12_extended_59 mb mc mw ml v1 v2 v4)))
set_option maxRecDepth 20000 in
theorem bX12_extended_26 (C : Cx p s m args meth c cX12_extended 8 none RX12 (.code yX12_extended cX12_extended 8 none)) (hI : Apart ad 71) (hK : va_K D vwCl (tysX cy) s) (hN : NW s)  {q : Tmc × Tmw × Tml}  {v1 : Int32} {v2 : Int32} {v3 : Int32} {v4 : Int64} (h : X12_extended_26 mb mc mw ml v1 v2 v3 v4 = some q) {ls : Array Slot} (hl : lv_has ls 8 [(0, .ref (ad 0)), (1, .int v1), (2, .int v2), (3, .int v3), (4, .long v4)]) {H : Heap} {locs : List Loc} (hP : va_P D vwCl (GM cy ad mt mc mb mo ms mk my mu ma me mr mp mg mw mf ml mq) H) (hS : va_S (Ac ad 71) s.heap H locs) : W p l e ({ frames := 3, cells := 0, slots := 0, locals := 69 } : Room) s m args below meth c H locs 0 0 (MQ below (QR none D (GM cy ad mt q.1 mb mo ms mk my mu ma me mr mp mg q.2.1 mf q.2.2 mq) (Ac ad 71)) args s 0 0 (Ac ad 71)) (F0 m 26 ls []) := by
  obtain ⟨hx, hb, hml, hown, hts, hr, hlk⟩ := id C
  unfold X12_extended_26 at h
  refine lv_aload_n hx hb dX12_extended_26 rfl (lv_at hl 0 rfl) ?_
  refine cPi (run_V (rest := []) C (kX12_isRight rfl) caX12_isRight w1682 ⟨rfl, rfl, Nat.le_of_ble_eq_true rfl, Nat.le_of_ble_eq_true rfl⟩ hK hN hP (rM0 hK hP) rfl hl.1 rfl (Nat.le_of_ble_eq_true rfl) dX12_extended_27 ⟨Nat.zero_le _, Nat.zero_le _⟩) ?_
  refine lv_if_eq (tgt := 59) hx hb dX12_extended_30 (by decide) (fun c1 => ?_) (fun c1 => ?_)
  · rw [if_pos c1] at h
    exact bX12_extended_59 C hI hK hN h (lv_sub hl [0, 1, 2, 4] rfl) hP hS
  · rw [if_neg c1] at h
    refine lv_lload hx hb dX12_extended_33 (lv_at hl 4 rfl) ?_
    refine lv_lconst (v := (0 : Int64)) hx hb dX12_extended_35 (by decide) ?_
    refine lc_lt (tgt := 53) hx hb dX12_extended_36 dX12_extended_37 (by decide) (fun c2 => ?_) (fun c2 => ?_)
    · rw [if_pos c2] at h
      exact bX12_extended_53 C hI hK hN h (lv_sub hl [0, 1, 2, 4] rfl) hP hS
    · rw [if_neg c2] at h
      refine lv_lload hx hb dX12_extended_40 (lv_at hl 4 rfl) ?_
      refine lv_iload_n hx hb dX12_extended_42 rfl (lv_at hl 3 rfl) ?_
      refine lv_aload_n hx hb dX12_extended_43 rfl (lv_at hl 0 rfl) ?_
      refine gM0_77 (v := mc.1) C hK hP rfl w1444 dX12_extended_44 ?_
      refine lv_isub hx hb dX12_extended_47 ?_
      refine lv_i2l (v := (((v3 - mc.1)).toInt64)) hx hb dX12_extended_48 rfl ?_
      refine lc_le (tgt := 59) hx hb dX12_extended_49 dX12_extended_50 (by decide) (fun c3 => ?_) (fun c3 => ?_)
      · rw [if_neg c3] at h
        exact bX12_extended_59 C hI hK hN h (lv_sub hl [0, 1, 2, 4] rfl) hP hS
      · rw [if_pos c3] at h
        exact bX12_extended_53 C hI hK hN h (lv_sub hl [0, 1, 2, 4] rfl) hP hS
def X12_extended (mc : Tmc) (mb : Tmb) (mw : Tmw) (ml : Tml) (v1 : Int32) (v2 : Int32) (v3 : Int32) : Option (Tmc × Tmw × Tml) := ((X12_uleb mc mb).bind fun q1 => (if (X12_isRight q1.2) = 0 then X12_extended_26 mb q1.2 mw ml v1 v2 v3 q1.1 else (if q1.1 = (0 : Int64) then (letq (X12_fail q1.2 (2 : Int32) v2) fun q5 => X12_extended_26 mb q5 mw ml v1 v2 v3 q1.1) else X12_extended_26 mb q1.2 mw ml v1 v2 v3 q1.1)))
set_option maxRecDepth 20000 in
theorem bX12_extended_0 (C : Cx p s m args meth c cX12_extended 8 none RX12 (.code yX12_extended cX12_extended 8 none)) (hI : Apart ad 71) (hK : va_K D vwCl (tysX cy) s) (hN : NW s)  {q : Tmc × Tmw × Tml}  {v1 : Int32} {v2 : Int32} {v3 : Int32} (h : X12_extended mc mb mw ml v1 v2 v3 = some q) {ls : Array Slot} (hl : lv_has ls 8 [(0, .ref (ad 0)), (1, .int v1), (2, .int v2), (3, .int v3)]) {H : Heap} {locs : List Loc} (hP : va_P D vwCl (GM cy ad mt mc mb mo ms mk my mu ma me mr mp mg mw mf ml mq) H) (hS : va_S (Ac ad 71) s.heap H locs) : W p l e ({ frames := 3, cells := 0, slots := 0, locals := 69 } : Room) s m args below meth c H locs 0 0 (MQ below (QR none D (GM cy ad mt q.1 mb mo ms mk my mu ma me mr mp mg q.2.1 mf q.2.2 mq) (Ac ad 71)) args s 0 0 (Ac ad 71)) (F0 m 0 ls []) := by
  obtain ⟨hx, hb, hml, hown, hts, hr, hlk⟩ := id C
  unfold X12_extended at h
  refine lv_aload_n hx hb dX12_extended_0 rfl (lv_at hl 0 rfl) ?_
  obtain ⟨q1, h2, h⟩ := bnd h
  refine cRl (run_V (rest := []) C (kX12_uleb hI h2) caX12_uleb w1741 ⟨rfl, rfl, Nat.le_of_ble_eq_true rfl, Nat.le_of_ble_eq_true rfl⟩ hK hN hP (rM0 hK hP) rfl hl.1 rfl (Nat.le_of_ble_eq_true rfl) dX12_extended_1 ⟨Nat.zero_le _, Nat.zero_le _⟩) hS (fun H locs hP hS => ?_)
  have hP : va_P D vwCl (GM cy ad mt q1.2 mb mo ms mk my mu ma me mr mp mg mw mf ml mq) H := hP
  refine lv_lstore (lv' := [(4, .long q1.1), (0, .ref (ad 0)), (1, .int v1), (2, .int v2), (3, .int v3)]) hx hb dX12_extended_4 hl (by decide) rfl (fun ls hl => ?_)
  refine lv_aload_n hx hb dX12_extended_6 rfl (lv_at hl 1 rfl) ?_
  refine cPi (run_V (rest := []) C (kX12_isRight rfl) caX12_isRight w1682 ⟨rfl, rfl, Nat.le_of_ble_eq_true rfl, Nat.le_of_ble_eq_true rfl⟩ hK hN hP (rM0 hK hP) rfl hl.1 rfl (Nat.le_of_ble_eq_true rfl) dX12_extended_7 ⟨Nat.zero_le _, Nat.zero_le _⟩) ?_
  refine lv_if_eq (tgt := 26) hx hb dX12_extended_10 (by decide) (fun c3 => ?_) (fun c3 => ?_)
  · rw [if_pos c3] at h
    exact bX12_extended_26 C hI hK hN h (lv_sub hl [1, 2, 3, 4, 0] rfl) hP hS
  · rw [if_neg c3] at h
    refine lv_lload hx hb dX12_extended_13 (lv_at hl 0 rfl) ?_
    refine lv_lconst (v := (0 : Int64)) hx hb dX12_extended_15 (by decide) ?_
    refine lc_ne (tgt := 26) hx hb dX12_extended_16 dX12_extended_17 (by decide) (fun c4 => ?_) (fun c4 => ?_)
    · rw [if_neg c4] at h
      exact bX12_extended_26 C hI hK hN h (lv_sub hl [1, 2, 3, 4, 0] rfl) hP hS
    · rw [if_pos c4] at h
      refine lv_aload_n hx hb dX12_extended_20 rfl (lv_at hl 1 rfl) ?_
      refine lv_iconst (v := (2 : Int32)) hx hb dX12_extended_21 (by decide) ?_
      refine lv_iload_n hx hb dX12_extended_22 rfl (lv_at hl 3 rfl) ?_
      obtain ⟨q5, h6, h⟩ := lets h
      refine cRv (run_V (rest := []) C (kX12_fail hI h6) caX12_fail w1678 ⟨rfl, rfl, Nat.le_of_ble_eq_true rfl, Nat.le_of_ble_eq_true rfl⟩ hK hN hP (rM0 hK hP) rfl hl.1 rfl (Nat.le_of_ble_eq_true rfl) dX12_extended_23 ⟨Nat.zero_le _, Nat.zero_le _⟩) hS (fun H locs hP hS => ?_)
      have hP : va_P D vwCl (GM cy ad mt q5 mb mo ms mk my mu ma me mr mp mg mw mf ml mq) H := hP
      exact bX12_extended_26 C hI hK hN h (lv_sub hl [1, 2, 3, 4, 0] rfl) hP hS
theorem kX12_extended (hI : Apart ad 71) {v1 : Int32} {v2 : Int32} {v3 : Int32} {q : Tmc × Tmw × Tml} (h : X12_extended mc mb mw ml v1 v2 v3 = some q) : Met l yX12_extended (.code yX12_extended cX12_extended 8 none :: WA) ({ frames := 3, cells := 0, slots := 0, locals := 69 } : Room) (va_Pc [.ref (ad 0), .int v1, .int v2, .int v3] (PR D cy (GM cy ad mt mc mb mo ms mk my mu ma me mr mp mg mw mf ml mq))) (QR none D (GM cy ad mt q.1 mb mo ms mk my mu ma me mr mp mg q.2.1 mf q.2.2 mq) (Ac ad 71)) 0 0 (Ac ad 71) :=
  met_of (by decide) (Nat.le_of_ble_eq_true rfl) (fun p e s m below meth c ls C hP hK hN hl => bX12_extended_0 C hI hK hN h hl hP va_S.rf)
def X12_standard_175b (mb : Tmb)  (k175 : Tmc → Tmw → Tml → Int32 → Int32 → Option (Tmc × Tmw × Tml)) (mc : Tmc) (mw : Tmw) (ml : Tml) (v2 : Int32) (v4 : Int32) : Option (Tmc × Tmw × Tml) := (if inb v2 20 = true then (if v4 < (ml.2.2.2.2.1 (v2).toNatClampNeg) then (if (X12_isRight mc) = 0 then some (mc, mw, ml) else ((X12_uleb mc mb).bind fun q4 => k175 q4.2 mw ml v2 (v4 + (1 : Int32)))) else some (mc, mw, ml)) else none)
def X12_standard_175 (mb : Tmb)  (n : Nat) (st : Tmc × Tmw × Tml × Int32 × Int32) : Option (Tmc × Tmw × Tml) := lp (fun rec st => X12_standard_175b mb  (fun a0 a1 a2 a3 a4 => rec (a0, a1, a2, a3, a4)) st.1 st.2.1 st.2.2.1 st.2.2.2.1 st.2.2.2.2) n st
set_option maxRecDepth 20000 in
theorem bX12_standard_175 (C : Cx p s m args meth c cX12_standard 5 none RX12 (.code yX12_standard cX12_standard 5 none)) (hI : Apart ad 71) (hK : va_K D vwCl (tysX cy) s) (hN : NW s)  {q : Tmc × Tmw × Tml}  : ∀ (n : Nat) {mc : Tmc} {mw : Tmw} {ml : Tml} {v2 : Int32} {v4 : Int32}, X12_standard_175 mb  n (mc, mw, ml, v2, v4) = some q → ∀ {ls : Array Slot}, lv_has ls 5 [(0, .ref (ad 0)), (2, .int v2), (4, .int v4)] → ∀ {H : Heap} {locs : List Loc}, va_P D vwCl (GM cy ad mt mc mb mo ms mk my mu ma me mr mp mg mw mf ml mq) H → va_S (Ac ad 71) s.heap H locs → W p l e ({ frames := 3, cells := 0, slots := 0, locals := 69 } : Room) s m args below meth c H locs 0 0 (MQ below (QR none D (GM cy ad mt q.1 mb mo ms mk my mu ma me mr mp mg q.2.1 mf q.2.2 mq) (Ac ad 71)) args s 0 0 (Ac ad 71)) (F0 m 175 ls []) := by
  obtain ⟨hx, hb, hml, hown, hts, hr, hlk⟩ := id C
  intro n
  induction n with
  | zero =>
    intro mc mw ml v2 v4 h ls hl H locs hP hS
    have h : (none : Option (Tmc × Tmw × Tml)) = some q := h
    cases h
  | succ n ih =>
    intro mc mw ml v2 v4 h ls hl H locs hP hS
    have h : X12_standard_175b mb  (fun a0 a1 a2 a3 a4 => X12_standard_175 mb  n (a0, a1, a2, a3, a4)) mc mw ml v2 v4 = some q := h
    unfold X12_standard_175b at h
    refine lv_iload hx hb dX12_standard_175 (lv_at hl 2 rfl) ?_
    refine lv_aload_n hx hb dX12_standard_177 rfl (lv_at hl 0 rfl) ?_
    refine gM0_83 C hK hP w1450 dX12_standard_178 ?_
    refine lv_iload_n hx hb dX12_standard_181 rfl (lv_at hl 1 rfl) ?_
    obtain ⟨n1, h⟩ := grd h
    refine aM67 (f := ml.2.2.2.2.1) C hK hP rfl n1 dX12_standard_182 ?_
    refine b_icmp_ge (tgt := 204) hx hb dX12_standard_183 (by decide) (fun c2 => ?_) (fun c2 => ?_)
    · rw [if_neg c2] at h
      obtain rfl := Option.some.inj h
      exact W.vret hx hb hr (fun t ht _ => ⟨rfl, by rw [ht]; exact hP, hS.F ht⟩) hS.2.2 dX12_standard_204 hlk
    · rw [if_pos c2] at h
      refine lv_aload_n hx hb dX12_standard_186 rfl (lv_at hl 0 rfl) ?_
      refine cPi (run_V (rest := []) C (kX12_isRight rfl) caX12_isRight w1682 ⟨rfl, rfl, Nat.le_of_ble_eq_true rfl, Nat.le_of_ble_eq_true rfl⟩ hK hN hP (rM0 hK hP) rfl hl.1 rfl (Nat.le_of_ble_eq_true rfl) dX12_standard_187 ⟨Nat.zero_le _, Nat.zero_le _⟩) ?_
      refine lv_if_eq (tgt := 204) hx hb dX12_standard_190 (by decide) (fun c3 => ?_) (fun c3 => ?_)
      · rw [if_pos c3] at h
        obtain rfl := Option.some.inj h
        exact W.vret hx hb hr (fun t ht _ => ⟨rfl, by rw [ht]; exact hP, hS.F ht⟩) hS.2.2 dX12_standard_204 hlk
      · rw [if_neg c3] at h
        refine lv_aload_n hx hb dX12_standard_193 rfl (lv_at hl 0 rfl) ?_
        obtain ⟨q4, h5, h⟩ := bnd h
        refine cRl (run_V (rest := []) C (kX12_uleb hI h5) caX12_uleb w1741 ⟨rfl, rfl, Nat.le_of_ble_eq_true rfl, Nat.le_of_ble_eq_true rfl⟩ hK hN hP (rM0 hK hP) rfl hl.1 rfl (Nat.le_of_ble_eq_true rfl) dX12_standard_194 ⟨Nat.zero_le _, Nat.zero_le _⟩) hS (fun H locs hP hS => ?_)
        have hP : va_P D vwCl (GM cy ad mt q4.2 mb mo ms mk my mu ma me mr mp mg mw mf ml mq) H := hP
        refine lv_pop2_2 hx hb dX12_standard_197 rfl ?_
        refine lv_iinc (v := (v4 + (1 : Int32))) (lv' := [(4, .int (v4 + (1 : Int32))), (0, .ref (ad 0)), (2, .int v2)]) hx hb dX12_standard_198 hl (k := 2) rfl rfl (by decide) rfl (fun ls hl => ?_)
        refine lv_goto (tgt := 175) hx hb dX12_standard_201 (by decide) ?_
        exact ih h (lv_sub hl [1, 2, 0] rfl) hP hS
def X12_standard (mc : Tmc) (mb : Tmb) (mw : Tmw) (ml : Tml) (v1 : Int32) (v2 : Int32) (v3 : Int32) : Option (Tmc × Tmw × Tml) := (if v2 = (1 : Int32) then ((X12_comes mc mb mw ml v1 (0 : Int32) v3).bind fun q2 => some (q2.1, q2.2.1, q2.2.2)) else (if v2 = (2 : Int32) then ((X12_uleb mc mb).bind fun q5 => some (q5.2, mw, (ml.1, ml.2.1, ml.2.2.1, ml.2.2.2.1, ml.2.2.2.2.1, (ml.2.2.2.2.2.1 + (((ml.1).toInt64) * q5.1)), ml.2.2.2.2.2.2.1, ml.2.2.2.2.2.2.2.1, ml.2.2.2.2.2.2.2.2.1, ml.2.2.2.2.2.2.2.2.2))) else (if v2 = (3 : Int32) then ((X12_leb mc mb (1 : Int32)).bind fun q8 => some (q8.2, mw, (ml.1, ml.2.1, ml.2.2.1, ml.2.2.2.1, ml.2.2.2.2.1, ml.2.2.2.2.2.1, ml.2.2.2.2.2.2.1, (ml.2.2.2.2.2.2.2.1 + q8.1), ml.2.2.2.2.2.2.2.2.1, ml.2.2.2.2.2.2.2.2.2))) else (if v2 = (4 : Int32) then ((X12_uleb mc mb).bind fun q11 => some (q11.2, mw, (ml.1, ml.2.1, ml.2.2.1, ml.2.2.2.1, ml.2.2.2.2.1, ml.2.2.2.2.2.1, q11.1, ml.2.2.2.2.2.2.2.1, ml.2.2.2.2.2.2.2.2.1, ml.2.2.2.2.2.2.2.2.2))) else (if v2 = (5 : Int32) then ((X12_uleb mc mb).bind fun q14 => some (q14.2, mw, ml)) else (if v2 = (6 : Int32) then some (mc, mw, ml) else (if v2 = (7 : Int32) then some (mc, mw, ml) else (if v2 = (8 : Int32) then (if nz ml.2.2.1 = true then some (mc, mw, (ml.1, ml.2.1, ml.2.2.1, ml.2.2.2.1, ml.2.2.2.2.1, (ml.2.2.2.2.2.1 + (((ml.1).toInt64) * (((((255 : Int32) - ml.2.2.2.1) / ml.2.2.1)).toInt64))), ml.2.2.2.2.2.2.1, ml.2.2.2.2.2.2.2.1, ml.2.2.2.2.2.2.2.2.1, ml.2.2.2.2.2.2.2.2.2)) else none) else (if v2 = (9 : Int32) then ((X12_number mc mb (2 : Int32)).bind fun q21 => some (q21.2, mw, (ml.1, ml.2.1, ml.2.2.1, ml.2.2.2.1, ml.2.2.2.2.1, (ml.2.2.2.2.2.1 + q21.1), ml.2.2.2.2.2.2.1, ml.2.2.2.2.2.2.2.1, ml.2.2.2.2.2.2.2.2.1, ml.2.2.2.2.2.2.2.2.2))) else X12_standard_175 mb FU (mc, mw, ml, v2, (0 : Int32)))))))))))
set_option maxRecDepth 20000 in
theorem bX12_standard_0 (C : Cx p s m args meth c cX12_standard 5 none RX12 (.code yX12_standard cX12_standard 5 none)) (hI : Apart ad 71) (hK : va_K D vwCl (tysX cy) s) (hN : NW s)  {q : Tmc × Tmw × Tml}  {v1 : Int32} {v2 : Int32} {v3 : Int32} (h : X12_standard mc mb mw ml v1 v2 v3 = some q) {ls : Array Slot} (hl : lv_has ls 5 [(0, .ref (ad 0)), (1, .int v1), (2, .int v2), (3, .int v3)]) {H : Heap} {locs : List Loc} (hP : va_P D vwCl (GM cy ad mt mc mb mo ms mk my mu ma me mr mp mg mw mf ml mq) H) (hS : va_S (Ac ad 71) s.heap H locs) : W p l e ({ frames := 3, cells := 0, slots := 0, locals := 69 } : Room) s m args below meth c H locs 0 0 (MQ below (QR none D (GM cy ad mt q.1 mb mo ms mk my mu ma me mr mp mg q.2.1 mf q.2.2 mq) (Ac ad 71)) args s 0 0 (Ac ad 71)) (F0 m 0 ls []) := by
  obtain ⟨hx, hb, hml, hown, hts, hr, hlk⟩ := id C
  unfold X12_standard at h
  refine lv_iload_n hx hb dX12_standard_0 rfl (lv_at hl 2 rfl) ?_
  by_cases c1 : v2 = (1 : Int32)
  · rw [if_pos c1] at h
    rw [c1]
    refine lv_tableIn (off := 51) (tgt := 52) hx hb dX12_standard_1 (by decide) (by decide) (by decide) (by decide) ?_
    refine lv_aload_n hx hb dX12_standard_52 rfl (lv_at hl 0 rfl) ?_
    refine lv_iload_n hx hb dX12_standard_53 rfl (lv_at hl 1 rfl) ?_
    refine lv_iconst (v := (0 : Int32)) hx hb dX12_standard_54 (by decide) ?_
    refine lv_iload_n hx hb dX12_standard_55 rfl (lv_at hl 3 rfl) ?_
    obtain ⟨q2, h3, h⟩ := bnd h
    refine cRv (run_V (rest := []) C (kX12_comes hI h3) caX12_comes w1865 ⟨rfl, rfl, Nat.le_of_ble_eq_true rfl, Nat.le_of_ble_eq_true rfl⟩ hK hN hP (rM0 hK hP) rfl hl.1 rfl (Nat.le_of_ble_eq_true rfl) dX12_standard_56 ⟨Nat.zero_le _, Nat.zero_le _⟩) hS (fun H locs hP hS => ?_)
    have hP : va_P D vwCl (GM cy ad mt q2.1 mb mo ms mk my mu ma me mr mp mg q2.2.1 mf q2.2.2 mq) H := hP
    refine lv_goto (tgt := 204) hx hb dX12_standard_59 (by decide) ?_
    obtain rfl := Option.some.inj h
    exact W.vret hx hb hr (fun t ht _ => ⟨rfl, by rw [ht]; exact hP, hS.F ht⟩) hS.2.2 dX12_standard_204 hlk
  rw [if_neg c1] at h
  by_cases c4 : v2 = (2 : Int32)
  · rw [if_pos c4] at h
    rw [c4]
    refine lv_tableIn (off := 61) (tgt := 62) hx hb dX12_standard_1 (by decide) (by decide) (by decide) (by decide) ?_
    refine lv_aload_n hx hb dX12_standard_62 rfl (lv_at hl 0 rfl) ?_
    refine lv_dup hx hb dX12_standard_63 rfl ?_
    refine gM0_84 (v := ml.2.2.2.2.2.1) C hK hP rfl w1451 dX12_standard_64 ?_
    refine lv_aload_n hx hb dX12_standard_67 rfl (lv_at hl 0 rfl) ?_
    refine gM0_79 (v := ml.1) C hK hP rfl w1446 dX12_standard_68 ?_
    refine lv_i2l (v := ((ml.1).toInt64)) hx hb dX12_standard_71 rfl ?_
    refine lv_aload_n hx hb dX12_standard_72 rfl (lv_at hl 0 rfl) ?_
    obtain ⟨q5, h6, h⟩ := bnd h
    refine cRl (run_V (rest := [.long ((ml.1).toInt64), .long ml.2.2.2.2.2.1, .ref (ad 0)]) C (kX12_uleb hI h6) caX12_uleb w1741 ⟨rfl, rfl, Nat.le_of_ble_eq_true rfl, Nat.le_of_ble_eq_true rfl⟩ hK hN hP (rM0 hK hP) rfl hl.1 rfl (Nat.le_of_ble_eq_true rfl) dX12_standard_73 ⟨Nat.zero_le _, Nat.zero_le _⟩) hS (fun H locs hP hS => ?_)
    have hP : va_P D vwCl (GM cy ad mt q5.2 mb mo ms mk my mu ma me mr mp mg mw mf ml mq) H := hP
    refine lv_lmul hx hb dX12_standard_76 ?_
    refine lv_ladd hx hb dX12_standard_77 ?_
    refine pM0_84 (v := (ml.2.2.2.2.2.1 + (((ml.1).toInt64) * q5.1))) C hI hK hP hS w1451 dX12_standard_78 (fun H locs hP hS => ?_)
    have hP : va_P D vwCl (GM cy ad mt q5.2 mb mo ms mk my mu ma me mr mp mg mw mf (ml.1, ml.2.1, ml.2.2.1, ml.2.2.2.1, ml.2.2.2.2.1, (ml.2.2.2.2.2.1 + (((ml.1).toInt64) * q5.1)), ml.2.2.2.2.2.2.1, ml.2.2.2.2.2.2.2.1, ml.2.2.2.2.2.2.2.2.1, ml.2.2.2.2.2.2.2.2.2) mq) H := hP
    refine lv_goto (tgt := 204) hx hb dX12_standard_81 (by decide) ?_
    obtain rfl := Option.some.inj h
    exact W.vret hx hb hr (fun t ht _ => ⟨rfl, by rw [ht]; exact hP, hS.F ht⟩) hS.2.2 dX12_standard_204 hlk
  rw [if_neg c4] at h
  by_cases c7 : v2 = (3 : Int32)
  · rw [if_pos c7] at h
    rw [c7]
    refine lv_tableIn (off := 83) (tgt := 84) hx hb dX12_standard_1 (by decide) (by decide) (by decide) (by decide) ?_
    refine lv_aload_n hx hb dX12_standard_84 rfl (lv_at hl 0 rfl) ?_
    refine lv_dup hx hb dX12_standard_85 rfl ?_
    refine gM0_86 (v := ml.2.2.2.2.2.2.2.1) C hK hP rfl w1453 dX12_standard_86 ?_
    refine lv_aload_n hx hb dX12_standard_89 rfl (lv_at hl 0 rfl) ?_
    refine lv_iconst (v := (1 : Int32)) hx hb dX12_standard_90 (by decide) ?_
    obtain ⟨q8, h9, h⟩ := bnd h
    refine cRl (run_V (rest := [.long ml.2.2.2.2.2.2.2.1, .ref (ad 0)]) C (kX12_leb hI h9) caX12_leb w1745 ⟨rfl, rfl, Nat.le_of_ble_eq_true rfl, Nat.le_of_ble_eq_true rfl⟩ hK hN hP (rM0 hK hP) rfl hl.1 rfl (Nat.le_of_ble_eq_true rfl) dX12_standard_91 ⟨Nat.zero_le _, Nat.zero_le _⟩) hS (fun H locs hP hS => ?_)
    have hP : va_P D vwCl (GM cy ad mt q8.2 mb mo ms mk my mu ma me mr mp mg mw mf ml mq) H := hP
    refine lv_ladd hx hb dX12_standard_94 ?_
    refine pM0_86 (v := (ml.2.2.2.2.2.2.2.1 + q8.1)) C hI hK hP hS w1453 dX12_standard_95 (fun H locs hP hS => ?_)
    have hP : va_P D vwCl (GM cy ad mt q8.2 mb mo ms mk my mu ma me mr mp mg mw mf (ml.1, ml.2.1, ml.2.2.1, ml.2.2.2.1, ml.2.2.2.2.1, ml.2.2.2.2.2.1, ml.2.2.2.2.2.2.1, (ml.2.2.2.2.2.2.2.1 + q8.1), ml.2.2.2.2.2.2.2.2.1, ml.2.2.2.2.2.2.2.2.2) mq) H := hP
    refine lv_goto (tgt := 204) hx hb dX12_standard_98 (by decide) ?_
    obtain rfl := Option.some.inj h
    exact W.vret hx hb hr (fun t ht _ => ⟨rfl, by rw [ht]; exact hP, hS.F ht⟩) hS.2.2 dX12_standard_204 hlk
  rw [if_neg c7] at h
  by_cases c10 : v2 = (4 : Int32)
  · rw [if_pos c10] at h
    rw [c10]
    refine lv_tableIn (off := 100) (tgt := 101) hx hb dX12_standard_1 (by decide) (by decide) (by decide) (by decide) ?_
    refine lv_aload_n hx hb dX12_standard_101 rfl (lv_at hl 0 rfl) ?_
    refine lv_aload_n hx hb dX12_standard_102 rfl (lv_at hl 0 rfl) ?_
    obtain ⟨q11, h12, h⟩ := bnd h
    refine cRl (run_V (rest := [.ref (ad 0)]) C (kX12_uleb hI h12) caX12_uleb w1741 ⟨rfl, rfl, Nat.le_of_ble_eq_true rfl, Nat.le_of_ble_eq_true rfl⟩ hK hN hP (rM0 hK hP) rfl hl.1 rfl (Nat.le_of_ble_eq_true rfl) dX12_standard_103 ⟨Nat.zero_le _, Nat.zero_le _⟩) hS (fun H locs hP hS => ?_)
    have hP : va_P D vwCl (GM cy ad mt q11.2 mb mo ms mk my mu ma me mr mp mg mw mf ml mq) H := hP
    refine pM0_85 (v := q11.1) C hI hK hP hS w1452 dX12_standard_106 (fun H locs hP hS => ?_)
    have hP : va_P D vwCl (GM cy ad mt q11.2 mb mo ms mk my mu ma me mr mp mg mw mf (ml.1, ml.2.1, ml.2.2.1, ml.2.2.2.1, ml.2.2.2.2.1, ml.2.2.2.2.2.1, q11.1, ml.2.2.2.2.2.2.2.1, ml.2.2.2.2.2.2.2.2.1, ml.2.2.2.2.2.2.2.2.2) mq) H := hP
    refine lv_goto (tgt := 204) hx hb dX12_standard_109 (by decide) ?_
    obtain rfl := Option.some.inj h
    exact W.vret hx hb hr (fun t ht _ => ⟨rfl, by rw [ht]; exact hP, hS.F ht⟩) hS.2.2 dX12_standard_204 hlk
  rw [if_neg c10] at h
  by_cases c13 : v2 = (5 : Int32)
  · rw [if_pos c13] at h
    rw [c13]
    refine lv_tableIn (off := 111) (tgt := 112) hx hb dX12_standard_1 (by decide) (by decide) (by decide) (by decide) ?_
    refine lv_aload_n hx hb dX12_standard_112 rfl (lv_at hl 0 rfl) ?_
    obtain ⟨q14, h15, h⟩ := bnd h
    refine cRl (run_V (rest := []) C (kX12_uleb hI h15) caX12_uleb w1741 ⟨rfl, rfl, Nat.le_of_ble_eq_true rfl, Nat.le_of_ble_eq_true rfl⟩ hK hN hP (rM0 hK hP) rfl hl.1 rfl (Nat.le_of_ble_eq_true rfl) dX12_standard_113 ⟨Nat.zero_le _, Nat.zero_le _⟩) hS (fun H locs hP hS => ?_)
    have hP : va_P D vwCl (GM cy ad mt q14.2 mb mo ms mk my mu ma me mr mp mg mw mf ml mq) H := hP
    refine lv_pop2_2 hx hb dX12_standard_116 rfl ?_
    refine lv_goto (tgt := 204) hx hb dX12_standard_117 (by decide) ?_
    obtain rfl := Option.some.inj h
    exact W.vret hx hb hr (fun t ht _ => ⟨rfl, by rw [ht]; exact hP, hS.F ht⟩) hS.2.2 dX12_standard_204 hlk
  rw [if_neg c13] at h
  by_cases c16 : v2 = (6 : Int32)
  · rw [if_pos c16] at h
    rw [c16]
    refine lv_tableIn (off := 119) (tgt := 120) hx hb dX12_standard_1 (by decide) (by decide) (by decide) (by decide) ?_
    refine lv_goto (tgt := 204) hx hb dX12_standard_120 (by decide) ?_
    obtain rfl := Option.some.inj h
    exact W.vret hx hb hr (fun t ht _ => ⟨rfl, by rw [ht]; exact hP, hS.F ht⟩) hS.2.2 dX12_standard_204 hlk
  rw [if_neg c16] at h
  by_cases c17 : v2 = (7 : Int32)
  · rw [if_pos c17] at h
    rw [c17]
    refine lv_tableIn (off := 119) (tgt := 120) hx hb dX12_standard_1 (by decide) (by decide) (by decide) (by decide) ?_
    refine lv_goto (tgt := 204) hx hb dX12_standard_120 (by decide) ?_
    obtain rfl := Option.some.inj h
    exact W.vret hx hb hr (fun t ht _ => ⟨rfl, by rw [ht]; exact hP, hS.F ht⟩) hS.2.2 dX12_standard_204 hlk
  rw [if_neg c17] at h
  by_cases c18 : v2 = (8 : Int32)
  · rw [if_pos c18] at h
    rw [c18]
    refine lv_tableIn (off := 122) (tgt := 123) hx hb dX12_standard_1 (by decide) (by decide) (by decide) (by decide) ?_
    refine lv_aload_n hx hb dX12_standard_123 rfl (lv_at hl 0 rfl) ?_
    refine lv_dup hx hb dX12_standard_124 rfl ?_
    refine gM0_84 (v := ml.2.2.2.2.2.1) C hK hP rfl w1451 dX12_standard_125 ?_
    refine lv_aload_n hx hb dX12_standard_128 rfl (lv_at hl 0 rfl) ?_
    refine gM0_79 (v := ml.1) C hK hP rfl w1446 dX12_standard_129 ?_
    refine lv_i2l (v := ((ml.1).toInt64)) hx hb dX12_standard_132 rfl ?_
    refine lv_sipush (v := (255 : Int32)) hx hb dX12_standard_133 (by decide) ?_
    refine lv_aload_n hx hb dX12_standard_136 rfl (lv_at hl 0 rfl) ?_
    refine gM0_82 (v := ml.2.2.2.1) C hK hP rfl w1449 dX12_standard_137 ?_
    refine lv_isub hx hb dX12_standard_140 ?_
    refine lv_aload_n hx hb dX12_standard_141 rfl (lv_at hl 0 rfl) ?_
    refine gM0_81 (v := ml.2.2.1) C hK hP rfl w1448 dX12_standard_142 ?_
    obtain ⟨n19, h⟩ := grd h
    refine lv_idiv hx hb dX12_standard_145 (nz_ne n19) ?_
    refine lv_i2l (v := (((((255 : Int32) - ml.2.2.2.1) / ml.2.2.1)).toInt64)) hx hb dX12_standard_146 rfl ?_
    refine lv_lmul hx hb dX12_standard_147 ?_
    refine lv_ladd hx hb dX12_standard_148 ?_
    refine pM0_84 (v := (ml.2.2.2.2.2.1 + (((ml.1).toInt64) * (((((255 : Int32) - ml.2.2.2.1) / ml.2.2.1)).toInt64)))) C hI hK hP hS w1451 dX12_standard_149 (fun H locs hP hS => ?_)
    have hP : va_P D vwCl (GM cy ad mt mc mb mo ms mk my mu ma me mr mp mg mw mf (ml.1, ml.2.1, ml.2.2.1, ml.2.2.2.1, ml.2.2.2.2.1, (ml.2.2.2.2.2.1 + (((ml.1).toInt64) * (((((255 : Int32) - ml.2.2.2.1) / ml.2.2.1)).toInt64))), ml.2.2.2.2.2.2.1, ml.2.2.2.2.2.2.2.1, ml.2.2.2.2.2.2.2.2.1, ml.2.2.2.2.2.2.2.2.2) mq) H := hP
    refine lv_goto (tgt := 204) hx hb dX12_standard_152 (by decide) ?_
    obtain rfl := Option.some.inj h
    exact W.vret hx hb hr (fun t ht _ => ⟨rfl, by rw [ht]; exact hP, hS.F ht⟩) hS.2.2 dX12_standard_204 hlk
  rw [if_neg c18] at h
  by_cases c20 : v2 = (9 : Int32)
  · rw [if_pos c20] at h
    rw [c20]
    refine lv_tableIn (off := 154) (tgt := 155) hx hb dX12_standard_1 (by decide) (by decide) (by decide) (by decide) ?_
    refine lv_aload_n hx hb dX12_standard_155 rfl (lv_at hl 0 rfl) ?_
    refine lv_dup hx hb dX12_standard_156 rfl ?_
    refine gM0_84 (v := ml.2.2.2.2.2.1) C hK hP rfl w1451 dX12_standard_157 ?_
    refine lv_aload_n hx hb dX12_standard_160 rfl (lv_at hl 0 rfl) ?_
    refine lv_iconst (v := (2 : Int32)) hx hb dX12_standard_161 (by decide) ?_
    obtain ⟨q21, h22, h⟩ := bnd h
    refine cRl (run_V (rest := [.long ml.2.2.2.2.2.1, .ref (ad 0)]) C (kX12_number hI h22) caX12_number w1724 ⟨rfl, rfl, Nat.le_of_ble_eq_true rfl, Nat.le_of_ble_eq_true rfl⟩ hK hN hP (rM0 hK hP) rfl hl.1 rfl (Nat.le_of_ble_eq_true rfl) dX12_standard_162 ⟨Nat.zero_le _, Nat.zero_le _⟩) hS (fun H locs hP hS => ?_)
    have hP : va_P D vwCl (GM cy ad mt q21.2 mb mo ms mk my mu ma me mr mp mg mw mf ml mq) H := hP
    refine lv_ladd hx hb dX12_standard_165 ?_
    refine pM0_84 (v := (ml.2.2.2.2.2.1 + q21.1)) C hI hK hP hS w1451 dX12_standard_166 (fun H locs hP hS => ?_)
    have hP : va_P D vwCl (GM cy ad mt q21.2 mb mo ms mk my mu ma me mr mp mg mw mf (ml.1, ml.2.1, ml.2.2.1, ml.2.2.2.1, ml.2.2.2.2.1, (ml.2.2.2.2.2.1 + q21.1), ml.2.2.2.2.2.2.1, ml.2.2.2.2.2.2.2.1, ml.2.2.2.2.2.2.2.2.1, ml.2.2.2.2.2.2.2.2.2) mq) H := hP
    refine lv_goto (tgt := 204) hx hb dX12_standard_169 (by decide) ?_
    obtain rfl := Option.some.inj h
    exact W.vret hx hb hr (fun t ht _ => ⟨rfl, by rw [ht]; exact hP, hS.F ht⟩) hS.2.2 dX12_standard_204 hlk
  rw [if_neg c20] at h
  refine tsw_d (tgt := 172) hx hb dX12_standard_1 [(1 : Int32), (2 : Int32), (3 : Int32), (4 : Int32), (5 : Int32), (6 : Int32), (7 : Int32), (8 : Int32), (9 : Int32)] (by simp only [List.mem_cons, List.not_mem_nil, or_false]; rintro _ (rfl | rfl | rfl | rfl | rfl | rfl | rfl | rfl | rfl) <;> assumption) (by decide +kernel) (by decide) ?_
  refine lv_iconst (v := (0 : Int32)) hx hb dX12_standard_172 (by decide) ?_
  refine lv_istore (lv' := [(4, .int (0 : Int32)), (0, .ref (ad 0)), (1, .int v1), (2, .int v2), (3, .int v3)]) hx hb dX12_standard_173 hl (by decide) rfl (fun ls hl => ?_)
  exact bX12_standard_175 C hI hK hN FU h (lv_sub hl [1, 3, 0] rfl) hP hS
theorem kX12_standard (hI : Apart ad 71) {v1 : Int32} {v2 : Int32} {v3 : Int32} {q : Tmc × Tmw × Tml} (h : X12_standard mc mb mw ml v1 v2 v3 = some q) : Met l yX12_standard (.code yX12_standard cX12_standard 5 none :: WA) ({ frames := 3, cells := 0, slots := 0, locals := 69 } : Room) (va_Pc [.ref (ad 0), .int v1, .int v2, .int v3] (PR D cy (GM cy ad mt mc mb mo ms mk my mu ma me mr mp mg mw mf ml mq))) (QR none D (GM cy ad mt q.1 mb mo ms mk my mu ma me mr mp mg q.2.1 mf q.2.2 mq) (Ac ad 71)) 0 0 (Ac ad 71) :=
  met_of (by decide) (Nat.le_of_ble_eq_true rfl) (fun p e s m below meth c ls C hP hK hN hl => bX12_standard_0 C hI hK hN h hl hP va_S.rf)
def X12_runs_133 (mb : Tmb) (k9 : Tmc → Tmw → Tml → Int32 → Int32 → Option (Tmc × Tmw × Tml)) (mc : Tmc) (mw : Tmw) (ml : Tml) (v1 : Int32) (v2 : Int32) : Option (Tmc × Tmw × Tml) := k9 mc mw ml v1 v2
set_option maxRecDepth 20000 in
theorem bX12_runs_133 (C : Cx p s m args meth c cX12_runs 6 none RX12 (.code yX12_runs cX12_runs 6 none)) (hI : Apart ad 71) (hK : va_K D vwCl (tysX cy) s) (hN : NW s) {k9 : Tmc → Tmw → Tml → Int32 → Int32 → Option (Tmc × Tmw × Tml)} {q : Tmc × Tmw × Tml} (hk9 : ∀ {mc : Tmc} {mw : Tmw} {ml : Tml} {v1 : Int32} {v2 : Int32}, k9 mc mw ml v1 v2 = some q → ∀ {ls : Array Slot}, lv_has ls 6 [(0, .ref (ad 0)), (1, .int v1), (2, .int v2)] → ∀ {H : Heap} {locs : List Loc}, va_P D vwCl (GM cy ad mt mc mb mo ms mk my mu ma me mr mp mg mw mf ml mq) H → va_S (Ac ad 71) s.heap H locs → W p l e ({ frames := 4, cells := 0, slots := 0, locals := 96 } : Room) s m args below meth c H locs 0 0 (MQ below (QR none D (GM cy ad mt q.1 mb mo ms mk my mu ma me mr mp mg q.2.1 mf q.2.2 mq) (Ac ad 71)) args s 0 0 (Ac ad 71)) (F0 m 9 ls [])) {v1 : Int32} {v2 : Int32} (h : X12_runs_133 mb k9 mc mw ml v1 v2 = some q) {ls : Array Slot} (hl : lv_has ls 6 [(0, .ref (ad 0)), (1, .int v1), (2, .int v2)]) {H : Heap} {locs : List Loc} (hP : va_P D vwCl (GM cy ad mt mc mb mo ms mk my mu ma me mr mp mg mw mf ml mq) H) (hS : va_S (Ac ad 71) s.heap H locs) : W p l e ({ frames := 4, cells := 0, slots := 0, locals := 96 } : Room) s m args below meth c H locs 0 0 (MQ below (QR none D (GM cy ad mt q.1 mb mo ms mk my mu ma me mr mp mg q.2.1 mf q.2.2 mq) (Ac ad 71)) args s 0 0 (Ac ad 71)) (F0 m 133 ls []) := by
  obtain ⟨hx, hb, hml, hown, hts, hr, hlk⟩ := id C
  unfold X12_runs_133 at h
  refine lv_goto (tgt := 9) hx hb dX12_runs_133 (by decide) ?_
  exact hk9 h (lv_sub hl [0, 1, 2] rfl) hP hS
def X12_runs_136 (mb : Tmb)  (mc : Tmc) (mw : Tmw) (ml : Tml) (v2 : Int32) : Option (Tmc × Tmw × Tml) := (if (X12_isRight mc) = 0 then some (mc, mw, ml) else (if ml.2.2.2.2.2.2.2.2.2 = 0 then some (mc, mw, ml) else (letq (X12_fail mc (1 : Int32) v2) fun q3 => some (q3, mw, ml))))
set_option maxRecDepth 20000 in
theorem bX12_runs_136 (C : Cx p s m args meth c cX12_runs 6 none RX12 (.code yX12_runs cX12_runs 6 none)) (hI : Apart ad 71) (hK : va_K D vwCl (tysX cy) s) (hN : NW s)  {q : Tmc × Tmw × Tml}  {v2 : Int32} (h : X12_runs_136 mb mc mw ml v2 = some q) {ls : Array Slot} (hl : lv_has ls 6 [(0, .ref (ad 0)), (2, .int v2)]) {H : Heap} {locs : List Loc} (hP : va_P D vwCl (GM cy ad mt mc mb mo ms mk my mu ma me mr mp mg mw mf ml mq) H) (hS : va_S (Ac ad 71) s.heap H locs) : W p l e ({ frames := 4, cells := 0, slots := 0, locals := 96 } : Room) s m args below meth c H locs 0 0 (MQ below (QR none D (GM cy ad mt q.1 mb mo ms mk my mu ma me mr mp mg q.2.1 mf q.2.2 mq) (Ac ad 71)) args s 0 0 (Ac ad 71)) (F0 m 136 ls []) := by
  obtain ⟨hx, hb, hml, hown, hts, hr, hlk⟩ := id C
  unfold X12_runs_136 at h
  refine lv_aload_n hx hb dX12_runs_136 rfl (lv_at hl 0 rfl) ?_
  refine cPi (run_V (rest := []) C (kX12_isRight rfl) caX12_isRight w1682 ⟨rfl, rfl, Nat.le_of_ble_eq_true rfl, Nat.le_of_ble_eq_true rfl⟩ hK hN hP (rM0 hK hP) rfl hl.1 rfl (Nat.le_of_ble_eq_true rfl) dX12_runs_137 ⟨Nat.zero_le _, Nat.zero_le _⟩) ?_
  refine lv_if_eq (tgt := 156) hx hb dX12_runs_140 (by decide) (fun c1 => ?_) (fun c1 => ?_)
  · rw [if_pos c1] at h
    obtain rfl := Option.some.inj h
    exact W.vret hx hb hr (fun t ht _ => ⟨rfl, by rw [ht]; exact hP, hS.F ht⟩) hS.2.2 dX12_runs_156 hlk
  · rw [if_neg c1] at h
    refine lv_aload_n hx hb dX12_runs_143 rfl (lv_at hl 0 rfl) ?_
    refine gM0_88 (v := ml.2.2.2.2.2.2.2.2.2) C hK hP rfl w1455 dX12_runs_144 ?_
    refine lv_if_eq (tgt := 156) hx hb dX12_runs_147 (by decide) (fun c2 => ?_) (fun c2 => ?_)
    · rw [if_pos c2] at h
      obtain rfl := Option.some.inj h
      exact W.vret hx hb hr (fun t ht _ => ⟨rfl, by rw [ht]; exact hP, hS.F ht⟩) hS.2.2 dX12_runs_156 hlk
    · rw [if_neg c2] at h
      refine lv_aload_n hx hb dX12_runs_150 rfl (lv_at hl 0 rfl) ?_
      refine lv_iconst (v := (1 : Int32)) hx hb dX12_runs_151 (by decide) ?_
      refine lv_iload_n hx hb dX12_runs_152 rfl (lv_at hl 1 rfl) ?_
      obtain ⟨q3, h4, h⟩ := lets h
      refine cRv (run_V (rest := []) C (kX12_fail hI h4) caX12_fail w1678 ⟨rfl, rfl, Nat.le_of_ble_eq_true rfl, Nat.le_of_ble_eq_true rfl⟩ hK hN hP (rM0 hK hP) rfl hl.1 rfl (Nat.le_of_ble_eq_true rfl) dX12_runs_153 ⟨Nat.zero_le _, Nat.zero_le _⟩) hS (fun H locs hP hS => ?_)
      have hP : va_P D vwCl (GM cy ad mt q3 mb mo ms mk my mu ma me mr mp mg mw mf ml mq) H := hP
      obtain rfl := Option.some.inj h
      exact W.vret hx hb hr (fun t ht _ => ⟨rfl, by rw [ht]; exact hP, hS.F ht⟩) hS.2.2 dX12_runs_156 hlk
def X12_runs_9b (mb : Tmb)  (k9 : Tmc → Tmw → Tml → Int32 → Int32 → Option (Tmc × Tmw × Tml)) (mc : Tmc) (mw : Tmw) (ml : Tml) (v1 : Int32) (v2 : Int32) : Option (Tmc × Tmw × Tml) := (if (X12_isRight mc) = 0 then X12_runs_136 mb mc mw ml v2 else (if mc.1 < v2 then ((X12_number mc mb (1 : Int32)).bind fun q3 => (if ((q3.1).toInt32) < ml.2.2.2.1 then (if ((q3.1).toInt32) = 0 then ((X12_extended q3.2 mb mw ml v1 mc.1 v2).bind fun q9 => X12_runs_133 mb k9 q9.1 q9.2.1 q9.2.2 v1 v2) else ((X12_standard q3.2 mb mw ml v1 ((q3.1).toInt32) mc.1).bind fun q7 => X12_runs_133 mb k9 q7.1 q7.2.1 q7.2.2 v1 v2)) else (if nz ml.2.2.1 = true then (if nz ml.2.2.1 = true then ((X12_comes q3.2 mb mw (ml.1, ml.2.1, ml.2.2.1, ml.2.2.2.1, ml.2.2.2.2.1, (ml.2.2.2.2.2.1 + (((ml.1).toInt64) * ((((((q3.1).toInt32) - ml.2.2.2.1) / ml.2.2.1)).toInt64))), ml.2.2.2.2.2.2.1, (ml.2.2.2.2.2.2.2.1 + (((ml.2.1 + ((((q3.1).toInt32) - ml.2.2.2.1) - (((q3.1).toInt32) - ml.2.2.2.1) / ml.2.2.1 * ml.2.2.1))).toInt64)), ml.2.2.2.2.2.2.2.2.1, ml.2.2.2.2.2.2.2.2.2) v1 (0 : Int32) mc.1).bind fun q13 => X12_runs_133 mb k9 q13.1 q13.2.1 q13.2.2 v1 v2) else none) else none))) else X12_runs_136 mb mc mw ml v2))
def X12_runs_9 (mb : Tmb)  (n : Nat) (st : Tmc × Tmw × Tml × Int32 × Int32) : Option (Tmc × Tmw × Tml) := lp (fun rec st => X12_runs_9b mb  (fun a0 a1 a2 a3 a4 => rec (a0, a1, a2, a3, a4)) st.1 st.2.1 st.2.2.1 st.2.2.2.1 st.2.2.2.2) n st
set_option maxRecDepth 20000 in
theorem bX12_runs_9 (C : Cx p s m args meth c cX12_runs 6 none RX12 (.code yX12_runs cX12_runs 6 none)) (hI : Apart ad 71) (hK : va_K D vwCl (tysX cy) s) (hN : NW s)  {q : Tmc × Tmw × Tml}  : ∀ (n : Nat) {mc : Tmc} {mw : Tmw} {ml : Tml} {v1 : Int32} {v2 : Int32}, X12_runs_9 mb  n (mc, mw, ml, v1, v2) = some q → ∀ {ls : Array Slot}, lv_has ls 6 [(0, .ref (ad 0)), (1, .int v1), (2, .int v2)] → ∀ {H : Heap} {locs : List Loc}, va_P D vwCl (GM cy ad mt mc mb mo ms mk my mu ma me mr mp mg mw mf ml mq) H → va_S (Ac ad 71) s.heap H locs → W p l e ({ frames := 4, cells := 0, slots := 0, locals := 96 } : Room) s m args below meth c H locs 0 0 (MQ below (QR none D (GM cy ad mt q.1 mb mo ms mk my mu ma me mr mp mg q.2.1 mf q.2.2 mq) (Ac ad 71)) args s 0 0 (Ac ad 71)) (F0 m 9 ls []) := by
  obtain ⟨hx, hb, hml, hown, hts, hr, hlk⟩ := id C
  intro n
  induction n with
  | zero =>
    intro mc mw ml v1 v2 h ls hl H locs hP hS
    have h : (none : Option (Tmc × Tmw × Tml)) = some q := h
    cases h
  | succ n ih =>
    intro mc mw ml v1 v2 h ls hl H locs hP hS
    have h : X12_runs_9b mb  (fun a0 a1 a2 a3 a4 => X12_runs_9 mb  n (a0, a1, a2, a3, a4)) mc mw ml v1 v2 = some q := h
    unfold X12_runs_9b at h
    refine lv_aload_n hx hb dX12_runs_9 rfl (lv_at hl 0 rfl) ?_
    refine cPi (run_V (rest := []) C (kX12_isRight rfl) caX12_isRight w1682 ⟨rfl, rfl, Nat.le_of_ble_eq_true rfl, Nat.le_of_ble_eq_true rfl⟩ hK hN hP (rM0 hK hP) rfl hl.1 rfl (Nat.le_of_ble_eq_true rfl) dX12_runs_10 ⟨Nat.zero_le _, Nat.zero_le _⟩) ?_
    refine lv_if_eq (tgt := 136) hx hb dX12_runs_13 (by decide) (fun c1 => ?_) (fun c1 => ?_)
    · rw [if_pos c1] at h
      exact bX12_runs_136 C hI hK hN h (lv_sub hl [0, 2] rfl) hP hS
    · rw [if_neg c1] at h
      refine lv_aload_n hx hb dX12_runs_16 rfl (lv_at hl 0 rfl) ?_
      refine gM0_77 (v := mc.1) C hK hP rfl w1444 dX12_runs_17 ?_
      refine lv_iload_n hx hb dX12_runs_20 rfl (lv_at hl 2 rfl) ?_
      refine b_icmp_ge (tgt := 136) hx hb dX12_runs_21 (by decide) (fun c2 => ?_) (fun c2 => ?_)
      · rw [if_neg c2] at h
        exact bX12_runs_136 C hI hK hN h (lv_sub hl [0, 2] rfl) hP hS
      · rw [if_pos c2] at h
        refine lv_aload_n hx hb dX12_runs_24 rfl (lv_at hl 0 rfl) ?_
        refine gM0_77 (v := mc.1) C hK hP rfl w1444 dX12_runs_25 ?_
        refine lv_istore_n (lv' := [(3, .int mc.1), (0, .ref (ad 0)), (1, .int v1), (2, .int v2)]) hx hb dX12_runs_28 rfl hl (by decide) rfl (fun ls hl => ?_)
        refine lv_aload_n hx hb dX12_runs_29 rfl (lv_at hl 1 rfl) ?_
        refine lv_iconst (v := (1 : Int32)) hx hb dX12_runs_30 (by decide) ?_
        obtain ⟨q3, h4, h⟩ := bnd h
        refine cRl (run_V (rest := []) C (kX12_number hI h4) caX12_number w1724 ⟨rfl, rfl, Nat.le_of_ble_eq_true rfl, Nat.le_of_ble_eq_true rfl⟩ hK hN hP (rM0 hK hP) rfl hl.1 rfl (Nat.le_of_ble_eq_true rfl) dX12_runs_31 ⟨Nat.zero_le _, Nat.zero_le _⟩) hS (fun H locs hP hS => ?_)
        have hP : va_P D vwCl (GM cy ad mt q3.2 mb mo ms mk my mu ma me mr mp mg mw mf ml mq) H := hP
        refine lv_l2i (v := ((q3.1).toInt32)) hx hb dX12_runs_34 rfl ?_
        refine lv_istore (lv' := [(4, .int ((q3.1).toInt32)), (3, .int mc.1), (0, .ref (ad 0)), (1, .int v1), (2, .int v2)]) hx hb dX12_runs_35 hl (by decide) rfl (fun ls hl => ?_)
        refine lv_iload hx hb dX12_runs_37 (lv_at hl 0 rfl) ?_
        refine lv_aload_n hx hb dX12_runs_39 rfl (lv_at hl 2 rfl) ?_
        refine gM0_82 (v := ml.2.2.2.1) C hK hP rfl w1449 dX12_runs_40 ?_
        refine lv_icmp_lt (tgt := 110) hx hb dX12_runs_43 (by decide) (fun c5 => ?_) (fun c5 => ?_)
        · rw [if_pos c5] at h
          refine lv_iload hx hb dX12_runs_110 (lv_at hl 0 rfl) ?_
          refine lv_if_ne (tgt := 125) hx hb dX12_runs_112 (by decide) (fun c6 => ?_) (fun c6 => ?_)
          · rw [if_neg c6] at h
            refine lv_aload_n hx hb dX12_runs_125 rfl (lv_at hl 2 rfl) ?_
            refine lv_iload_n hx hb dX12_runs_126 rfl (lv_at hl 3 rfl) ?_
            refine lv_iload hx hb dX12_runs_127 (lv_at hl 0 rfl) ?_
            refine lv_iload_n hx hb dX12_runs_129 rfl (lv_at hl 1 rfl) ?_
            obtain ⟨q7, h8, h⟩ := bnd h
            refine cRv (run_V (rest := []) C (kX12_standard hI h8) caX12_standard w1875 ⟨rfl, rfl, Nat.le_of_ble_eq_true rfl, Nat.le_of_ble_eq_true rfl⟩ hK hN hP (rM0 hK hP) rfl hl.1 rfl (Nat.le_of_ble_eq_true rfl) dX12_runs_130 ⟨Nat.zero_le _, Nat.zero_le _⟩) hS (fun H locs hP hS => ?_)
            have hP : va_P D vwCl (GM cy ad mt q7.1 mb mo ms mk my mu ma me mr mp mg q7.2.1 mf q7.2.2 mq) H := hP
            exact bX12_runs_133 C hI hK hN @ih h (lv_sub hl [2, 3, 4] rfl) hP hS
          · rw [if_pos c6] at h
            refine lv_aload_n hx hb dX12_runs_115 rfl (lv_at hl 2 rfl) ?_
            refine lv_iload_n hx hb dX12_runs_116 rfl (lv_at hl 3 rfl) ?_
            refine lv_iload_n hx hb dX12_runs_117 rfl (lv_at hl 1 rfl) ?_
            refine lv_iload_n hx hb dX12_runs_118 rfl (lv_at hl 4 rfl) ?_
            obtain ⟨q9, h10, h⟩ := bnd h
            refine cRv (run_V (rest := []) C (kX12_extended hI h10) caX12_extended w1870 ⟨rfl, rfl, Nat.le_of_ble_eq_true rfl, Nat.le_of_ble_eq_true rfl⟩ hK hN hP (rM0 hK hP) rfl hl.1 rfl (Nat.le_of_ble_eq_true rfl) dX12_runs_119 ⟨Nat.zero_le _, Nat.zero_le _⟩) hS (fun H locs hP hS => ?_)
            have hP : va_P D vwCl (GM cy ad mt q9.1 mb mo ms mk my mu ma me mr mp mg q9.2.1 mf q9.2.2 mq) H := hP
            refine lv_goto (tgt := 133) hx hb dX12_runs_122 (by decide) ?_
            exact bX12_runs_133 C hI hK hN @ih h (lv_sub hl [2, 3, 4] rfl) hP hS
        · rw [if_neg c5] at h
          refine lv_iload hx hb dX12_runs_46 (lv_at hl 0 rfl) ?_
          refine lv_aload_n hx hb dX12_runs_48 rfl (lv_at hl 2 rfl) ?_
          refine gM0_82 (v := ml.2.2.2.1) C hK hP rfl w1449 dX12_runs_49 ?_
          refine lv_isub hx hb dX12_runs_52 ?_
          refine lv_istore (lv' := [(5, .int (((q3.1).toInt32) - ml.2.2.2.1)), (4, .int ((q3.1).toInt32)), (3, .int mc.1), (0, .ref (ad 0)), (1, .int v1), (2, .int v2)]) hx hb dX12_runs_53 hl (by decide) rfl (fun ls hl => ?_)
          refine lv_aload_n hx hb dX12_runs_55 rfl (lv_at hl 3 rfl) ?_
          refine lv_dup hx hb dX12_runs_56 rfl ?_
          refine gM0_84 (v := ml.2.2.2.2.2.1) C hK hP rfl w1451 dX12_runs_57 ?_
          refine lv_aload_n hx hb dX12_runs_60 rfl (lv_at hl 3 rfl) ?_
          refine gM0_79 (v := ml.1) C hK hP rfl w1446 dX12_runs_61 ?_
          refine lv_i2l (v := ((ml.1).toInt64)) hx hb dX12_runs_64 rfl ?_
          refine lv_iload hx hb dX12_runs_65 (lv_at hl 0 rfl) ?_
          refine lv_aload_n hx hb dX12_runs_67 rfl (lv_at hl 3 rfl) ?_
          refine gM0_81 (v := ml.2.2.1) C hK hP rfl w1448 dX12_runs_68 ?_
          obtain ⟨n11, h⟩ := grd h
          refine lv_idiv hx hb dX12_runs_71 (nz_ne n11) ?_
          refine lv_i2l (v := ((((((q3.1).toInt32) - ml.2.2.2.1) / ml.2.2.1)).toInt64)) hx hb dX12_runs_72 rfl ?_
          refine lv_lmul hx hb dX12_runs_73 ?_
          refine lv_ladd hx hb dX12_runs_74 ?_
          refine pM0_84 (v := (ml.2.2.2.2.2.1 + (((ml.1).toInt64) * ((((((q3.1).toInt32) - ml.2.2.2.1) / ml.2.2.1)).toInt64)))) C hI hK hP hS w1451 dX12_runs_75 (fun H locs hP hS => ?_)
          have hP : va_P D vwCl (GM cy ad mt q3.2 mb mo ms mk my mu ma me mr mp mg mw mf (ml.1, ml.2.1, ml.2.2.1, ml.2.2.2.1, ml.2.2.2.2.1, (ml.2.2.2.2.2.1 + (((ml.1).toInt64) * ((((((q3.1).toInt32) - ml.2.2.2.1) / ml.2.2.1)).toInt64))), ml.2.2.2.2.2.2.1, ml.2.2.2.2.2.2.2.1, ml.2.2.2.2.2.2.2.2.1, ml.2.2.2.2.2.2.2.2.2) mq) H := hP
          refine lv_aload_n hx hb dX12_runs_78 rfl (lv_at hl 3 rfl) ?_
          refine lv_dup hx hb dX12_runs_79 rfl ?_
          refine gM0_86 (v := ml.2.2.2.2.2.2.2.1) C hK hP rfl w1453 dX12_runs_80 ?_
          refine lv_aload_n hx hb dX12_runs_83 rfl (lv_at hl 3 rfl) ?_
          refine gM0_80 (v := ml.2.1) C hK hP rfl w1447 dX12_runs_84 ?_
          refine lv_iload hx hb dX12_runs_87 (lv_at hl 0 rfl) ?_
          refine lv_aload_n hx hb dX12_runs_89 rfl (lv_at hl 3 rfl) ?_
          refine gM0_81 (v := ml.2.2.1) C hK hP rfl w1448 dX12_runs_90 ?_
          obtain ⟨n12, h⟩ := grd h
          refine lv_irem hx hb dX12_runs_93 (nz_ne n12) ?_
          refine lv_iadd hx hb dX12_runs_94 ?_
          refine lv_i2l (v := (((ml.2.1 + ((((q3.1).toInt32) - ml.2.2.2.1) - (((q3.1).toInt32) - ml.2.2.2.1) / ml.2.2.1 * ml.2.2.1))).toInt64)) hx hb dX12_runs_95 rfl ?_
          refine lv_ladd hx hb dX12_runs_96 ?_
          refine pM0_86 (v := (ml.2.2.2.2.2.2.2.1 + (((ml.2.1 + ((((q3.1).toInt32) - ml.2.2.2.1) - (((q3.1).toInt32) - ml.2.2.2.1) / ml.2.2.1 * ml.2.2.1))).toInt64))) C hI hK hP hS w1453 dX12_runs_97 (fun H locs hP hS => ?_)
          have hP : va_P D vwCl (GM cy ad mt q3.2 mb mo ms mk my mu ma me mr mp mg mw mf (ml.1, ml.2.1, ml.2.2.1, ml.2.2.2.1, ml.2.2.2.2.1, (ml.2.2.2.2.2.1 + (((ml.1).toInt64) * ((((((q3.1).toInt32) - ml.2.2.2.1) / ml.2.2.1)).toInt64))), ml.2.2.2.2.2.2.1, (ml.2.2.2.2.2.2.2.1 + (((ml.2.1 + ((((q3.1).toInt32) - ml.2.2.2.1) - (((q3.1).toInt32) - ml.2.2.2.1) / ml.2.2.1 * ml.2.2.1))).toInt64)), ml.2.2.2.2.2.2.2.2.1, ml.2.2.2.2.2.2.2.2.2) mq) H := hP
          refine lv_aload_n hx hb dX12_runs_100 rfl (lv_at hl 3 rfl) ?_
          refine lv_iload_n hx hb dX12_runs_101 rfl (lv_at hl 4 rfl) ?_
          refine lv_iconst (v := (0 : Int32)) hx hb dX12_runs_102 (by decide) ?_
          refine lv_iload_n hx hb dX12_runs_103 rfl (lv_at hl 2 rfl) ?_
          obtain ⟨q13, h14, h⟩ := bnd h
          refine cRv (run_V (rest := []) C (kX12_comes hI h14) caX12_comes w1865 ⟨rfl, rfl, Nat.le_of_ble_eq_true rfl, Nat.le_of_ble_eq_true rfl⟩ hK hN hP (rM0 hK hP) rfl hl.1 rfl (Nat.le_of_ble_eq_true rfl) dX12_runs_104 ⟨Nat.zero_le _, Nat.zero_le _⟩) hS (fun H locs hP hS => ?_)
          have hP : va_P D vwCl (GM cy ad mt q13.1 mb mo ms mk my mu ma me mr mp mg q13.2.1 mf q13.2.2 mq) H := hP
          refine lv_goto (tgt := 133) hx hb dX12_runs_107 (by decide) ?_
          exact bX12_runs_133 C hI hK hN @ih h (lv_sub hl [3, 4, 5] rfl) hP hS
def X12_runs (mc : Tmc) (mb : Tmb) (mw : Tmw) (ml : Tml) (v1 : Int32) (v2 : Int32) : Option (Tmc × Tmw × Tml) := (letq (X12_resets ml) fun q1 => X12_runs_9 mb FU ((mc.1, v2, mc.2.2.1, mc.2.2.2), mw, q1, v1, v2))
set_option maxRecDepth 20000 in
theorem bX12_runs_0 (C : Cx p s m args meth c cX12_runs 6 none RX12 (.code yX12_runs cX12_runs 6 none)) (hI : Apart ad 71) (hK : va_K D vwCl (tysX cy) s) (hN : NW s)  {q : Tmc × Tmw × Tml}  {v1 : Int32} {v2 : Int32} (h : X12_runs mc mb mw ml v1 v2 = some q) {ls : Array Slot} (hl : lv_has ls 6 [(0, .ref (ad 0)), (1, .int v1), (2, .int v2)]) {H : Heap} {locs : List Loc} (hP : va_P D vwCl (GM cy ad mt mc mb mo ms mk my mu ma me mr mp mg mw mf ml mq) H) (hS : va_S (Ac ad 71) s.heap H locs) : W p l e ({ frames := 4, cells := 0, slots := 0, locals := 96 } : Room) s m args below meth c H locs 0 0 (MQ below (QR none D (GM cy ad mt q.1 mb mo ms mk my mu ma me mr mp mg q.2.1 mf q.2.2 mq) (Ac ad 71)) args s 0 0 (Ac ad 71)) (F0 m 0 ls []) := by
  obtain ⟨hx, hb, hml, hown, hts, hr, hlk⟩ := id C
  unfold X12_runs at h
  refine lv_aload_n hx hb dX12_runs_0 rfl (lv_at hl 0 rfl) ?_
  refine lv_iload_n hx hb dX12_runs_1 rfl (lv_at hl 2 rfl) ?_
  refine pM0_78 (v := v2) C hI hK hP hS w1445 dX12_runs_2 (fun H locs hP hS => ?_)
  have hP : va_P D vwCl (GM cy ad mt (mc.1, v2, mc.2.2.1, mc.2.2.2) mb mo ms mk my mu ma me mr mp mg mw mf ml mq) H := hP
  refine lv_aload_n hx hb dX12_runs_5 rfl (lv_at hl 0 rfl) ?_
  obtain ⟨q1, h2, h⟩ := lets h
  refine cRv (run_V (rest := []) C (kX12_resets hI h2) caX12_resets w1861 ⟨rfl, rfl, Nat.le_of_ble_eq_true rfl, Nat.le_of_ble_eq_true rfl⟩ hK hN hP (rM0 hK hP) rfl hl.1 rfl (Nat.le_of_ble_eq_true rfl) dX12_runs_6 ⟨Nat.zero_le _, Nat.zero_le _⟩) hS (fun H locs hP hS => ?_)
  have hP : va_P D vwCl (GM cy ad mt (mc.1, v2, mc.2.2.1, mc.2.2.2) mb mo ms mk my mu ma me mr mp mg mw mf q1 mq) H := hP
  exact bX12_runs_9 C hI hK hN FU h (lv_sub hl [0, 1, 2] rfl) hP hS
theorem kX12_runs (hI : Apart ad 71) {v1 : Int32} {v2 : Int32} {q : Tmc × Tmw × Tml} (h : X12_runs mc mb mw ml v1 v2 = some q) : Met l yX12_runs (.code yX12_runs cX12_runs 6 none :: WA) ({ frames := 4, cells := 0, slots := 0, locals := 96 } : Room) (va_Pc [.ref (ad 0), .int v1, .int v2] (PR D cy (GM cy ad mt mc mb mo ms mk my mu ma me mr mp mg mw mf ml mq))) (QR none D (GM cy ad mt q.1 mb mo ms mk my mu ma me mr mp mg q.2.1 mf q.2.2 mq) (Ac ad 71)) 0 0 (Ac ad 71) :=
  met_of (by decide) (Nat.le_of_ble_eq_true rfl) (fun p e s m below meth c ls C hP hK hN hl => bX12_runs_0 C hI hK hN h hl hP va_S.rf)
def X12_table_167 (mb : Tmb) (ms : Tms)  (mc : Tmc) (mu : Tmu) (mw : Tmw) (mf : Tmf) (ml : Tml) (v1 : Int32) (v2 : Int32) : Option (Tmc × Tmu × Tmw × Tmf × Tml) := (if (X12_isRight mc) = 0 then some (mc, mu, mw, mf, ml) else ((X12_runs mc mb mw ml v1 v2).bind fun q2 => some (q2.1, mu, q2.2.1, mf, q2.2.2)))
set_option maxRecDepth 20000 in
theorem bX12_table_167 (C : Cx p s m args meth c cX12_table 8 none RX12 (.code yX12_table cX12_table 8 none)) (hI : Apart ad 71) (hK : va_K D vwCl (tysX cy) s) (hN : NW s)  {q : Tmc × Tmu × Tmw × Tmf × Tml}  {v1 : Int32} {v2 : Int32} (h : X12_table_167 mb ms mc mu mw mf ml v1 v2 = some q) {ls : Array Slot} (hl : lv_has ls 8 [(0, .ref (ad 0)), (1, .int v1), (2, .int v2)]) {H : Heap} {locs : List Loc} (hP : va_P D vwCl (GM cy ad mt mc mb mo ms mk my mu ma me mr mp mg mw mf ml mq) H) (hS : va_S (Ac ad 71) s.heap H locs) : W p l e ({ frames := 5, cells := 0, slots := 0, locals := 126 } : Room) s m args below meth c H locs 0 0 (MQ below (QR none D (GM cy ad mt q.1 mb mo ms mk my q.2.1 ma me mr mp mg q.2.2.1 q.2.2.2.1 q.2.2.2.2 mq) (Ac ad 71)) args s 0 0 (Ac ad 71)) (F0 m 167 ls []) := by
  obtain ⟨hx, hb, hml, hown, hts, hr, hlk⟩ := id C
  unfold X12_table_167 at h
  refine lv_aload_n hx hb dX12_table_167 rfl (lv_at hl 0 rfl) ?_
  refine cPi (run_V (rest := []) C (kX12_isRight rfl) caX12_isRight w1682 ⟨rfl, rfl, Nat.le_of_ble_eq_true rfl, Nat.le_of_ble_eq_true rfl⟩ hK hN hP (rM0 hK hP) rfl hl.1 rfl (Nat.le_of_ble_eq_true rfl) dX12_table_168 ⟨Nat.zero_le _, Nat.zero_le _⟩) ?_
  refine lv_if_eq (tgt := 180) hx hb dX12_table_171 (by decide) (fun c1 => ?_) (fun c1 => ?_)
  · rw [if_pos c1] at h
    obtain rfl := Option.some.inj h
    exact W.vret hx hb hr (fun t ht _ => ⟨rfl, by rw [ht]; exact hP, hS.F ht⟩) hS.2.2 dX12_table_180 hlk
  · rw [if_neg c1] at h
    refine lv_aload_n hx hb dX12_table_174 rfl (lv_at hl 0 rfl) ?_
    refine lv_iload_n hx hb dX12_table_175 rfl (lv_at hl 1 rfl) ?_
    refine lv_iload_n hx hb dX12_table_176 rfl (lv_at hl 2 rfl) ?_
    obtain ⟨q2, h3, h⟩ := bnd h
    refine cRv (run_V (rest := []) C (kX12_runs hI h3) caX12_runs w1857 ⟨rfl, rfl, Nat.le_of_ble_eq_true rfl, Nat.le_of_ble_eq_true rfl⟩ hK hN hP (rM0 hK hP) rfl hl.1 rfl (Nat.le_of_ble_eq_true rfl) dX12_table_177 ⟨Nat.zero_le _, Nat.zero_le _⟩) hS (fun H locs hP hS => ?_)
    have hP : va_P D vwCl (GM cy ad mt q2.1 mb mo ms mk my mu ma me mr mp mg q2.2.1 mf q2.2.2 mq) H := hP
    obtain rfl := Option.some.inj h
    exact W.vret hx hb hr (fun t ht _ => ⟨rfl, by rw [ht]; exact hP, hS.F ht⟩) hS.2.2 dX12_table_180 hlk
def X12_table_107 (mb : Tmb) (ms : Tms)  (mc : Tmc) (mu : Tmu) (mw : Tmw) (mf : Tmf) (ml : Tml) (v1 : Int32) (v2 : Int32) (v4 : Int64) : Option (Tmc × Tmu × Tmw × Tmf × Tml) := (if (X12_isRight mc) = 0 then some (mc, mu, mw, mf, ml) else ((X12_constants mc mb ml).bind fun q2 => ((X12_directories q2.1 mb).bind fun q4 => ((X12_files q4.2 mb mu mf v1 q4.1).bind fun q6 => (if (X12_isRight q6.1) = 0 then X12_table_167 mb ms q6.1 q6.2.1 mw q6.2.2 q2.2 v1 v2 else (if q6.1.1 = (mc.1 + ((v4).toInt32)) then X12_table_167 mb ms q6.1 q6.2.1 mw q6.2.2 q2.2 v1 v2 else (letq (X12_fail q6.1 (2 : Int32) q6.1.1) fun q10 => X12_table_167 mb ms q10 q6.2.1 mw q6.2.2 q2.2 v1 v2)))))))
set_option maxRecDepth 20000 in
theorem bX12_table_107 (C : Cx p s m args meth c cX12_table 8 none RX12 (.code yX12_table cX12_table 8 none)) (hI : Apart ad 71) (hK : va_K D vwCl (tysX cy) s) (hN : NW s)  {q : Tmc × Tmu × Tmw × Tmf × Tml}  {v1 : Int32} {v2 : Int32} {v4 : Int64} (h : X12_table_107 mb ms mc mu mw mf ml v1 v2 v4 = some q) {ls : Array Slot} (hl : lv_has ls 8 [(0, .ref (ad 0)), (1, .int v1), (2, .int v2), (4, .long v4)]) {H : Heap} {locs : List Loc} (hP : va_P D vwCl (GM cy ad mt mc mb mo ms mk my mu ma me mr mp mg mw mf ml mq) H) (hS : va_S (Ac ad 71) s.heap H locs) : W p l e ({ frames := 5, cells := 0, slots := 0, locals := 126 } : Room) s m args below meth c H locs 0 0 (MQ below (QR none D (GM cy ad mt q.1 mb mo ms mk my q.2.1 ma me mr mp mg q.2.2.1 q.2.2.2.1 q.2.2.2.2 mq) (Ac ad 71)) args s 0 0 (Ac ad 71)) (F0 m 107 ls []) := by
  obtain ⟨hx, hb, hml, hown, hts, hr, hlk⟩ := id C
  unfold X12_table_107 at h
  refine lv_aload_n hx hb dX12_table_107 rfl (lv_at hl 0 rfl) ?_
  refine cPi (run_V (rest := []) C (kX12_isRight rfl) caX12_isRight w1682 ⟨rfl, rfl, Nat.le_of_ble_eq_true rfl, Nat.le_of_ble_eq_true rfl⟩ hK hN hP (rM0 hK hP) rfl hl.1 rfl (Nat.le_of_ble_eq_true rfl) dX12_table_108 ⟨Nat.zero_le _, Nat.zero_le _⟩) ?_
  refine lv_if_ne (tgt := 115) hx hb dX12_table_111 (by decide) (fun c1 => ?_) (fun c1 => ?_)
  · rw [if_neg c1] at h
    refine lv_aload_n hx hb dX12_table_115 rfl (lv_at hl 0 rfl) ?_
    refine gM0_77 (v := mc.1) C hK hP rfl w1444 dX12_table_116 ?_
    refine lv_lload hx hb dX12_table_119 (lv_at hl 3 rfl) ?_
    refine lv_l2i (v := ((v4).toInt32)) hx hb dX12_table_121 rfl ?_
    refine lv_iadd hx hb dX12_table_122 ?_
    refine lv_istore (lv' := [(6, .int (mc.1 + ((v4).toInt32))), (0, .ref (ad 0)), (1, .int v1), (2, .int v2), (4, .long v4)]) hx hb dX12_table_123 hl (by decide) rfl (fun ls hl => ?_)
    refine lv_aload_n hx hb dX12_table_125 rfl (lv_at hl 1 rfl) ?_
    obtain ⟨q2, h3, h⟩ := bnd h
    refine cRv (run_V (rest := []) C (kX12_constants hI h3) caX12_constants w1841 ⟨rfl, rfl, Nat.le_of_ble_eq_true rfl, Nat.le_of_ble_eq_true rfl⟩ hK hN hP (rM0 hK hP) rfl hl.1 rfl (Nat.le_of_ble_eq_true rfl) dX12_table_126 ⟨Nat.zero_le _, Nat.zero_le _⟩) hS (fun H locs hP hS => ?_)
    have hP : va_P D vwCl (GM cy ad mt q2.1 mb mo ms mk my mu ma me mr mp mg mw mf q2.2 mq) H := hP
    refine lv_aload_n hx hb dX12_table_129 rfl (lv_at hl 1 rfl) ?_
    obtain ⟨q4, h5, h⟩ := bnd h
    refine cRi (run_V (rest := []) C (kX12_directories hI h5) caX12_directories w1845 ⟨rfl, rfl, Nat.le_of_ble_eq_true rfl, Nat.le_of_ble_eq_true rfl⟩ hK hN hP (rM0 hK hP) rfl hl.1 rfl (Nat.le_of_ble_eq_true rfl) dX12_table_130 ⟨Nat.zero_le _, Nat.zero_le _⟩) hS (fun H locs hP hS => ?_)
    have hP : va_P D vwCl (GM cy ad mt q4.2 mb mo ms mk my mu ma me mr mp mg mw mf q2.2 mq) H := hP
    refine lv_istore (lv' := [(7, .int q4.1), (6, .int (mc.1 + ((v4).toInt32))), (0, .ref (ad 0)), (1, .int v1), (2, .int v2), (4, .long v4)]) hx hb dX12_table_133 hl (by decide) rfl (fun ls hl => ?_)
    refine lv_aload_n hx hb dX12_table_135 rfl (lv_at hl 2 rfl) ?_
    refine lv_iload_n hx hb dX12_table_136 rfl (lv_at hl 3 rfl) ?_
    refine lv_iload hx hb dX12_table_137 (lv_at hl 0 rfl) ?_
    obtain ⟨q6, h7, h⟩ := bnd h
    refine cRv (run_V (rest := []) C (kX12_files hI h7) caX12_files w1853 ⟨rfl, rfl, Nat.le_of_ble_eq_true rfl, Nat.le_of_ble_eq_true rfl⟩ hK hN hP (rM0 hK hP) rfl hl.1 rfl (Nat.le_of_ble_eq_true rfl) dX12_table_139 ⟨Nat.zero_le _, Nat.zero_le _⟩) hS (fun H locs hP hS => ?_)
    have hP : va_P D vwCl (GM cy ad mt q6.1 mb mo ms mk my q6.2.1 ma me mr mp mg mw q6.2.2 q2.2 mq) H := hP
    refine lv_aload_n hx hb dX12_table_142 rfl (lv_at hl 2 rfl) ?_
    refine cPi (run_V (rest := []) C (kX12_isRight rfl) caX12_isRight w1682 ⟨rfl, rfl, Nat.le_of_ble_eq_true rfl, Nat.le_of_ble_eq_true rfl⟩ hK hN hP (rM0 hK hP) rfl hl.1 rfl (Nat.le_of_ble_eq_true rfl) dX12_table_143 ⟨Nat.zero_le _, Nat.zero_le _⟩) ?_
    refine lv_if_eq (tgt := 167) hx hb dX12_table_146 (by decide) (fun c8 => ?_) (fun c8 => ?_)
    · rw [if_pos c8] at h
      exact bX12_table_167 C hI hK hN h (lv_sub hl [2, 3, 4] rfl) hP hS
    · rw [if_neg c8] at h
      refine lv_aload_n hx hb dX12_table_149 rfl (lv_at hl 2 rfl) ?_
      refine gM0_77 (v := q6.1.1) C hK hP rfl w1444 dX12_table_150 ?_
      refine lv_iload hx hb dX12_table_153 (lv_at hl 1 rfl) ?_
      refine lv_icmp_eq (tgt := 167) hx hb dX12_table_155 (by decide) (fun c9 => ?_) (fun c9 => ?_)
      · rw [if_pos c9] at h
        exact bX12_table_167 C hI hK hN h (lv_sub hl [2, 3, 4] rfl) hP hS
      · rw [if_neg c9] at h
        refine lv_aload_n hx hb dX12_table_158 rfl (lv_at hl 2 rfl) ?_
        refine lv_iconst (v := (2 : Int32)) hx hb dX12_table_159 (by decide) ?_
        refine lv_aload_n hx hb dX12_table_160 rfl (lv_at hl 2 rfl) ?_
        refine gM0_77 (v := q6.1.1) C hK hP rfl w1444 dX12_table_161 ?_
        obtain ⟨q10, h11, h⟩ := lets h
        refine cRv (run_V (rest := []) C (kX12_fail hI h11) caX12_fail w1678 ⟨rfl, rfl, Nat.le_of_ble_eq_true rfl, Nat.le_of_ble_eq_true rfl⟩ hK hN hP (rM0 hK hP) rfl hl.1 rfl (Nat.le_of_ble_eq_true rfl) dX12_table_164 ⟨Nat.zero_le _, Nat.zero_le _⟩) hS (fun H locs hP hS => ?_)
        have hP : va_P D vwCl (GM cy ad mt q10 mb mo ms mk my q6.2.1 ma me mr mp mg mw q6.2.2 q2.2 mq) H := hP
        exact bX12_table_167 C hI hK hN h (lv_sub hl [2, 3, 4] rfl) hP hS
  · rw [if_pos c1] at h
    obtain rfl := Option.some.inj h
    exact W.vret hx hb hr (fun t ht _ => ⟨rfl, by rw [ht]; exact hP, hS.F ht⟩) hS.2.2 dX12_table_114 hlk
def X12_table (mc : Tmc) (mb : Tmb) (ms : Tms) (mu : Tmu) (mw : Tmw) (mf : Tmf) (ml : Tml) (v1 : Int32) : Option (Tmc × Tmu × Tmw × Tmf × Tml) := (if inb (5 : Int32) 7 = true then (if inb v1 20 = true then ((X12_endOf ms (5 : Int32)).bind fun q3 => ((X12_endOf ms (5 : Int32)).bind fun q5 => ((X12_lengthIn (((ms.2.2.2.2.1 ((5 : Int32)).toNatClampNeg) + (((mu.2.2.2.2.2.2 (v1).toNatClampNeg)).toInt32)), q3, mc.2.2.1, mc.2.2.2) mb q5).bind fun q7 => (if (X12_isRight q7.2) = 0 then some (q7.2, mu, mw, mf, ml) else ((X12_must (q7.2.1, q7.1, q7.2.2.2.1, q7.2.2.2.2) mb (2 : Int32) (5 : Int32)).bind fun q10 => ((X12_must q10 mb (1 : Int32) (8 : Int32)).bind fun q12 => ((X12_must q12 mb (1 : Int32) (0 : Int32)).bind fun q14 => ((X12_number q14 mb (4 : Int32)).bind fun q16 => (if (X12_isRight q16.2) = 0 then X12_table_107 mb ms q16.2 mu mw mf ml v1 q7.1 q16.1 else (if (((q7.1 - q16.2.1)).toInt64) < q16.1 then (letq (X12_fail q16.2 (1 : Int32) q14.1) fun q20 => X12_table_107 mb ms q20 mu mw mf ml v1 q7.1 q16.1) else X12_table_107 mb ms q16.2 mu mw mf ml v1 q7.1 q16.1)))))))))) else none) else none)
set_option maxRecDepth 20000 in
theorem bX12_table_0 (C : Cx p s m args meth c cX12_table 8 none RX12 (.code yX12_table cX12_table 8 none)) (hI : Apart ad 71) (hK : va_K D vwCl (tysX cy) s) (hN : NW s)  {q : Tmc × Tmu × Tmw × Tmf × Tml}  {v1 : Int32} (h : X12_table mc mb ms mu mw mf ml v1 = some q) {ls : Array Slot} (hl : lv_has ls 8 [(0, .ref (ad 0)), (1, .int v1)]) {H : Heap} {locs : List Loc} (hP : va_P D vwCl (GM cy ad mt mc mb mo ms mk my mu ma me mr mp mg mw mf ml mq) H) (hS : va_S (Ac ad 71) s.heap H locs) : W p l e ({ frames := 5, cells := 0, slots := 0, locals := 126 } : Room) s m args below meth c H locs 0 0 (MQ below (QR none D (GM cy ad mt q.1 mb mo ms mk my q.2.1 ma me mr mp mg q.2.2.1 q.2.2.2.1 q.2.2.2.2 mq) (Ac ad 71)) args s 0 0 (Ac ad 71)) (F0 m 0 ls []) := by
  obtain ⟨hx, hb, hml, hown, hts, hr, hlk⟩ := id C
  unfold X12_table at h
  refine lv_aload_n hx hb dX12_table_0 rfl (lv_at hl 0 rfl) ?_
  refine lv_aload_n hx hb dX12_table_1 rfl (lv_at hl 0 rfl) ?_
  refine gM0_20 C hK hP w1387 dX12_table_2 ?_
  refine lv_iconst (v := (5 : Int32)) hx hb dX12_table_5 (by decide) ?_
  obtain ⟨n1, h⟩ := grd h
  refine aM13 (f := ms.2.2.2.2.1) C hK hP rfl n1 dX12_table_6 ?_
  refine lv_aload_n hx hb dX12_table_7 rfl (lv_at hl 0 rfl) ?_
  refine gM0_33 C hK hP w1400 dX12_table_8 ?_
  refine lv_iload_n hx hb dX12_table_11 rfl (lv_at hl 1 rfl) ?_
  obtain ⟨n2, h⟩ := grd h
  refine aM26 (f := mu.2.2.2.2.2.2) C hK hP rfl n2 dX12_table_12 ?_
  refine lv_l2i (v := (((mu.2.2.2.2.2.2 (v1).toNatClampNeg)).toInt32)) hx hb dX12_table_13 rfl ?_
  refine lv_iadd hx hb dX12_table_14 ?_
  refine pM0_77 (v := ((ms.2.2.2.2.1 ((5 : Int32)).toNatClampNeg) + (((mu.2.2.2.2.2.2 (v1).toNatClampNeg)).toInt32))) C hI hK hP hS w1444 dX12_table_15 (fun H locs hP hS => ?_)
  have hP : va_P D vwCl (GM cy ad mt (((ms.2.2.2.2.1 ((5 : Int32)).toNatClampNeg) + (((mu.2.2.2.2.2.2 (v1).toNatClampNeg)).toInt32)), mc.2.1, mc.2.2.1, mc.2.2.2) mb mo ms mk my mu ma me mr mp mg mw mf ml mq) H := hP
  refine lv_aload_n hx hb dX12_table_18 rfl (lv_at hl 0 rfl) ?_
  refine lv_aload_n hx hb dX12_table_19 rfl (lv_at hl 0 rfl) ?_
  refine lv_iconst (v := (5 : Int32)) hx hb dX12_table_20 (by decide) ?_
  obtain ⟨q3, h4, h⟩ := bnd h
  refine cPi (run_V (rest := [.ref (ad 0)]) C (kX12_endOf h4) caX12_endOf w1712 ⟨rfl, rfl, Nat.le_of_ble_eq_true rfl, Nat.le_of_ble_eq_true rfl⟩ hK hN hP (rM0 hK hP) rfl hl.1 rfl (Nat.le_of_ble_eq_true rfl) dX12_table_21 ⟨Nat.zero_le _, Nat.zero_le _⟩) ?_
  refine pM0_78 (v := q3) C hI hK hP hS w1445 dX12_table_24 (fun H locs hP hS => ?_)
  have hP : va_P D vwCl (GM cy ad mt (((ms.2.2.2.2.1 ((5 : Int32)).toNatClampNeg) + (((mu.2.2.2.2.2.2 (v1).toNatClampNeg)).toInt32)), q3, mc.2.2.1, mc.2.2.2) mb mo ms mk my mu ma me mr mp mg mw mf ml mq) H := hP
  refine lv_aload_n hx hb dX12_table_27 rfl (lv_at hl 0 rfl) ?_
  refine lv_aload_n hx hb dX12_table_28 rfl (lv_at hl 0 rfl) ?_
  refine lv_iconst (v := (5 : Int32)) hx hb dX12_table_29 (by decide) ?_
  obtain ⟨q5, h6, h⟩ := bnd h
  refine cPi (run_V (rest := [.ref (ad 0)]) C (kX12_endOf h6) caX12_endOf w1712 ⟨rfl, rfl, Nat.le_of_ble_eq_true rfl, Nat.le_of_ble_eq_true rfl⟩ hK hN hP (rM0 hK hP) rfl hl.1 rfl (Nat.le_of_ble_eq_true rfl) dX12_table_30 ⟨Nat.zero_le _, Nat.zero_le _⟩) ?_
  obtain ⟨q7, h8, h⟩ := bnd h
  refine cRi (run_V (rest := []) C (kX12_lengthIn hI h8) caX12_lengthIn w1720 ⟨rfl, rfl, Nat.le_of_ble_eq_true rfl, Nat.le_of_ble_eq_true rfl⟩ hK hN hP (rM0 hK hP) rfl hl.1 rfl (Nat.le_of_ble_eq_true rfl) dX12_table_33 ⟨Nat.zero_le _, Nat.zero_le _⟩) hS (fun H locs hP hS => ?_)
  have hP : va_P D vwCl (GM cy ad mt q7.2 mb mo ms mk my mu ma me mr mp mg mw mf ml mq) H := hP
  refine lv_istore_n (lv' := [(2, .int q7.1), (0, .ref (ad 0)), (1, .int v1)]) hx hb dX12_table_36 rfl hl (by decide) rfl (fun ls hl => ?_)
  refine lv_aload_n hx hb dX12_table_37 rfl (lv_at hl 1 rfl) ?_
  refine cPi (run_V (rest := []) C (kX12_isRight rfl) caX12_isRight w1682 ⟨rfl, rfl, Nat.le_of_ble_eq_true rfl, Nat.le_of_ble_eq_true rfl⟩ hK hN hP (rM0 hK hP) rfl hl.1 rfl (Nat.le_of_ble_eq_true rfl) dX12_table_38 ⟨Nat.zero_le _, Nat.zero_le _⟩) ?_
  refine lv_if_ne (tgt := 45) hx hb dX12_table_41 (by decide) (fun c9 => ?_) (fun c9 => ?_)
  · rw [if_neg c9] at h
    refine lv_aload_n hx hb dX12_table_45 rfl (lv_at hl 1 rfl) ?_
    refine lv_iload_n hx hb dX12_table_46 rfl (lv_at hl 0 rfl) ?_
    refine pM0_78 (v := q7.1) C hI hK hP hS w1445 dX12_table_47 (fun H locs hP hS => ?_)
    have hP : va_P D vwCl (GM cy ad mt (q7.2.1, q7.1, q7.2.2.2.1, q7.2.2.2.2) mb mo ms mk my mu ma me mr mp mg mw mf ml mq) H := hP
    refine lv_aload_n hx hb dX12_table_50 rfl (lv_at hl 1 rfl) ?_
    refine lv_iconst (v := (2 : Int32)) hx hb dX12_table_51 (by decide) ?_
    refine lv_iconst (v := (5 : Int32)) hx hb dX12_table_52 (by decide) ?_
    obtain ⟨q10, h11, h⟩ := bnd h
    refine cRv (run_V (rest := []) C (kX12_must hI h11) caX12_must w1733 ⟨rfl, rfl, Nat.le_of_ble_eq_true rfl, Nat.le_of_ble_eq_true rfl⟩ hK hN hP (rM0 hK hP) rfl hl.1 rfl (Nat.le_of_ble_eq_true rfl) dX12_table_53 ⟨Nat.zero_le _, Nat.zero_le _⟩) hS (fun H locs hP hS => ?_)
    have hP : va_P D vwCl (GM cy ad mt q10 mb mo ms mk my mu ma me mr mp mg mw mf ml mq) H := hP
    refine lv_aload_n hx hb dX12_table_56 rfl (lv_at hl 1 rfl) ?_
    refine lv_iconst (v := (1 : Int32)) hx hb dX12_table_57 (by decide) ?_
    refine lv_bipush (v := (8 : Int32)) hx hb dX12_table_58 (by decide) ?_
    obtain ⟨q12, h13, h⟩ := bnd h
    refine cRv (run_V (rest := []) C (kX12_must hI h13) caX12_must w1733 ⟨rfl, rfl, Nat.le_of_ble_eq_true rfl, Nat.le_of_ble_eq_true rfl⟩ hK hN hP (rM0 hK hP) rfl hl.1 rfl (Nat.le_of_ble_eq_true rfl) dX12_table_60 ⟨Nat.zero_le _, Nat.zero_le _⟩) hS (fun H locs hP hS => ?_)
    have hP : va_P D vwCl (GM cy ad mt q12 mb mo ms mk my mu ma me mr mp mg mw mf ml mq) H := hP
    refine lv_aload_n hx hb dX12_table_63 rfl (lv_at hl 1 rfl) ?_
    refine lv_iconst (v := (1 : Int32)) hx hb dX12_table_64 (by decide) ?_
    refine lv_iconst (v := (0 : Int32)) hx hb dX12_table_65 (by decide) ?_
    obtain ⟨q14, h15, h⟩ := bnd h
    refine cRv (run_V (rest := []) C (kX12_must hI h15) caX12_must w1733 ⟨rfl, rfl, Nat.le_of_ble_eq_true rfl, Nat.le_of_ble_eq_true rfl⟩ hK hN hP (rM0 hK hP) rfl hl.1 rfl (Nat.le_of_ble_eq_true rfl) dX12_table_66 ⟨Nat.zero_le _, Nat.zero_le _⟩) hS (fun H locs hP hS => ?_)
    have hP : va_P D vwCl (GM cy ad mt q14 mb mo ms mk my mu ma me mr mp mg mw mf ml mq) H := hP
    refine lv_aload_n hx hb dX12_table_69 rfl (lv_at hl 1 rfl) ?_
    refine gM0_77 (v := q14.1) C hK hP rfl w1444 dX12_table_70 ?_
    refine lv_istore_n (lv' := [(3, .int q14.1), (2, .int q7.1), (0, .ref (ad 0)), (1, .int v1)]) hx hb dX12_table_73 rfl hl (by decide) rfl (fun ls hl => ?_)
    refine lv_aload_n hx hb dX12_table_74 rfl (lv_at hl 2 rfl) ?_
    refine lv_iconst (v := (4 : Int32)) hx hb dX12_table_75 (by decide) ?_
    obtain ⟨q16, h17, h⟩ := bnd h
    refine cRl (run_V (rest := []) C (kX12_number hI h17) caX12_number w1724 ⟨rfl, rfl, Nat.le_of_ble_eq_true rfl, Nat.le_of_ble_eq_true rfl⟩ hK hN hP (rM0 hK hP) rfl hl.1 rfl (Nat.le_of_ble_eq_true rfl) dX12_table_76 ⟨Nat.zero_le _, Nat.zero_le _⟩) hS (fun H locs hP hS => ?_)
    have hP : va_P D vwCl (GM cy ad mt q16.2 mb mo ms mk my mu ma me mr mp mg mw mf ml mq) H := hP
    refine lv_lstore (lv' := [(4, .long q16.1), (3, .int q14.1), (2, .int q7.1), (0, .ref (ad 0)), (1, .int v1)]) hx hb dX12_table_79 hl (by decide) rfl (fun ls hl => ?_)
    refine lv_aload_n hx hb dX12_table_81 rfl (lv_at hl 3 rfl) ?_
    refine cPi (run_V (rest := []) C (kX12_isRight rfl) caX12_isRight w1682 ⟨rfl, rfl, Nat.le_of_ble_eq_true rfl, Nat.le_of_ble_eq_true rfl⟩ hK hN hP (rM0 hK hP) rfl hl.1 rfl (Nat.le_of_ble_eq_true rfl) dX12_table_82 ⟨Nat.zero_le _, Nat.zero_le _⟩) ?_
    refine lv_if_eq (tgt := 107) hx hb dX12_table_85 (by decide) (fun c18 => ?_) (fun c18 => ?_)
    · rw [if_pos c18] at h
      exact bX12_table_107 C hI hK hN h (lv_sub hl [3, 4, 2, 0] rfl) hP hS
    · rw [if_neg c18] at h
      refine lv_lload hx hb dX12_table_88 (lv_at hl 0 rfl) ?_
      refine lv_iload_n hx hb dX12_table_90 rfl (lv_at hl 2 rfl) ?_
      refine lv_aload_n hx hb dX12_table_91 rfl (lv_at hl 3 rfl) ?_
      refine gM0_77 (v := q16.2.1) C hK hP rfl w1444 dX12_table_92 ?_
      refine lv_isub hx hb dX12_table_95 ?_
      refine lv_i2l (v := (((q7.1 - q16.2.1)).toInt64)) hx hb dX12_table_96 rfl ?_
      refine lc_le (tgt := 107) hx hb dX12_table_97 dX12_table_98 (by decide) (fun c19 => ?_) (fun c19 => ?_)
      · rw [if_neg c19] at h
        exact bX12_table_107 C hI hK hN h (lv_sub hl [3, 4, 2, 0] rfl) hP hS
      · rw [if_pos c19] at h
        refine lv_aload_n hx hb dX12_table_101 rfl (lv_at hl 3 rfl) ?_
        refine lv_iconst (v := (1 : Int32)) hx hb dX12_table_102 (by decide) ?_
        refine lv_iload_n hx hb dX12_table_103 rfl (lv_at hl 1 rfl) ?_
        obtain ⟨q20, h21, h⟩ := lets h
        refine cRv (run_V (rest := []) C (kX12_fail hI h21) caX12_fail w1678 ⟨rfl, rfl, Nat.le_of_ble_eq_true rfl, Nat.le_of_ble_eq_true rfl⟩ hK hN hP (rM0 hK hP) rfl hl.1 rfl (Nat.le_of_ble_eq_true rfl) dX12_table_104 ⟨Nat.zero_le _, Nat.zero_le _⟩) hS (fun H locs hP hS => ?_)
        have hP : va_P D vwCl (GM cy ad mt q20 mb mo ms mk my mu ma me mr mp mg mw mf ml mq) H := hP
        exact bX12_table_107 C hI hK hN h (lv_sub hl [3, 4, 2, 0] rfl) hP hS
  · rw [if_pos c9] at h
    obtain rfl := Option.some.inj h
    exact W.vret hx hb hr (fun t ht _ => ⟨rfl, by rw [ht]; exact hP, hS.F ht⟩) hS.2.2 dX12_table_44 hlk
theorem kX12_table (hI : Apart ad 71) {v1 : Int32} {q : Tmc × Tmu × Tmw × Tmf × Tml} (h : X12_table mc mb ms mu mw mf ml v1 = some q) : Met l yX12_table (.code yX12_table cX12_table 8 none :: WA) ({ frames := 5, cells := 0, slots := 0, locals := 126 } : Room) (va_Pc [.ref (ad 0), .int v1] (PR D cy (GM cy ad mt mc mb mo ms mk my mu ma me mr mp mg mw mf ml mq))) (QR none D (GM cy ad mt q.1 mb mo ms mk my q.2.1 ma me mr mp mg q.2.2.1 q.2.2.2.1 q.2.2.2.2 mq) (Ac ad 71)) 0 0 (Ac ad 71) :=
  met_of (by decide) (Nat.le_of_ble_eq_true rfl) (fun p e s m below meth c ls C hP hK hN hl => bX12_table_0 C hI hK hN h hl hP va_S.rf)
def X12_lines_78 (mb : Tmb) (ms : Tms) (k2 : Tmc → Tmu → Tmw → Tmf → Tml → Int32 → Option (Tmc × Tmu × Tmw × Tmf × Tml)) (mc : Tmc) (mu : Tmu) (mw : Tmw) (mf : Tmf) (ml : Tml) (v1 : Int32) : Option (Tmc × Tmu × Tmw × Tmf × Tml) := k2 mc mu mw mf ml (v1 + (1 : Int32))
set_option maxRecDepth 20000 in
theorem bX12_lines_78 (C : Cx p s m args meth c cX12_lines 2 none RX12 (.code yX12_lines cX12_lines 2 none)) (hI : Apart ad 71) (hK : va_K D vwCl (tysX cy) s) (hN : NW s) {k2 : Tmc → Tmu → Tmw → Tmf → Tml → Int32 → Option (Tmc × Tmu × Tmw × Tmf × Tml)} {q : Tmc × Tmu × Tmw × Tmf × Tml} (hk2 : ∀ {mc : Tmc} {mu : Tmu} {mw : Tmw} {mf : Tmf} {ml : Tml} {v1 : Int32}, k2 mc mu mw mf ml v1 = some q → ∀ {ls : Array Slot}, lv_has ls 2 [(0, .ref (ad 0)), (1, .int v1)] → ∀ {H : Heap} {locs : List Loc}, va_P D vwCl (GM cy ad mt mc mb mo ms mk my mu ma me mr mp mg mw mf ml mq) H → va_S (Ac ad 71) s.heap H locs → W p l e ({ frames := 6, cells := 0, slots := 0, locals := 153 } : Room) s m args below meth c H locs 0 0 (MQ below (QR none D (GM cy ad mt q.1 mb mo ms mk my q.2.1 ma me mr mp mg q.2.2.1 q.2.2.2.1 q.2.2.2.2 mq) (Ac ad 71)) args s 0 0 (Ac ad 71)) (F0 m 2 ls [])) {v1 : Int32} (h : X12_lines_78 mb ms k2 mc mu mw mf ml v1 = some q) {ls : Array Slot} (hl : lv_has ls 2 [(0, .ref (ad 0)), (1, .int v1)]) {H : Heap} {locs : List Loc} (hP : va_P D vwCl (GM cy ad mt mc mb mo ms mk my mu ma me mr mp mg mw mf ml mq) H) (hS : va_S (Ac ad 71) s.heap H locs) : W p l e ({ frames := 6, cells := 0, slots := 0, locals := 153 } : Room) s m args below meth c H locs 0 0 (MQ below (QR none D (GM cy ad mt q.1 mb mo ms mk my q.2.1 ma me mr mp mg q.2.2.1 q.2.2.2.1 q.2.2.2.2 mq) (Ac ad 71)) args s 0 0 (Ac ad 71)) (F0 m 78 ls []) := by
  obtain ⟨hx, hb, hml, hown, hts, hr, hlk⟩ := id C
  unfold X12_lines_78 at h
  refine lv_iinc (v := (v1 + (1 : Int32))) (lv' := [(1, .int (v1 + (1 : Int32))), (0, .ref (ad 0))]) hx hb dX12_lines_78 hl (k := 1) rfl rfl (by decide) rfl (fun ls hl => ?_)
  refine lv_goto (tgt := 2) hx hb dX12_lines_81 (by decide) ?_
  exact hk2 h (lv_sub hl [1, 0] rfl) hP hS
def X12_lines_2b (mb : Tmb) (ms : Tms)  (k2 : Tmc → Tmu → Tmw → Tmf → Tml → Int32 → Option (Tmc × Tmu × Tmw × Tmf × Tml)) (mc : Tmc) (mu : Tmu) (mw : Tmw) (mf : Tmf) (ml : Tml) (v1 : Int32) : Option (Tmc × Tmu × Tmw × Tmf × Tml) := (if inb mb.2.1 2 = true then (if v1 < (mu.1 (mb.2.1).toNatClampNeg) then (if (X12_isRight mc) = 0 then some (mc, mu, mw, mf, ml) else (if inb v1 20 = true then (if (mu.2.2.2.2.2.1 (v1).toNatClampNeg) = 0 then X12_lines_78 mb ms k2 mc mu mw mf ml v1 else (if inb v1 20 = true then (if inb (5 : Int32) 7 = true then (if (mu.2.2.2.2.2.2 (v1).toNatClampNeg) < (((ms.2.2.2.2.2 ((5 : Int32)).toNatClampNeg)).toInt64) then ((X12_table mc mb ms mu mw mf ml v1).bind fun q9 => X12_lines_78 mb ms k2 q9.1 q9.2.1 q9.2.2.1 q9.2.2.2.1 q9.2.2.2.2 v1) else (if inb (((20 : Int32) * mb.2.1) + v1) 40 = true then (letq (X12_fail mc (3 : Int32) (mu.2.1 ((((20 : Int32) * mb.2.1) + v1)).toNatClampNeg)) fun q12 => X12_lines_78 mb ms k2 q12 mu mw mf ml v1) else none)) else none) else none)) else none)) else some (mc, mu, mw, mf, ml)) else none)
def X12_lines_2 (mb : Tmb) (ms : Tms)  (n : Nat) (st : Tmc × Tmu × Tmw × Tmf × Tml × Int32) : Option (Tmc × Tmu × Tmw × Tmf × Tml) := lp (fun rec st => X12_lines_2b mb ms  (fun a0 a1 a2 a3 a4 a5 => rec (a0, a1, a2, a3, a4, a5)) st.1 st.2.1 st.2.2.1 st.2.2.2.1 st.2.2.2.2.1 st.2.2.2.2.2) n st
set_option maxRecDepth 20000 in
theorem bX12_lines_2 (C : Cx p s m args meth c cX12_lines 2 none RX12 (.code yX12_lines cX12_lines 2 none)) (hI : Apart ad 71) (hK : va_K D vwCl (tysX cy) s) (hN : NW s)  {q : Tmc × Tmu × Tmw × Tmf × Tml}  : ∀ (n : Nat) {mc : Tmc} {mu : Tmu} {mw : Tmw} {mf : Tmf} {ml : Tml} {v1 : Int32}, X12_lines_2 mb ms  n (mc, mu, mw, mf, ml, v1) = some q → ∀ {ls : Array Slot}, lv_has ls 2 [(0, .ref (ad 0)), (1, .int v1)] → ∀ {H : Heap} {locs : List Loc}, va_P D vwCl (GM cy ad mt mc mb mo ms mk my mu ma me mr mp mg mw mf ml mq) H → va_S (Ac ad 71) s.heap H locs → W p l e ({ frames := 6, cells := 0, slots := 0, locals := 153 } : Room) s m args below meth c H locs 0 0 (MQ below (QR none D (GM cy ad mt q.1 mb mo ms mk my q.2.1 ma me mr mp mg q.2.2.1 q.2.2.2.1 q.2.2.2.2 mq) (Ac ad 71)) args s 0 0 (Ac ad 71)) (F0 m 2 ls []) := by
  obtain ⟨hx, hb, hml, hown, hts, hr, hlk⟩ := id C
  intro n
  induction n with
  | zero =>
    intro mc mu mw mf ml v1 h ls hl H locs hP hS
    have h : (none : Option (Tmc × Tmu × Tmw × Tmf × Tml)) = some q := h
    cases h
  | succ n ih =>
    intro mc mu mw mf ml v1 h ls hl H locs hP hS
    have h : X12_lines_2b mb ms  (fun a0 a1 a2 a3 a4 a5 => X12_lines_2 mb ms  n (a0, a1, a2, a3, a4, a5)) mc mu mw mf ml v1 = some q := h
    unfold X12_lines_2b at h
    refine lv_iload_n hx hb dX12_lines_2 rfl (lv_at hl 1 rfl) ?_
    refine lv_aload_n hx hb dX12_lines_3 rfl (lv_at hl 0 rfl) ?_
    refine gM0_12 C hK hP w1379 dX12_lines_4 ?_
    refine lv_aload_n hx hb dX12_lines_7 rfl (lv_at hl 0 rfl) ?_
    refine gM0_6 (v := mb.2.1) C hK hP rfl w1373 dX12_lines_8 ?_
    obtain ⟨n1, h⟩ := grd h
    refine aM5 (f := mu.1) C hK hP rfl n1 dX12_lines_11 ?_
    refine b_icmp_ge (tgt := 84) hx hb dX12_lines_12 (by decide) (fun c2 => ?_) (fun c2 => ?_)
    · rw [if_neg c2] at h
      obtain rfl := Option.some.inj h
      exact W.vret hx hb hr (fun t ht _ => ⟨rfl, by rw [ht]; exact hP, hS.F ht⟩) hS.2.2 dX12_lines_84 hlk
    · rw [if_pos c2] at h
      refine lv_aload_n hx hb dX12_lines_15 rfl (lv_at hl 0 rfl) ?_
      refine cPi (run_V (rest := []) C (kX12_isRight rfl) caX12_isRight w1682 ⟨rfl, rfl, Nat.le_of_ble_eq_true rfl, Nat.le_of_ble_eq_true rfl⟩ hK hN hP (rM0 hK hP) rfl hl.1 rfl (Nat.le_of_ble_eq_true rfl) dX12_lines_16 ⟨Nat.zero_le _, Nat.zero_le _⟩) ?_
      refine lv_if_eq (tgt := 84) hx hb dX12_lines_19 (by decide) (fun c3 => ?_) (fun c3 => ?_)
      · rw [if_pos c3] at h
        obtain rfl := Option.some.inj h
        exact W.vret hx hb hr (fun t ht _ => ⟨rfl, by rw [ht]; exact hP, hS.F ht⟩) hS.2.2 dX12_lines_84 hlk
      · rw [if_neg c3] at h
        refine lv_aload_n hx hb dX12_lines_22 rfl (lv_at hl 0 rfl) ?_
        refine gM0_32 C hK hP w1399 dX12_lines_23 ?_
        refine lv_iload_n hx hb dX12_lines_26 rfl (lv_at hl 1 rfl) ?_
        obtain ⟨n4, h⟩ := grd h
        refine aM25 (f := mu.2.2.2.2.2.1) C hK hP rfl n4 dX12_lines_27 ?_
        refine lv_if_ne (tgt := 34) hx hb dX12_lines_28 (by decide) (fun c5 => ?_) (fun c5 => ?_)
        · rw [if_neg c5] at h
          refine lv_aload_n hx hb dX12_lines_34 rfl (lv_at hl 0 rfl) ?_
          refine gM0_33 C hK hP w1400 dX12_lines_35 ?_
          refine lv_iload_n hx hb dX12_lines_38 rfl (lv_at hl 1 rfl) ?_
          obtain ⟨n6, h⟩ := grd h
          refine aM26 (f := mu.2.2.2.2.2.2) C hK hP rfl n6 dX12_lines_39 ?_
          refine lv_aload_n hx hb dX12_lines_40 rfl (lv_at hl 0 rfl) ?_
          refine gM0_21 C hK hP w1388 dX12_lines_41 ?_
          refine lv_iconst (v := (5 : Int32)) hx hb dX12_lines_44 (by decide) ?_
          obtain ⟨n7, h⟩ := grd h
          refine aM14 (f := ms.2.2.2.2.2) C hK hP rfl n7 dX12_lines_45 ?_
          refine lv_i2l (v := (((ms.2.2.2.2.2 ((5 : Int32)).toNatClampNeg)).toInt64)) hx hb dX12_lines_46 rfl ?_
          refine lc_lt (tgt := 73) hx hb dX12_lines_47 dX12_lines_48 (by decide) (fun c8 => ?_) (fun c8 => ?_)
          · rw [if_pos c8] at h
            refine lv_aload_n hx hb dX12_lines_73 rfl (lv_at hl 0 rfl) ?_
            refine lv_iload_n hx hb dX12_lines_74 rfl (lv_at hl 1 rfl) ?_
            obtain ⟨q9, h10, h⟩ := bnd h
            refine cRv (run_V (rest := []) C (kX12_table hI h10) caX12_table w1837 ⟨rfl, rfl, Nat.le_of_ble_eq_true rfl, Nat.le_of_ble_eq_true rfl⟩ hK hN hP (rM0 hK hP) rfl hl.1 rfl (Nat.le_of_ble_eq_true rfl) dX12_lines_75 ⟨Nat.zero_le _, Nat.zero_le _⟩) hS (fun H locs hP hS => ?_)
            have hP : va_P D vwCl (GM cy ad mt q9.1 mb mo ms mk my q9.2.1 ma me mr mp mg q9.2.2.1 q9.2.2.2.1 q9.2.2.2.2 mq) H := hP
            exact bX12_lines_78 C hI hK hN @ih h (lv_sub hl [0, 1] rfl) hP hS
          · rw [if_neg c8] at h
            refine lv_aload_n hx hb dX12_lines_51 rfl (lv_at hl 0 rfl) ?_
            refine lv_iconst (v := (3 : Int32)) hx hb dX12_lines_52 (by decide) ?_
            refine lv_aload_n hx hb dX12_lines_53 rfl (lv_at hl 0 rfl) ?_
            refine gM0_28 C hK hP w1395 dX12_lines_54 ?_
            refine lv_bipush (v := (20 : Int32)) hx hb dX12_lines_57 (by decide) ?_
            refine lv_aload_n hx hb dX12_lines_59 rfl (lv_at hl 0 rfl) ?_
            refine gM0_6 (v := mb.2.1) C hK hP rfl w1373 dX12_lines_60 ?_
            refine lv_imul hx hb dX12_lines_63 ?_
            refine lv_iload_n hx hb dX12_lines_64 rfl (lv_at hl 1 rfl) ?_
            refine lv_iadd hx hb dX12_lines_65 ?_
            obtain ⟨n11, h⟩ := grd h
            refine aM21 (f := mu.2.1) C hK hP rfl n11 dX12_lines_66 ?_
            obtain ⟨q12, h13, h⟩ := lets h
            refine cRv (run_V (rest := []) C (kX12_fail hI h13) caX12_fail w1678 ⟨rfl, rfl, Nat.le_of_ble_eq_true rfl, Nat.le_of_ble_eq_true rfl⟩ hK hN hP (rM0 hK hP) rfl hl.1 rfl (Nat.le_of_ble_eq_true rfl) dX12_lines_67 ⟨Nat.zero_le _, Nat.zero_le _⟩) hS (fun H locs hP hS => ?_)
            have hP : va_P D vwCl (GM cy ad mt q12 mb mo ms mk my mu ma me mr mp mg mw mf ml mq) H := hP
            refine lv_goto (tgt := 78) hx hb dX12_lines_70 (by decide) ?_
            exact bX12_lines_78 C hI hK hN @ih h (lv_sub hl [0, 1] rfl) hP hS
        · rw [if_pos c5] at h
          refine lv_goto (tgt := 78) hx hb dX12_lines_31 (by decide) ?_
          exact bX12_lines_78 C hI hK hN @ih h (lv_sub hl [0, 1] rfl) hP hS
def X12_lines (mc : Tmc) (mb : Tmb) (ms : Tms) (mu : Tmu) (mw : Tmw) (mf : Tmf) (ml : Tml)  : Option (Tmc × Tmu × Tmw × Tmf × Tml) := X12_lines_2 mb ms FU (mc, mu, mw, mf, ml, (0 : Int32))
set_option maxRecDepth 20000 in
theorem bX12_lines_0 (C : Cx p s m args meth c cX12_lines 2 none RX12 (.code yX12_lines cX12_lines 2 none)) (hI : Apart ad 71) (hK : va_K D vwCl (tysX cy) s) (hN : NW s)  {q : Tmc × Tmu × Tmw × Tmf × Tml}   (h : X12_lines mc mb ms mu mw mf ml = some q) {ls : Array Slot} (hl : lv_has ls 2 [(0, .ref (ad 0))]) {H : Heap} {locs : List Loc} (hP : va_P D vwCl (GM cy ad mt mc mb mo ms mk my mu ma me mr mp mg mw mf ml mq) H) (hS : va_S (Ac ad 71) s.heap H locs) : W p l e ({ frames := 6, cells := 0, slots := 0, locals := 153 } : Room) s m args below meth c H locs 0 0 (MQ below (QR none D (GM cy ad mt q.1 mb mo ms mk my q.2.1 ma me mr mp mg q.2.2.1 q.2.2.2.1 q.2.2.2.2 mq) (Ac ad 71)) args s 0 0 (Ac ad 71)) (F0 m 0 ls []) := by
  obtain ⟨hx, hb, hml, hown, hts, hr, hlk⟩ := id C
  unfold X12_lines at h
  refine lv_iconst (v := (0 : Int32)) hx hb dX12_lines_0 (by decide) ?_
  refine lv_istore_n (lv' := [(1, .int (0 : Int32)), (0, .ref (ad 0))]) hx hb dX12_lines_1 rfl hl (by decide) rfl (fun ls hl => ?_)
  exact bX12_lines_2 C hI hK hN FU h (lv_sub hl [1, 0] rfl) hP hS
theorem kX12_lines (hI : Apart ad 71)  {q : Tmc × Tmu × Tmw × Tmf × Tml} (h : X12_lines mc mb ms mu mw mf ml = some q) : Met l yX12_lines (.code yX12_lines cX12_lines 2 none :: WA) ({ frames := 6, cells := 0, slots := 0, locals := 153 } : Room) (va_Pc [.ref (ad 0)] (PR D cy (GM cy ad mt mc mb mo ms mk my mu ma me mr mp mg mw mf ml mq))) (QR none D (GM cy ad mt q.1 mb mo ms mk my q.2.1 ma me mr mp mg q.2.2.1 q.2.2.2.1 q.2.2.2.2 mq) (Ac ad 71)) 0 0 (Ac ad 71) :=
  met_of (by decide) (Nat.le_of_ble_eq_true rfl) (fun p e s m below meth c ls C hP hK hN hl => bX12_lines_0 C hI hK hN h hl hP va_S.rf)
end
