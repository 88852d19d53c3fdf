section
variable {t adK adV : Nat → Nat} {k : Nat}
variable {p : Program} {l : Launch} {e : Env} {s : State} {m : MethodId} {args : Array Value} {below : List Frame} {meth : Method} {c : Code} {D : va_G} {cy : Nat → ClassId} {ad : Nat → Nat}
variable {mt : Tmt} {mc : Tmc} {mb : Tmb} {mo : Tmo} {ms : Tms} {mk : Tmk} {my : Tmy} {mu : Tmu} {ma : Tma} {me : Tme} {mr : Tmr} {mp : Tmp} {mg : Tmg} {mw : Tmw} {mf : Tmf} {ml : Tml} {mq : Tmq}
def X12_load_173 (mt : Tmt) (mk : Tmk)  (mc : Tmc) (mb : Tmb) (mo : Tmo) (ms : Tms) (my : Tmy) (mu : Tmu) (ma : Tma) (me : Tme) (mr : Tmr) (mp : Tmp) (mg : Tmg) (mw : Tmw) (mf : Tmf) (ml : Tml) (mq : Tmq)  : Option (Int32 × Tmc × Tmb × Tmo × Tms × Tmy × Tmu × Tma × Tme × Tmr × Tmp × Tmg × Tmw × Tmf × Tml × Tmq) := (if (X12_isRight mc) = 0 then some ((-1 : Int32), mc, mb, (mo.1, mc.2.2.1, mc.2.2.2), ms, my, mu, ma, me, mr, mp, mg, mw, mf, ml, mq) else (if inb mb.2.1 2 = true then some ((me.1 (mb.2.1).toNatClampNeg), mc, (mb.1, ((1 : Int32) - mb.2.1), mb.2.2), (mb.2.1, mc.2.2.1, mc.2.2.2), ms, my, mu, ma, me, mr, mp, mg, mw, mf, ml, ((0 : Int32), mq.2.1, mq.2.2.1, mq.2.2.2.1, (-1 : Int32), mq.2.2.2.2.2)) else none))
set_option maxRecDepth 20000 in
theorem bX12_load_173 (C : Cx p s m args meth c cX12_load 2 (some .int) RX12 (.code yX12_load cX12_load 2 (some .int))) (hI : Apart ad 71) (hK : va_K D vwCl (tysX cy) s) (hN : NW s)  {q : Int32 × Tmc × Tmb × Tmo × Tms × Tmy × Tmu × Tma × Tme × Tmr × Tmp × Tmg × Tmw × Tmf × Tml × Tmq}   (h : X12_load_173 mt mk mc mb mo ms my mu ma me mr mp mg mw mf ml mq = some q) {ls : Array Slot} (hl : lv_has ls 2 [(0, .ref (ad 0))]) {H : Heap} {locs : List Loc} (hP : va_P D vwCl (GM cy ad mt mc mb mo ms mk my mu ma me mr mp mg mw mf ml mq) H) (hS : va_S (Ac ad 71) s.heap H locs) : W p l e ({ frames := 8, cells := 0, slots := 0, locals := 202 } : Room) s m args below meth c H locs 0 0 (MQ below (QR (some (.int q.1)) D (GM cy ad mt q.2.1 q.2.2.1 q.2.2.2.1 q.2.2.2.2.1 mk q.2.2.2.2.2.1 q.2.2.2.2.2.2.1 q.2.2.2.2.2.2.2.1 q.2.2.2.2.2.2.2.2.1 q.2.2.2.2.2.2.2.2.2.1 q.2.2.2.2.2.2.2.2.2.2.1 q.2.2.2.2.2.2.2.2.2.2.2.1 q.2.2.2.2.2.2.2.2.2.2.2.2.1 q.2.2.2.2.2.2.2.2.2.2.2.2.2.1 q.2.2.2.2.2.2.2.2.2.2.2.2.2.2.1 q.2.2.2.2.2.2.2.2.2.2.2.2.2.2.2) (Ac ad 71)) args s 0 0 (Ac ad 71)) (F0 m 173 ls []) := by
  obtain ⟨hx, hb, hml, hown, hts, hr, hlk⟩ := id C
  unfold X12_load_173 at h
  refine lv_aload_n hx hb dX12_load_173 rfl (lv_at hl 0 rfl) ?_
  refine lv_aload_n hx hb dX12_load_174 rfl (lv_at hl 0 rfl) ?_
  refine gM0_2 (v := mc.2.2.1) C hK hP rfl w1369 dX12_load_175 ?_
  refine pM0_4 (v := mc.2.2.1) C hI hK hP hS w1371 dX12_load_178 (fun H locs hP hS => ?_)
  have hP : va_P D vwCl (GM cy ad mt mc mb (mo.1, mc.2.2.1, mo.2.2) ms mk my mu ma me mr mp mg mw mf ml mq) H := hP
  refine lv_aload_n hx hb dX12_load_181 rfl (lv_at hl 0 rfl) ?_
  refine lv_aload_n hx hb dX12_load_182 rfl (lv_at hl 0 rfl) ?_
  refine gM0_3 (v := mc.2.2.2) C hK hP rfl w1370 dX12_load_183 ?_
  refine pM0_5 (v := mc.2.2.2) C hI hK hP hS w1372 dX12_load_186 (fun H locs hP hS => ?_)
  have hP : va_P D vwCl (GM cy ad mt mc mb (mo.1, mc.2.2.1, mc.2.2.2) ms mk my mu ma me mr mp mg mw mf ml mq) H := hP
  refine lv_aload_n hx hb dX12_load_189 rfl (lv_at hl 0 rfl) ?_
  refine cPi (run_V (rest := []) C (kX12_isRight rfl) caX12_isRight w1682 ⟨rfl, rfl, Nat.le_of_ble_eq_true rfl, Nat.le_of_ble_eq_true rfl⟩ hK hN hP (rM0 hK hP) rfl hl.1 rfl (Nat.le_of_ble_eq_true rfl) dX12_load_190 ⟨Nat.zero_le _, Nat.zero_le _⟩) ?_
  refine lv_if_ne (tgt := 198) hx hb dX12_load_193 (by decide) (fun c1 => ?_) (fun c1 => ?_)
  · rw [if_neg c1] at h
    refine lv_aload_n hx hb dX12_load_198 rfl (lv_at hl 0 rfl) ?_
    refine lv_aload_n hx hb dX12_load_199 rfl (lv_at hl 0 rfl) ?_
    refine gM0_6 (v := mb.2.1) C hK hP rfl w1373 dX12_load_200 ?_
    refine pM0_7 (v := mb.2.1) C hI hK hP hS w1374 dX12_load_203 (fun H locs hP hS => ?_)
    have hP : va_P D vwCl (GM cy ad mt mc mb (mb.2.1, mc.2.2.1, mc.2.2.2) ms mk my mu ma me mr mp mg mw mf ml mq) H := hP
    refine lv_aload_n hx hb dX12_load_206 rfl (lv_at hl 0 rfl) ?_
    refine lv_iconst (v := (1 : Int32)) hx hb dX12_load_207 (by decide) ?_
    refine lv_aload_n hx hb dX12_load_208 rfl (lv_at hl 0 rfl) ?_
    refine gM0_6 (v := mb.2.1) C hK hP rfl w1373 dX12_load_209 ?_
    refine lv_isub hx hb dX12_load_212 ?_
    refine pM0_6 (v := ((1 : Int32) - mb.2.1)) C hI hK hP hS w1373 dX12_load_213 (fun H locs hP hS => ?_)
    have hP : va_P D vwCl (GM cy ad mt mc (mb.1, ((1 : Int32) - mb.2.1), mb.2.2) (mb.2.1, mc.2.2.1, mc.2.2.2) ms mk my mu ma me mr mp mg mw mf ml mq) H := hP
    refine lv_aload_n hx hb dX12_load_216 rfl (lv_at hl 0 rfl) ?_
    refine lv_iconst (v := (0 : Int32)) hx hb dX12_load_217 (by decide) ?_
    refine pM0_89 (v := (0 : Int32)) C hI hK hP hS w1456 dX12_load_218 (fun H locs hP hS => ?_)
    have hP : va_P D vwCl (GM cy ad mt mc (mb.1, ((1 : Int32) - mb.2.1), mb.2.2) (mb.2.1, mc.2.2.1, mc.2.2.2) ms mk my mu ma me mr mp mg mw mf ml ((0 : Int32), mq.2.1, mq.2.2.1, mq.2.2.2.1, mq.2.2.2.2.1, mq.2.2.2.2.2)) H := hP
    refine lv_aload_n hx hb dX12_load_221 rfl (lv_at hl 0 rfl) ?_
    refine lv_iconst (v := (-1 : Int32)) hx hb dX12_load_222 (by decide) ?_
    refine pM0_93 (v := (-1 : Int32)) C hI hK hP hS w1460 dX12_load_223 (fun H locs hP hS => ?_)
    have hP : va_P D vwCl (GM cy ad mt mc (mb.1, ((1 : Int32) - mb.2.1), mb.2.2) (mb.2.1, mc.2.2.1, mc.2.2.2) ms mk my mu ma me mr mp mg mw mf ml ((0 : Int32), mq.2.1, mq.2.2.1, mq.2.2.2.1, (-1 : Int32), mq.2.2.2.2.2)) H := hP
    refine lv_aload_n hx hb dX12_load_226 rfl (lv_at hl 0 rfl) ?_
    refine gM0_13 C hK hP w1380 dX12_load_227 ?_
    refine lv_aload_n hx hb dX12_load_230 rfl (lv_at hl 0 rfl) ?_
    refine gM0_7 (v := mb.2.1) C hK hP rfl w1374 dX12_load_231 ?_
    obtain ⟨n2, h⟩ := grd h
    refine aM6 (f := me.1) C hK hP rfl n2 dX12_load_234 ?_
    obtain rfl := Option.some.inj h
    exact W.iret hx hb hr (fun t ht _ => ⟨rfl, by rw [ht]; exact hP, hS.F ht⟩) hS.2.2 dX12_load_235 hlk
  · rw [if_pos c1] at h
    refine lv_iconst (v := (-1 : Int32)) hx hb dX12_load_196 (by decide) ?_
    obtain rfl := Option.some.inj h
    exact W.iret hx hb hr (fun t ht _ => ⟨rfl, by rw [ht]; exact hP, hS.F ht⟩) hS.2.2 dX12_load_197 hlk
def X12_load_162 (mt : Tmt) (mk : Tmk)  (mc : Tmc) (mb : Tmb) (mo : Tmo) (ms : Tms) (my : Tmy) (mu : Tmu) (ma : Tma) (me : Tme) (mr : Tmr) (mp : Tmp) (mg : Tmg) (mw : Tmw) (mf : Tmf) (ml : Tml) (mq : Tmq)  : Option (Int32 × Tmc × Tmb × Tmo × Tms × Tmy × Tmu × Tma × Tme × Tmr × Tmp × Tmg × Tmw × Tmf × Tml × Tmq) := (if (X12_isRight mc) = 0 then X12_load_173 mt mk mc mb mo ms my mu ma me mr mp mg mw mf ml mq else ((X12_lines mc mb ms mu mw mf ml).bind fun q2 => X12_load_173 mt mk q2.1 mb mo ms my q2.2.1 ma me mr mp mg q2.2.2.1 q2.2.2.2.1 q2.2.2.2.2 mq))
set_option maxRecDepth 20000 in
theorem bX12_load_162 (C : Cx p s m args meth c cX12_load 2 (some .int) RX12 (.code yX12_load cX12_load 2 (some .int))) (hI : Apart ad 71) (hK : va_K D vwCl (tysX cy) s) (hN : NW s)  {q : Int32 × Tmc × Tmb × Tmo × Tms × Tmy × Tmu × Tma × Tme × Tmr × Tmp × Tmg × Tmw × Tmf × Tml × Tmq}   (h : X12_load_162 mt mk mc mb mo ms my mu ma me mr mp mg mw mf ml mq = some q) {ls : Array Slot} (hl : lv_has ls 2 [(0, .ref (ad 0))]) {H : Heap} {locs : List Loc} (hP : va_P D vwCl (GM cy ad mt mc mb mo ms mk my mu ma me mr mp mg mw mf ml mq) H) (hS : va_S (Ac ad 71) s.heap H locs) : W p l e ({ frames := 8, cells := 0, slots := 0, locals := 202 } : Room) s m args below meth c H locs 0 0 (MQ below (QR (some (.int q.1)) D (GM cy ad mt q.2.1 q.2.2.1 q.2.2.2.1 q.2.2.2.2.1 mk q.2.2.2.2.2.1 q.2.2.2.2.2.2.1 q.2.2.2.2.2.2.2.1 q.2.2.2.2.2.2.2.2.1 q.2.2.2.2.2.2.2.2.2.1 q.2.2.2.2.2.2.2.2.2.2.1 q.2.2.2.2.2.2.2.2.2.2.2.1 q.2.2.2.2.2.2.2.2.2.2.2.2.1 q.2.2.2.2.2.2.2.2.2.2.2.2.2.1 q.2.2.2.2.2.2.2.2.2.2.2.2.2.2.1 q.2.2.2.2.2.2.2.2.2.2.2.2.2.2.2) (Ac ad 71)) args s 0 0 (Ac ad 71)) (F0 m 162 ls []) := by
  obtain ⟨hx, hb, hml, hown, hts, hr, hlk⟩ := id C
  unfold X12_load_162 at h
  refine lv_aload_n hx hb dX12_load_162 rfl (lv_at hl 0 rfl) ?_
  refine cPi (run_V (rest := []) C (kX12_isRight rfl) caX12_isRight w1682 ⟨rfl, rfl, Nat.le_of_ble_eq_true rfl, Nat.le_of_ble_eq_true rfl⟩ hK hN hP (rM0 hK hP) rfl hl.1 rfl (Nat.le_of_ble_eq_true rfl) dX12_load_163 ⟨Nat.zero_le _, Nat.zero_le _⟩) ?_
  refine lv_if_eq (tgt := 173) hx hb dX12_load_166 (by decide) (fun c1 => ?_) (fun c1 => ?_)
  · rw [if_pos c1] at h
    exact bX12_load_173 C hI hK hN h (lv_sub hl [0] rfl) hP hS
  · rw [if_neg c1] at h
    refine lv_aload_n hx hb dX12_load_169 rfl (lv_at hl 0 rfl) ?_
    obtain ⟨q2, h3, h⟩ := bnd h
    refine cRv (run_V (rest := []) C (kX12_lines hI h3) caX12_lines w1833 ⟨rfl, rfl, Nat.le_of_ble_eq_true rfl, Nat.le_of_ble_eq_true rfl⟩ hK hN hP (rM0 hK hP) rfl hl.1 rfl (Nat.le_of_ble_eq_true rfl) dX12_load_170 ⟨Nat.zero_le _, Nat.zero_le _⟩) hS (fun H locs hP hS => ?_)
    have hP : va_P D vwCl (GM cy ad mt q2.1 mb mo ms mk my q2.2.1 ma me mr mp mg q2.2.2.1 q2.2.2.2.1 q2.2.2.2.2 mq) H := hP
    exact bX12_load_173 C hI hK hN h (lv_sub hl [0] rfl) hP hS
def X12_load_151 (mt : Tmt) (mk : Tmk)  (mc : Tmc) (mb : Tmb) (mo : Tmo) (ms : Tms) (my : Tmy) (mu : Tmu) (ma : Tma) (me : Tme) (mr : Tmr) (mp : Tmp) (mg : Tmg) (mw : Tmw) (mf : Tmf) (ml : Tml) (mq : Tmq)  : Option (Int32 × Tmc × Tmb × Tmo × Tms × Tmy × Tmu × Tma × Tme × Tmr × Tmp × Tmg × Tmw × Tmf × Tml × Tmq) := (if (X12_isRight mc) = 0 then X12_load_162 mt mk mc mb mo ms my mu ma me mr mp mg mw mf ml mq else ((X12_ranges mc mb ms mu me mg).bind fun q2 => X12_load_162 mt mk q2.1 mb mo ms my mu ma me mr mp q2.2 mw mf ml mq))
set_option maxRecDepth 20000 in
theorem bX12_load_151 (C : Cx p s m args meth c cX12_load 2 (some .int) RX12 (.code yX12_load cX12_load 2 (some .int))) (hI : Apart ad 71) (hK : va_K D vwCl (tysX cy) s) (hN : NW s)  {q : Int32 × Tmc × Tmb × Tmo × Tms × Tmy × Tmu × Tma × Tme × Tmr × Tmp × Tmg × Tmw × Tmf × Tml × Tmq}   (h : X12_load_151 mt mk mc mb mo ms my mu ma me mr mp mg mw mf ml mq = some q) {ls : Array Slot} (hl : lv_has ls 2 [(0, .ref (ad 0))]) {H : Heap} {locs : List Loc} (hP : va_P D vwCl (GM cy ad mt mc mb mo ms mk my mu ma me mr mp mg mw mf ml mq) H) (hS : va_S (Ac ad 71) s.heap H locs) : W p l e ({ frames := 8, cells := 0, slots := 0, locals := 202 } : Room) s m args below meth c H locs 0 0 (MQ below (QR (some (.int q.1)) D (GM cy ad mt q.2.1 q.2.2.1 q.2.2.2.1 q.2.2.2.2.1 mk q.2.2.2.2.2.1 q.2.2.2.2.2.2.1 q.2.2.2.2.2.2.2.1 q.2.2.2.2.2.2.2.2.1 q.2.2.2.2.2.2.2.2.2.1 q.2.2.2.2.2.2.2.2.2.2.1 q.2.2.2.2.2.2.2.2.2.2.2.1 q.2.2.2.2.2.2.2.2.2.2.2.2.1 q.2.2.2.2.2.2.2.2.2.2.2.2.2.1 q.2.2.2.2.2.2.2.2.2.2.2.2.2.2.1 q.2.2.2.2.2.2.2.2.2.2.2.2.2.2.2) (Ac ad 71)) args s 0 0 (Ac ad 71)) (F0 m 151 ls []) := by
  obtain ⟨hx, hb, hml, hown, hts, hr, hlk⟩ := id C
  unfold X12_load_151 at h
  refine lv_aload_n hx hb dX12_load_151 rfl (lv_at hl 0 rfl) ?_
  refine cPi (run_V (rest := []) C (kX12_isRight rfl) caX12_isRight w1682 ⟨rfl, rfl, Nat.le_of_ble_eq_true rfl, Nat.le_of_ble_eq_true rfl⟩ hK hN hP (rM0 hK hP) rfl hl.1 rfl (Nat.le_of_ble_eq_true rfl) dX12_load_152 ⟨Nat.zero_le _, Nat.zero_le _⟩) ?_
  refine lv_if_eq (tgt := 162) hx hb dX12_load_155 (by decide) (fun c1 => ?_) (fun c1 => ?_)
  · rw [if_pos c1] at h
    exact bX12_load_162 C hI hK hN h (lv_sub hl [0] rfl) hP hS
  · rw [if_neg c1] at h
    refine lv_aload_n hx hb dX12_load_158 rfl (lv_at hl 0 rfl) ?_
    obtain ⟨q2, h3, h⟩ := bnd h
    refine cRv (run_V (rest := []) C (kX12_ranges hI h3) caX12_ranges w1817 ⟨rfl, rfl, Nat.le_of_ble_eq_true rfl, Nat.le_of_ble_eq_true rfl⟩ hK hN hP (rM0 hK hP) rfl hl.1 rfl (Nat.le_of_ble_eq_true rfl) dX12_load_159 ⟨Nat.zero_le _, Nat.zero_le _⟩) hS (fun H locs hP hS => ?_)
    have hP : va_P D vwCl (GM cy ad mt q2.1 mb mo ms mk my mu ma me mr mp q2.2 mw mf ml mq) H := hP
    exact bX12_load_162 C hI hK hN h (lv_sub hl [0] rfl) hP hS
def X12_load_140 (mt : Tmt) (mk : Tmk)  (mc : Tmc) (mb : Tmb) (mo : Tmo) (ms : Tms) (my : Tmy) (mu : Tmu) (ma : Tma) (me : Tme) (mr : Tmr) (mp : Tmp) (mg : Tmg) (mw : Tmw) (mf : Tmf) (ml : Tml) (mq : Tmq)  : Option (Int32 × Tmc × Tmb × Tmo × Tms × Tmy × Tmu × Tma × Tme × Tmr × Tmp × Tmg × Tmw × Tmf × Tml × Tmq) := (if (X12_isRight mc) = 0 then X12_load_151 mt mk mc mb mo ms my mu ma me mr mp mg mw mf ml mq else ((X12_units mc mb ms mu ma me mr mp).bind fun q2 => X12_load_151 mt mk q2.1 mb mo ms my q2.2.1 q2.2.2.1 q2.2.2.2.1 q2.2.2.2.2.1 q2.2.2.2.2.2 mg mw mf ml mq))
set_option maxRecDepth 20000 in
theorem bX12_load_140 (C : Cx p s m args meth c cX12_load 2 (some .int) RX12 (.code yX12_load cX12_load 2 (some .int))) (hI : Apart ad 71) (hK : va_K D vwCl (tysX cy) s) (hN : NW s)  {q : Int32 × Tmc × Tmb × Tmo × Tms × Tmy × Tmu × Tma × Tme × Tmr × Tmp × Tmg × Tmw × Tmf × Tml × Tmq}   (h : X12_load_140 mt mk mc mb mo ms my mu ma me mr mp mg mw mf ml mq = some q) {ls : Array Slot} (hl : lv_has ls 2 [(0, .ref (ad 0))]) {H : Heap} {locs : List Loc} (hP : va_P D vwCl (GM cy ad mt mc mb mo ms mk my mu ma me mr mp mg mw mf ml mq) H) (hS : va_S (Ac ad 71) s.heap H locs) : W p l e ({ frames := 8, cells := 0, slots := 0, locals := 202 } : Room) s m args below meth c H locs 0 0 (MQ below (QR (some (.int q.1)) D (GM cy ad mt q.2.1 q.2.2.1 q.2.2.2.1 q.2.2.2.2.1 mk q.2.2.2.2.2.1 q.2.2.2.2.2.2.1 q.2.2.2.2.2.2.2.1 q.2.2.2.2.2.2.2.2.1 q.2.2.2.2.2.2.2.2.2.1 q.2.2.2.2.2.2.2.2.2.2.1 q.2.2.2.2.2.2.2.2.2.2.2.1 q.2.2.2.2.2.2.2.2.2.2.2.2.1 q.2.2.2.2.2.2.2.2.2.2.2.2.2.1 q.2.2.2.2.2.2.2.2.2.2.2.2.2.2.1 q.2.2.2.2.2.2.2.2.2.2.2.2.2.2.2) (Ac ad 71)) args s 0 0 (Ac ad 71)) (F0 m 140 ls []) := by
  obtain ⟨hx, hb, hml, hown, hts, hr, hlk⟩ := id C
  unfold X12_load_140 at h
  refine lv_aload_n hx hb dX12_load_140 rfl (lv_at hl 0 rfl) ?_
  refine cPi (run_V (rest := []) C (kX12_isRight rfl) caX12_isRight w1682 ⟨rfl, rfl, Nat.le_of_ble_eq_true rfl, Nat.le_of_ble_eq_true rfl⟩ hK hN hP (rM0 hK hP) rfl hl.1 rfl (Nat.le_of_ble_eq_true rfl) dX12_load_141 ⟨Nat.zero_le _, Nat.zero_le _⟩) ?_
  refine lv_if_eq (tgt := 151) hx hb dX12_load_144 (by decide) (fun c1 => ?_) (fun c1 => ?_)
  · rw [if_pos c1] at h
    exact bX12_load_151 C hI hK hN h (lv_sub hl [0] rfl) hP hS
  · rw [if_neg c1] at h
    refine lv_aload_n hx hb dX12_load_147 rfl (lv_at hl 0 rfl) ?_
    obtain ⟨q2, h3, h⟩ := bnd h
    refine cRv (run_V (rest := []) C (kX12_units hI h3) caX12_units w1716 ⟨rfl, rfl, Nat.le_of_ble_eq_true rfl, Nat.le_of_ble_eq_true rfl⟩ hK hN hP (rM0 hK hP) rfl hl.1 rfl (Nat.le_of_ble_eq_true rfl) dX12_load_148 ⟨Nat.zero_le _, Nat.zero_le _⟩) hS (fun H locs hP hS => ?_)
    have hP : va_P D vwCl (GM cy ad mt q2.1 mb mo ms mk my q2.2.1 q2.2.2.1 q2.2.2.2.1 q2.2.2.2.2.1 q2.2.2.2.2.2 mg mw mf ml mq) H := hP
    exact bX12_load_151 C hI hK hN h (lv_sub hl [0] rfl) hP hS
def X12_load_20b (mt : Tmt) (mk : Tmk)  (k20 : Tmc → Tmb → Tmo → Tms → Tmy → Tmu → Tma → Tme → Tmr → Tmp → Tmg → Tmw → Tmf → Tml → Tmq → Int32 → Option (Int32 × Tmc × Tmb × Tmo × Tms × Tmy × Tmu × Tma × Tme × Tmr × Tmp × Tmg × Tmw × Tmf × Tml × Tmq)) (mc : Tmc) (mb : Tmb) (mo : Tmo) (ms : Tms) (my : Tmy) (mu : Tmu) (ma : Tma) (me : Tme) (mr : Tmr) (mp : Tmp) (mg : Tmg) (mw : Tmw) (mf : Tmf) (ml : Tml) (mq : Tmq) (v1 : Int32) : Option (Int32 × Tmc × Tmb × Tmo × Tms × Tmy × Tmu × Tma × Tme × Tmr × Tmp × Tmg × Tmw × Tmf × Tml × Tmq) := (if v1 < mt.2 then (if inb v1 8000 = true then (if inb (((8000 : Int32) * mb.2.1) + v1) 16000 = true then k20 mc ((upd mb.1 ((((8000 : Int32) * mb.2.1) + v1)).toNatClampNeg (mt.1 (v1).toNatClampNeg)), mb.2.1, mb.2.2) mo ms my mu ma me mr mp mg mw mf ml mq (v1 + (1 : Int32)) else none) else none) else (if inb mb.2.1 2 = true then (if inb mb.2.1 2 = true then (if inb mb.2.1 2 = true then (if inb mb.2.1 2 = true then (if inb mb.2.1 2 = true then (if inb mb.2.1 2 = true then (if inb mb.2.1 2 = true then ((X12_header mc mb ((upd ms.1 (mb.2.1).toNatClampNeg (0 : Int32)), ms.2.1, ms.2.2.1, ms.2.2.2.1, ms.2.2.2.2.1, ms.2.2.2.2.2) mk).bind fun q9 => (if (X12_isRight q9.1) = 0 then X12_load_140 mt mk q9.1 mb mo q9.2 ((upd my.1 (mb.2.1).toNatClampNeg (0 : Int32)), my.2.1, my.2.2.1, my.2.2.2.1, my.2.2.2.2) ((upd mu.1 (mb.2.1).toNatClampNeg (0 : Int32)), mu.2.1, mu.2.2.1, mu.2.2.2.1, mu.2.2.2.2.1, mu.2.2.2.2.2.1, mu.2.2.2.2.2.2) ma ((upd me.1 (mb.2.1).toNatClampNeg (0 : Int32)), me.2.1, me.2.2.1, me.2.2.2.1, me.2.2.2.2.1, me.2.2.2.2.2.1, me.2.2.2.2.2.2.1, me.2.2.2.2.2.2.2.1, me.2.2.2.2.2.2.2.2.1, me.2.2.2.2.2.2.2.2.2.1, me.2.2.2.2.2.2.2.2.2.2.1, me.2.2.2.2.2.2.2.2.2.2.2.1, me.2.2.2.2.2.2.2.2.2.2.2.2.1, me.2.2.2.2.2.2.2.2.2.2.2.2.2.1, me.2.2.2.2.2.2.2.2.2.2.2.2.2.2.1, me.2.2.2.2.2.2.2.2.2.2.2.2.2.2.2.1, me.2.2.2.2.2.2.2.2.2.2.2.2.2.2.2.2.1, me.2.2.2.2.2.2.2.2.2.2.2.2.2.2.2.2.2.1, me.2.2.2.2.2.2.2.2.2.2.2.2.2.2.2.2.2.2) mr mp ((upd mg.1 (mb.2.1).toNatClampNeg (0 : Int32)), mg.2.1, mg.2.2.1, mg.2.2.2) ((upd mw.1 (mb.2.1).toNatClampNeg (0 : Int32)), mw.2.1, mw.2.2.1, mw.2.2.2.1, mw.2.2.2.2.1, mw.2.2.2.2.2) ((upd mf.1 (mb.2.1).toNatClampNeg (0 : Int32)), mf.2.1, mf.2.2) ml mq else ((X12_symbols q9.1 mb q9.2 ((upd my.1 (mb.2.1).toNatClampNeg (0 : Int32)), my.2.1, my.2.2.1, my.2.2.2.1, my.2.2.2.2)).bind fun q12 => X12_load_140 mt mk q12.1 mb mo q9.2 q12.2 ((upd mu.1 (mb.2.1).toNatClampNeg (0 : Int32)), mu.2.1, mu.2.2.1, mu.2.2.2.1, mu.2.2.2.2.1, mu.2.2.2.2.2.1, mu.2.2.2.2.2.2) ma ((upd me.1 (mb.2.1).toNatClampNeg (0 : Int32)), me.2.1, me.2.2.1, me.2.2.2.1, me.2.2.2.2.1, me.2.2.2.2.2.1, me.2.2.2.2.2.2.1, me.2.2.2.2.2.2.2.1, me.2.2.2.2.2.2.2.2.1, me.2.2.2.2.2.2.2.2.2.1, me.2.2.2.2.2.2.2.2.2.2.1, me.2.2.2.2.2.2.2.2.2.2.2.1, me.2.2.2.2.2.2.2.2.2.2.2.2.1, me.2.2.2.2.2.2.2.2.2.2.2.2.2.1, me.2.2.2.2.2.2.2.2.2.2.2.2.2.2.1, me.2.2.2.2.2.2.2.2.2.2.2.2.2.2.2.1, me.2.2.2.2.2.2.2.2.2.2.2.2.2.2.2.2.1, me.2.2.2.2.2.2.2.2.2.2.2.2.2.2.2.2.2.1, me.2.2.2.2.2.2.2.2.2.2.2.2.2.2.2.2.2.2) mr mp ((upd mg.1 (mb.2.1).toNatClampNeg (0 : Int32)), mg.2.1, mg.2.2.1, mg.2.2.2) ((upd mw.1 (mb.2.1).toNatClampNeg (0 : Int32)), mw.2.1, mw.2.2.1, mw.2.2.2.1, mw.2.2.2.2.1, mw.2.2.2.2.2) ((upd mf.1 (mb.2.1).toNatClampNeg (0 : Int32)), mf.2.1, mf.2.2) ml mq))) else none) else none) else none) else none) else none) else none) else none))
def X12_load_20 (mt : Tmt) (mk : Tmk)  (n : Nat) (st : Tmc × Tmb × Tmo × Tms × Tmy × Tmu × Tma × Tme × Tmr × Tmp × Tmg × Tmw × Tmf × Tml × Tmq × Int32) : Option (Int32 × Tmc × Tmb × Tmo × Tms × Tmy × Tmu × Tma × Tme × Tmr × Tmp × Tmg × Tmw × Tmf × Tml × Tmq) := lp (fun rec st => X12_load_20b mt mk  (fun a0 a1 a2 a3 a4 a5 a6 a7 a8 a9 a10 a11 a12 a13 a14 a15 => rec (a0, a1, a2, a3, a4, a5, a6, a7, a8, a9, a10, a11, a12, a13, a14, a15)) st.1 st.2.1 st.2.2.1 st.2.2.2.1 st.2.2.2.2.1 st.2.2.2.2.2.1 st.2.2.2.2.2.2.1 st.2.2.2.2.2.2.2.1 st.2.2.2.2.2.2.2.2.1 st.2.2.2.2.2.2.2.2.2.1 st.2.2.2.2.2.2.2.2.2.2.1 st.2.2.2.2.2.2.2.2.2.2.2.1 st.2.2.2.2.2.2.2.2.2.2.2.2.1 st.2.2.2.2.2.2.2.2.2.2.2.2.2.1 st.2.2.2.2.2.2.2.2.2.2.2.2.2.2.1 st.2.2.2.2.2.2.2.2.2.2.2.2.2.2.2) n st
set_option maxRecDepth 20000 in
theorem bX12_load_20 (C : Cx p s m args meth c cX12_load 2 (some .int) RX12 (.code yX12_load cX12_load 2 (some .int))) (hI : Apart ad 71) (hK : va_K D vwCl (tysX cy) s) (hN : NW s)  {q : Int32 × Tmc × Tmb × Tmo × Tms × Tmy × Tmu × Tma × Tme × Tmr × Tmp × Tmg × Tmw × Tmf × Tml × Tmq}  : ∀ (n : Nat) {mc : Tmc} {mb : Tmb} {mo : Tmo} {ms : Tms} {my : Tmy} {mu : Tmu} {ma : Tma} {me : Tme} {mr : Tmr} {mp : Tmp} {mg : Tmg} {mw : Tmw} {mf : Tmf} {ml : Tml} {mq : Tmq} {v1 : Int32}, X12_load_20 mt mk  n (mc, mb, mo, ms, my, mu, ma, me, mr, mp, mg, mw, mf, ml, mq, v1) = some q → ∀ {ls : Array Slot}, lv_has ls 2 [(0, .ref (ad 0)), (1, .int v1)] → ∀ {H : Heap} {locs : List Loc}, va_P D vwCl (GM cy ad mt mc mb mo ms mk my mu ma me mr mp mg mw mf ml mq) H → va_S (Ac ad 71) s.heap H locs → W p l e ({ frames := 8, cells := 0, slots := 0, locals := 202 } : Room) s m args below meth c H locs 0 0 (MQ below (QR (some (.int q.1)) D (GM cy ad mt q.2.1 q.2.2.1 q.2.2.2.1 q.2.2.2.2.1 mk q.2.2.2.2.2.1 q.2.2.2.2.2.2.1 q.2.2.2.2.2.2.2.1 q.2.2.2.2.2.2.2.2.1 q.2.2.2.2.2.2.2.2.2.1 q.2.2.2.2.2.2.2.2.2.2.1 q.2.2.2.2.2.2.2.2.2.2.2.1 q.2.2.2.2.2.2.2.2.2.2.2.2.1 q.2.2.2.2.2.2.2.2.2.2.2.2.2.1 q.2.2.2.2.2.2.2.2.2.2.2.2.2.2.1 q.2.2.2.2.2.2.2.2.2.2.2.2.2.2.2) (Ac ad 71)) args s 0 0 (Ac ad 71)) (F0 m 20 ls []) := by
  obtain ⟨hx, hb, hml, hown, hts, hr, hlk⟩ := id C
  intro n
  induction n with
  | zero =>
    intro mc mb mo ms my mu ma me mr mp mg mw mf ml mq v1 h ls hl H locs hP hS
    have h : (none : Option (Int32 × Tmc × Tmb × Tmo × Tms × Tmy × Tmu × Tma × Tme × Tmr × Tmp × Tmg × Tmw × Tmf × Tml × Tmq)) = some q := h
    cases h
  | succ n ih =>
    intro mc mb mo ms my mu ma me mr mp mg mw mf ml mq v1 h ls hl H locs hP hS
    have h : X12_load_20b mt mk  (fun a0 a1 a2 a3 a4 a5 a6 a7 a8 a9 a10 a11 a12 a13 a14 a15 => X12_load_20 mt mk  n (a0, a1, a2, a3, a4, a5, a6, a7, a8, a9, a10, a11, a12, a13, a14, a15)) mc mb mo ms my mu ma me mr mp mg mw mf ml mq v1 = some q := h
    unfold X12_load_20b at h
    refine lv_iload_n hx hb dX12_load_20 rfl (lv_at hl 1 rfl) ?_
    refine lv_aload_n hx hb dX12_load_21 rfl (lv_at hl 0 rfl) ?_
    refine gM0_1 (v := mt.2) C hK hP rfl w1368 dX12_load_22 ?_
    refine b_icmp_ge (tgt := 55) hx hb dX12_load_25 (by decide) (fun c1 => ?_) (fun c1 => ?_)
    · rw [if_neg c1] at h
      refine lv_aload_n hx hb dX12_load_55 rfl (lv_at hl 0 rfl) ?_
      refine gM0_10 C hK hP w1377 dX12_load_56 ?_
      refine lv_aload_n hx hb dX12_load_59 rfl (lv_at hl 0 rfl) ?_
      refine gM0_6 (v := mb.2.1) C hK hP rfl w1373 dX12_load_60 ?_
      refine lv_iconst (v := (0 : Int32)) hx hb dX12_load_63 (by decide) ?_
      obtain ⟨n2, h⟩ := grd h
      refine sM3 (f := ms.1) C hI hK hP hS rfl n2 dX12_load_64 (fun H locs hP hS => ?_)
      have hP : va_P D vwCl (GM cy ad mt mc mb mo ((upd ms.1 (mb.2.1).toNatClampNeg (0 : Int32)), ms.2.1, ms.2.2.1, ms.2.2.2.1, ms.2.2.2.2.1, ms.2.2.2.2.2) mk my mu ma me mr mp mg mw mf ml mq) H := hP
      refine lv_aload_n hx hb dX12_load_65 rfl (lv_at hl 0 rfl) ?_
      refine gM0_11 C hK hP w1378 dX12_load_66 ?_
      refine lv_aload_n hx hb dX12_load_69 rfl (lv_at hl 0 rfl) ?_
      refine gM0_6 (v := mb.2.1) C hK hP rfl w1373 dX12_load_70 ?_
      refine lv_iconst (v := (0 : Int32)) hx hb dX12_load_73 (by decide) ?_
      obtain ⟨n3, h⟩ := grd h
      refine sM4 (f := my.1) C hI hK hP hS rfl n3 dX12_load_74 (fun H locs hP hS => ?_)
      have hP : va_P D vwCl (GM cy ad mt mc mb mo ((upd ms.1 (mb.2.1).toNatClampNeg (0 : Int32)), ms.2.1, ms.2.2.1, ms.2.2.2.1, ms.2.2.2.2.1, ms.2.2.2.2.2) mk ((upd my.1 (mb.2.1).toNatClampNeg (0 : Int32)), my.2.1, my.2.2.1, my.2.2.2.1, my.2.2.2.2) mu ma me mr mp mg mw mf ml mq) H := hP
      refine lv_aload_n hx hb dX12_load_75 rfl (lv_at hl 0 rfl) ?_
      refine gM0_12 C hK hP w1379 dX12_load_76 ?_
      refine lv_aload_n hx hb dX12_load_79 rfl (lv_at hl 0 rfl) ?_
      refine gM0_6 (v := mb.2.1) C hK hP rfl w1373 dX12_load_80 ?_
      refine lv_iconst (v := (0 : Int32)) hx hb dX12_load_83 (by decide) ?_
      obtain ⟨n4, h⟩ := grd h
      refine sM5 (f := mu.1) C hI hK hP hS rfl n4 dX12_load_84 (fun H locs hP hS => ?_)
      have hP : va_P D vwCl (GM cy ad mt mc mb mo ((upd ms.1 (mb.2.1).toNatClampNeg (0 : Int32)), ms.2.1, ms.2.2.1, ms.2.2.2.1, ms.2.2.2.2.1, ms.2.2.2.2.2) mk ((upd my.1 (mb.2.1).toNatClampNeg (0 : Int32)), my.2.1, my.2.2.1, my.2.2.2.1, my.2.2.2.2) ((upd mu.1 (mb.2.1).toNatClampNeg (0 : Int32)), mu.2.1, mu.2.2.1, mu.2.2.2.1, mu.2.2.2.2.1, mu.2.2.2.2.2.1, mu.2.2.2.2.2.2) ma me mr mp mg mw mf ml mq) H := hP
      refine lv_aload_n hx hb dX12_load_85 rfl (lv_at hl 0 rfl) ?_
      refine gM0_13 C hK hP w1380 dX12_load_86 ?_
      refine lv_aload_n hx hb dX12_load_89 rfl (lv_at hl 0 rfl) ?_
      refine gM0_6 (v := mb.2.1) C hK hP rfl w1373 dX12_load_90 ?_
      refine lv_iconst (v := (0 : Int32)) hx hb dX12_load_93 (by decide) ?_
      obtain ⟨n5, h⟩ := grd h
      refine sM6 (f := me.1) C hI hK hP hS rfl n5 dX12_load_94 (fun H locs hP hS => ?_)
      have hP : va_P D vwCl (GM cy ad mt mc mb mo ((upd ms.1 (mb.2.1).toNatClampNeg (0 : Int32)), ms.2.1, ms.2.2.1, ms.2.2.2.1, ms.2.2.2.2.1, ms.2.2.2.2.2) mk ((upd my.1 (mb.2.1).toNatClampNeg (0 : Int32)), my.2.1, my.2.2.1, my.2.2.2.1, my.2.2.2.2) ((upd mu.1 (mb.2.1).toNatClampNeg (0 : Int32)), mu.2.1, mu.2.2.1, mu.2.2.2.1, mu.2.2.2.2.1, mu.2.2.2.2.2.1, mu.2.2.2.2.2.2) ma ((upd me.1 (mb.2.1).toNatClampNeg (0 : Int32)), me.2.1, me.2.2.1, me.2.2.2.1, me.2.2.2.2.1, me.2.2.2.2.2.1, me.2.2.2.2.2.2.1, me.2.2.2.2.2.2.2.1, me.2.2.2.2.2.2.2.2.1, me.2.2.2.2.2.2.2.2.2.1, me.2.2.2.2.2.2.2.2.2.2.1, me.2.2.2.2.2.2.2.2.2.2.2.1, me.2.2.2.2.2.2.2.2.2.2.2.2.1, me.2.2.2.2.2.2.2.2.2.2.2.2.2.1, me.2.2.2.2.2.2.2.2.2.2.2.2.2.2.1, me.2.2.2.2.2.2.2.2.2.2.2.2.2.2.2.1, me.2.2.2.2.2.2.2.2.2.2.2.2.2.2.2.2.1, me.2.2.2.2.2.2.2.2.2.2.2.2.2.2.2.2.2.1, me.2.2.2.2.2.2.2.2.2.2.2.2.2.2.2.2.2.2) mr mp mg mw mf ml mq) H := hP
      refine lv_aload_n hx hb dX12_load_95 rfl (lv_at hl 0 rfl) ?_
      refine gM0_14 C hK hP w1381 dX12_load_96 ?_
      refine lv_aload_n hx hb dX12_load_99 rfl (lv_at hl 0 rfl) ?_
      refine gM0_6 (v := mb.2.1) C hK hP rfl w1373 dX12_load_100 ?_
      refine lv_iconst (v := (0 : Int32)) hx hb dX12_load_103 (by decide) ?_
      obtain ⟨n6, h⟩ := grd h
      refine sM7 (f := mg.1) C hI hK hP hS rfl n6 dX12_load_104 (fun H locs hP hS => ?_)
      have hP : va_P D vwCl (GM cy ad mt mc mb mo ((upd ms.1 (mb.2.1).toNatClampNeg (0 : Int32)), ms.2.1, ms.2.2.1, ms.2.2.2.1, ms.2.2.2.2.1, ms.2.2.2.2.2) mk ((upd my.1 (mb.2.1).toNatClampNeg (0 : Int32)), my.2.1, my.2.2.1, my.2.2.2.1, my.2.2.2.2) ((upd mu.1 (mb.2.1).toNatClampNeg (0 : Int32)), mu.2.1, mu.2.2.1, mu.2.2.2.1, mu.2.2.2.2.1, mu.2.2.2.2.2.1, mu.2.2.2.2.2.2) ma ((upd me.1 (mb.2.1).toNatClampNeg (0 : Int32)), me.2.1, me.2.2.1, me.2.2.2.1, me.2.2.2.2.1, me.2.2.2.2.2.1, me.2.2.2.2.2.2.1, me.2.2.2.2.2.2.2.1, me.2.2.2.2.2.2.2.2.1, me.2.2.2.2.2.2.2.2.2.1, me.2.2.2.2.2.2.2.2.2.2.1, me.2.2.2.2.2.2.2.2.2.2.2.1, me.2.2.2.2.2.2.2.2.2.2.2.2.1, me.2.2.2.2.2.2.2.2.2.2.2.2.2.1, me.2.2.2.2.2.2.2.2.2.2.2.2.2.2.1, me.2.2.2.2.2.2.2.2.2.2.2.2.2.2.2.1, me.2.2.2.2.2.2.2.2.2.2.2.2.2.2.2.2.1, me.2.2.2.2.2.2.2.2.2.2.2.2.2.2.2.2.2.1, me.2.2.2.2.2.2.2.2.2.2.2.2.2.2.2.2.2.2) mr mp ((upd mg.1 (mb.2.1).toNatClampNeg (0 : Int32)), mg.2.1, mg.2.2.1, mg.2.2.2) mw mf ml mq) H := hP
      refine lv_aload_n hx hb dX12_load_105 rfl (lv_at hl 0 rfl) ?_
      refine gM0_15 C hK hP w1382 dX12_load_106 ?_
      refine lv_aload_n hx hb dX12_load_109 rfl (lv_at hl 0 rfl) ?_
      refine gM0_6 (v := mb.2.1) C hK hP rfl w1373 dX12_load_110 ?_
      refine lv_iconst (v := (0 : Int32)) hx hb dX12_load_113 (by decide) ?_
      obtain ⟨n7, h⟩ := grd h
      refine sM8 (f := mw.1) C hI hK hP hS rfl n7 dX12_load_114 (fun H locs hP hS => ?_)
      have hP : va_P D vwCl (GM cy ad mt mc mb mo ((upd ms.1 (mb.2.1).toNatClampNeg (0 : Int32)), ms.2.1, ms.2.2.1, ms.2.2.2.1, ms.2.2.2.2.1, ms.2.2.2.2.2) mk ((upd my.1 (mb.2.1).toNatClampNeg (0 : Int32)), my.2.1, my.2.2.1, my.2.2.2.1, my.2.2.2.2) ((upd mu.1 (mb.2.1).toNatClampNeg (0 : Int32)), mu.2.1, mu.2.2.1, mu.2.2.2.1, mu.2.2.2.2.1, mu.2.2.2.2.2.1, mu.2.2.2.2.2.2) ma ((upd me.1 (mb.2.1).toNatClampNeg (0 : Int32)), me.2.1, me.2.2.1, me.2.2.2.1, me.2.2.2.2.1, me.2.2.2.2.2.1, me.2.2.2.2.2.2.1, me.2.2.2.2.2.2.2.1, me.2.2.2.2.2.2.2.2.1, me.2.2.2.2.2.2.2.2.2.1, me.2.2.2.2.2.2.2.2.2.2.1, me.2.2.2.2.2.2.2.2.2.2.2.1, me.2.2.2.2.2.2.2.2.2.2.2.2.1, me.2.2.2.2.2.2.2.2.2.2.2.2.2.1, me.2.2.2.2.2.2.2.2.2.2.2.2.2.2.1, me.2.2.2.2.2.2.2.2.2.2.2.2.2.2.2.1, me.2.2.2.2.2.2.2.2.2.2.2.2.2.2.2.2.1, me.2.2.2.2.2.2.2.2.2.2.2.2.2.2.2.2.2.1, me.2.2.2.2.2.2.2.2.2.2.2.2.2.2.2.2.2.2) mr mp ((upd mg.1 (mb.2.1).toNatClampNeg (0 : Int32)), mg.2.1, mg.2.2.1, mg.2.2.2) ((upd mw.1 (mb.2.1).toNatClampNeg (0 : Int32)), mw.2.1, mw.2.2.1, mw.2.2.2.1, mw.2.2.2.2.1, mw.2.2.2.2.2) mf ml mq) H := hP
      refine lv_aload_n hx hb dX12_load_115 rfl (lv_at hl 0 rfl) ?_
      refine gM0_16 C hK hP w1383 dX12_load_116 ?_
      refine lv_aload_n hx hb dX12_load_119 rfl (lv_at hl 0 rfl) ?_
      refine gM0_6 (v := mb.2.1) C hK hP rfl w1373 dX12_load_120 ?_
      refine lv_iconst (v := (0 : Int32)) hx hb dX12_load_123 (by decide) ?_
      obtain ⟨n8, h⟩ := grd h
      refine sM9 (f := mf.1) C hI hK hP hS rfl n8 dX12_load_124 (fun H locs hP hS => ?_)
      have hP : va_P D vwCl (GM cy ad mt mc mb mo ((upd ms.1 (mb.2.1).toNatClampNeg (0 : Int32)), ms.2.1, ms.2.2.1, ms.2.2.2.1, ms.2.2.2.2.1, ms.2.2.2.2.2) mk ((upd my.1 (mb.2.1).toNatClampNeg (0 : Int32)), my.2.1, my.2.2.1, my.2.2.2.1, my.2.2.2.2) ((upd mu.1 (mb.2.1).toNatClampNeg (0 : Int32)), mu.2.1, mu.2.2.1, mu.2.2.2.1, mu.2.2.2.2.1, mu.2.2.2.2.2.1, mu.2.2.2.2.2.2) ma ((upd me.1 (mb.2.1).toNatClampNeg (0 : Int32)), me.2.1, me.2.2.1, me.2.2.2.1, me.2.2.2.2.1, me.2.2.2.2.2.1, me.2.2.2.2.2.2.1, me.2.2.2.2.2.2.2.1, me.2.2.2.2.2.2.2.2.1, me.2.2.2.2.2.2.2.2.2.1, me.2.2.2.2.2.2.2.2.2.2.1, me.2.2.2.2.2.2.2.2.2.2.2.1, me.2.2.2.2.2.2.2.2.2.2.2.2.1, me.2.2.2.2.2.2.2.2.2.2.2.2.2.1, me.2.2.2.2.2.2.2.2.2.2.2.2.2.2.1, me.2.2.2.2.2.2.2.2.2.2.2.2.2.2.2.1, me.2.2.2.2.2.2.2.2.2.2.2.2.2.2.2.2.1, me.2.2.2.2.2.2.2.2.2.2.2.2.2.2.2.2.2.1, me.2.2.2.2.2.2.2.2.2.2.2.2.2.2.2.2.2.2) mr mp ((upd mg.1 (mb.2.1).toNatClampNeg (0 : Int32)), mg.2.1, mg.2.2.1, mg.2.2.2) ((upd mw.1 (mb.2.1).toNatClampNeg (0 : Int32)), mw.2.1, mw.2.2.1, mw.2.2.2.1, mw.2.2.2.2.1, mw.2.2.2.2.2) ((upd mf.1 (mb.2.1).toNatClampNeg (0 : Int32)), mf.2.1, mf.2.2) ml mq) H := hP
      refine lv_aload_n hx hb dX12_load_125 rfl (lv_at hl 0 rfl) ?_
      obtain ⟨q9, h10, h⟩ := bnd h
      refine cRv (run_V (rest := []) C (kX12_header hI h10) caX12_header w1670 ⟨rfl, rfl, Nat.le_of_ble_eq_true rfl, Nat.le_of_ble_eq_true rfl⟩ hK hN hP (rM0 hK hP) rfl hl.1 rfl (Nat.le_of_ble_eq_true rfl) dX12_load_126 ⟨Nat.zero_le _, Nat.zero_le _⟩) hS (fun H locs hP hS => ?_)
      have hP : va_P D vwCl (GM cy ad mt q9.1 mb mo q9.2 mk ((upd my.1 (mb.2.1).toNatClampNeg (0 : Int32)), my.2.1, my.2.2.1, my.2.2.2.1, my.2.2.2.2) ((upd mu.1 (mb.2.1).toNatClampNeg (0 : Int32)), mu.2.1, mu.2.2.1, mu.2.2.2.1, mu.2.2.2.2.1, mu.2.2.2.2.2.1, mu.2.2.2.2.2.2) ma ((upd me.1 (mb.2.1).toNatClampNeg (0 : Int32)), me.2.1, me.2.2.1, me.2.2.2.1, me.2.2.2.2.1, me.2.2.2.2.2.1, me.2.2.2.2.2.2.1, me.2.2.2.2.2.2.2.1, me.2.2.2.2.2.2.2.2.1, me.2.2.2.2.2.2.2.2.2.1, me.2.2.2.2.2.2.2.2.2.2.1, me.2.2.2.2.2.2.2.2.2.2.2.1, me.2.2.2.2.2.2.2.2.2.2.2.2.1, me.2.2.2.2.2.2.2.2.2.2.2.2.2.1, me.2.2.2.2.2.2.2.2.2.2.2.2.2.2.1, me.2.2.2.2.2.2.2.2.2.2.2.2.2.2.2.1, me.2.2.2.2.2.2.2.2.2.2.2.2.2.2.2.2.1, me.2.2.2.2.2.2.2.2.2.2.2.2.2.2.2.2.2.1, me.2.2.2.2.2.2.2.2.2.2.2.2.2.2.2.2.2.2) mr mp ((upd mg.1 (mb.2.1).toNatClampNeg (0 : Int32)), mg.2.1, mg.2.2.1, mg.2.2.2) ((upd mw.1 (mb.2.1).toNatClampNeg (0 : Int32)), mw.2.1, mw.2.2.1, mw.2.2.2.1, mw.2.2.2.2.1, mw.2.2.2.2.2) ((upd mf.1 (mb.2.1).toNatClampNeg (0 : Int32)), mf.2.1, mf.2.2) ml mq) H := hP
      refine lv_aload_n hx hb dX12_load_129 rfl (lv_at hl 0 rfl) ?_
      refine cPi (run_V (rest := []) C (kX12_isRight rfl) caX12_isRight w1682 ⟨rfl, rfl, Nat.le_of_ble_eq_true rfl, Nat.le_of_ble_eq_true rfl⟩ hK hN hP (rM0 hK hP) rfl hl.1 rfl (Nat.le_of_ble_eq_true rfl) dX12_load_130 ⟨Nat.zero_le _, Nat.zero_le _⟩) ?_
      refine lv_if_eq (tgt := 140) hx hb dX12_load_133 (by decide) (fun c11 => ?_) (fun c11 => ?_)
      · rw [if_pos c11] at h
        exact bX12_load_140 C hI hK hN h (lv_sub hl [0] rfl) hP hS
      · rw [if_neg c11] at h
        refine lv_aload_n hx hb dX12_load_136 rfl (lv_at hl 0 rfl) ?_
        obtain ⟨q12, h13, h⟩ := bnd h
        refine cRv (run_V (rest := []) C (kX12_symbols hI h13) caX12_symbols w1704 ⟨rfl, rfl, Nat.le_of_ble_eq_true rfl, Nat.le_of_ble_eq_true rfl⟩ hK hN hP (rM0 hK hP) rfl hl.1 rfl (Nat.le_of_ble_eq_true rfl) dX12_load_137 ⟨Nat.zero_le _, Nat.zero_le _⟩) hS (fun H locs hP hS => ?_)
        have hP : va_P D vwCl (GM cy ad mt q12.1 mb mo q9.2 mk q12.2 ((upd mu.1 (mb.2.1).toNatClampNeg (0 : Int32)), mu.2.1, mu.2.2.1, mu.2.2.2.1, mu.2.2.2.2.1, mu.2.2.2.2.2.1, mu.2.2.2.2.2.2) ma ((upd me.1 (mb.2.1).toNatClampNeg (0 : Int32)), me.2.1, me.2.2.1, me.2.2.2.1, me.2.2.2.2.1, me.2.2.2.2.2.1, me.2.2.2.2.2.2.1, me.2.2.2.2.2.2.2.1, me.2.2.2.2.2.2.2.2.1, me.2.2.2.2.2.2.2.2.2.1, me.2.2.2.2.2.2.2.2.2.2.1, me.2.2.2.2.2.2.2.2.2.2.2.1, me.2.2.2.2.2.2.2.2.2.2.2.2.1, me.2.2.2.2.2.2.2.2.2.2.2.2.2.1, me.2.2.2.2.2.2.2.2.2.2.2.2.2.2.1, me.2.2.2.2.2.2.2.2.2.2.2.2.2.2.2.1, me.2.2.2.2.2.2.2.2.2.2.2.2.2.2.2.2.1, me.2.2.2.2.2.2.2.2.2.2.2.2.2.2.2.2.2.1, me.2.2.2.2.2.2.2.2.2.2.2.2.2.2.2.2.2.2) mr mp ((upd mg.1 (mb.2.1).toNatClampNeg (0 : Int32)), mg.2.1, mg.2.2.1, mg.2.2.2) ((upd mw.1 (mb.2.1).toNatClampNeg (0 : Int32)), mw.2.1, mw.2.2.1, mw.2.2.2.1, mw.2.2.2.2.1, mw.2.2.2.2.2) ((upd mf.1 (mb.2.1).toNatClampNeg (0 : Int32)), mf.2.1, mf.2.2) ml mq) H := hP
        exact bX12_load_140 C hI hK hN h (lv_sub hl [0] rfl) hP hS
    · rw [if_pos c1] at h
      refine lv_aload_n hx hb dX12_load_28 rfl (lv_at hl 0 rfl) ?_
      refine gM0_8 C hK hP w1375 dX12_load_29 ?_
      refine lv_sipush (v := (8000 : Int32)) hx hb dX12_load_32 (by decide) ?_
      refine lv_aload_n hx hb dX12_load_35 rfl (lv_at hl 0 rfl) ?_
      refine gM0_6 (v := mb.2.1) C hK hP rfl w1373 dX12_load_36 ?_
      refine lv_imul hx hb dX12_load_39 ?_
      refine lv_iload_n hx hb dX12_load_40 rfl (lv_at hl 1 rfl) ?_
      refine lv_iadd hx hb dX12_load_41 ?_
      refine lv_aload_n hx hb dX12_load_42 rfl (lv_at hl 0 rfl) ?_
      refine gM0_0 C hK hP w1367 dX12_load_43 ?_
      refine lv_iload_n hx hb dX12_load_46 rfl (lv_at hl 1 rfl) ?_
      obtain ⟨n14, h⟩ := grd h
      refine aM1 (f := mt.1) C hK hP rfl n14 dX12_load_47 ?_
      obtain ⟨n15, h⟩ := grd h
      refine sM2 (f := mb.1) C hI hK hP hS rfl n15 dX12_load_48 (fun H locs hP hS => ?_)
      have hP : va_P D vwCl (GM cy ad mt mc ((upd mb.1 ((((8000 : Int32) * mb.2.1) + v1)).toNatClampNeg (mt.1 (v1).toNatClampNeg)), mb.2.1, mb.2.2) mo ms mk my mu ma me mr mp mg mw mf ml mq) H := hP
      refine lv_iinc (v := (v1 + (1 : Int32))) (lv' := [(1, .int (v1 + (1 : Int32))), (0, .ref (ad 0))]) hx hb dX12_load_49 hl (k := 1) rfl rfl (by decide) rfl (fun ls hl => ?_)
      refine lv_goto (tgt := 20) hx hb dX12_load_52 (by decide) ?_
      exact ih h (lv_sub hl [1, 0] rfl) hP hS
def X12_load (mt : Tmt) (mc : Tmc) (mb : Tmb) (mo : Tmo) (ms : Tms) (mk : Tmk) (my : Tmy) (mu : Tmu) (ma : Tma) (me : Tme) (mr : Tmr) (mp : Tmp) (mg : Tmg) (mw : Tmw) (mf : Tmf) (ml : Tml) (mq : Tmq)  : Option (Int32 × Tmc × Tmb × Tmo × Tms × Tmy × Tmu × Tma × Tme × Tmr × Tmp × Tmg × Tmw × Tmf × Tml × Tmq) := X12_load_20 mt mk FU ((mc.1, mc.2.1, (0 : Int32), (-1 : Int32)), (mb.1, mb.2.1, mt.2), mo, ms, my, mu, ma, me, mr, mp, mg, mw, mf, ml, mq, (0 : Int32))
set_option maxRecDepth 20000 in
theorem bX12_load_0 (C : Cx p s m args meth c cX12_load 2 (some .int) RX12 (.code yX12_load cX12_load 2 (some .int))) (hI : Apart ad 71) (hK : va_K D vwCl (tysX cy) s) (hN : NW s)  {q : Int32 × Tmc × Tmb × Tmo × Tms × Tmy × Tmu × Tma × Tme × Tmr × Tmp × Tmg × Tmw × Tmf × Tml × Tmq}   (h : X12_load mt mc mb mo ms mk my mu ma me mr mp mg mw mf ml mq = some q) {ls : Array Slot} (hl : lv_has ls 2 [(0, .ref (ad 0))]) {H : Heap} {locs : List Loc} (hP : va_P D vwCl (GM cy ad mt mc mb mo ms mk my mu ma me mr mp mg mw mf ml mq) H) (hS : va_S (Ac ad 71) s.heap H locs) : W p l e ({ frames := 8, cells := 0, slots := 0, locals := 202 } : Room) s m args below meth c H locs 0 0 (MQ below (QR (some (.int q.1)) D (GM cy ad mt q.2.1 q.2.2.1 q.2.2.2.1 q.2.2.2.2.1 mk q.2.2.2.2.2.1 q.2.2.2.2.2.2.1 q.2.2.2.2.2.2.2.1 q.2.2.2.2.2.2.2.2.1 q.2.2.2.2.2.2.2.2.2.1 q.2.2.2.2.2.2.2.2.2.2.1 q.2.2.2.2.2.2.2.2.2.2.2.1 q.2.2.2.2.2.2.2.2.2.2.2.2.1 q.2.2.2.2.2.2.2.2.2.2.2.2.2.1 q.2.2.2.2.2.2.2.2.2.2.2.2.2.2.1 q.2.2.2.2.2.2.2.2.2.2.2.2.2.2.2) (Ac ad 71)) args s 0 0 (Ac ad 71)) (F0 m 0 ls []) := by
  obtain ⟨hx, hb, hml, hown, hts, hr, hlk⟩ := id C
  unfold X12_load at h
  refine lv_aload_n hx hb dX12_load_0 rfl (lv_at hl 0 rfl) ?_
  refine lv_iconst (v := (0 : Int32)) hx hb dX12_load_1 (by decide) ?_
  refine pM0_2 (v := (0 : Int32)) C hI hK hP hS w1369 dX12_load_2 (fun H locs hP hS => ?_)
  have hP : va_P D vwCl (GM cy ad mt (mc.1, mc.2.1, (0 : Int32), mc.2.2.2) mb mo ms mk my mu ma me mr mp mg mw mf ml mq) H := hP
  refine lv_aload_n hx hb dX12_load_5 rfl (lv_at hl 0 rfl) ?_
  refine lv_iconst (v := (-1 : Int32)) hx hb dX12_load_6 (by decide) ?_
  refine pM0_3 (v := (-1 : Int32)) C hI hK hP hS w1370 dX12_load_7 (fun H locs hP hS => ?_)
  have hP : va_P D vwCl (GM cy ad mt (mc.1, mc.2.1, (0 : Int32), (-1 : Int32)) mb mo ms mk my mu ma me mr mp mg mw mf ml mq) H := hP
  refine lv_aload_n hx hb dX12_load_10 rfl (lv_at hl 0 rfl) ?_
  refine lv_aload_n hx hb dX12_load_11 rfl (lv_at hl 0 rfl) ?_
  refine gM0_1 (v := mt.2) C hK hP rfl w1368 dX12_load_12 ?_
  refine pM0_9 (v := mt.2) C hI hK hP hS w1376 dX12_load_15 (fun H locs hP hS => ?_)
  have hP : va_P D vwCl (GM cy ad mt (mc.1, mc.2.1, (0 : Int32), (-1 : Int32)) (mb.1, mb.2.1, mt.2) mo ms mk my mu ma me mr mp mg mw mf ml mq) H := hP
  refine lv_iconst (v := (0 : Int32)) hx hb dX12_load_18 (by decide) ?_
  refine lv_istore_n (lv' := [(1, .int (0 : Int32)), (0, .ref (ad 0))]) hx hb dX12_load_19 rfl hl (by decide) rfl (fun ls hl => ?_)
  exact bX12_load_20 C hI hK hN FU h (lv_sub hl [1, 0] rfl) hP hS
theorem kX12_load (hI : Apart ad 71)  {q : Int32 × Tmc × Tmb × Tmo × Tms × Tmy × Tmu × Tma × Tme × Tmr × Tmp × Tmg × Tmw × Tmf × Tml × Tmq} (h : X12_load mt mc mb mo ms mk my mu ma me mr mp mg mw mf ml mq = some q) : Met l yX12_load (.code yX12_load cX12_load 2 (some .int) :: WA) ({ frames := 8, cells := 0, slots := 0, locals := 202 } : Room) (va_Pc [.ref (ad 0)] (PR D cy (GM cy ad mt mc mb mo ms mk my mu ma me mr mp mg mw mf ml mq))) (QR (some (.int q.1)) D (GM cy ad mt q.2.1 q.2.2.1 q.2.2.2.1 q.2.2.2.2.1 mk q.2.2.2.2.2.1 q.2.2.2.2.2.2.1 q.2.2.2.2.2.2.2.1 q.2.2.2.2.2.2.2.2.1 q.2.2.2.2.2.2.2.2.2.1 q.2.2.2.2.2.2.2.2.2.2.1 q.2.2.2.2.2.2.2.2.2.2.2.1 q.2.2.2.2.2.2.2.2.2.2.2.2.1 q.2.2.2.2.2.2.2.2.2.2.2.2.2.1 q.2.2.2.2.2.2.2.2.2.2.2.2.2.2.1 q.2.2.2.2.2.2.2.2.2.2.2.2.2.2.2) (Ac ad 71)) 0 0 (Ac ad 71) :=
  met_of (by decide) (Nat.le_of_ble_eq_true rfl) (fun p e s m below meth c ls C hP hK hN hl => bX12_load_0 C hI hK hN h hl hP va_S.rf)
def X12_fault (mo : Tmo) (v1 : Int32) : Int32 := (if v1 = 0 then mo.2.1 else (if v1 = (1 : Int32) then mo.2.2 else (-1 : Int32)))
set_option maxRecDepth 20000 in
theorem bX12_fault_0 (C : Cx p s m args meth c cX12_fault 2 (some .int) RX12 (.code yX12_fault cX12_fault 2 (some .int))) (hK : va_K D vwCl (tysX cy) s) (hN : NW s)  {q : Int32}  {v1 : Int32} (h : X12_fault mo v1 = q) {ls : Array Slot} (hl : lv_has ls 2 [(0, .ref (ad 0)), (1, .int v1)]) (hP : va_P D vwCl (GM cy ad mt mc mb mo ms mk my mu ma me mr mp mg mw mf ml mq) s.heap) : W p l e ({ frames := 0, cells := 0, slots := 0, locals := 0 } : Room) s m args below meth c s.heap [] 0 0 (MQ below (QP (some (.int q))) args s 0 0 (fun _ => False)) (F0 m 0 ls []) := by
  obtain ⟨hx, hb, hml, hown, hts, hr, hlk⟩ := id C
  unfold X12_fault at h
  refine lv_iload_n hx hb dX12_fault_0 rfl (lv_at hl 1 rfl) ?_
  refine lv_if_ne (tgt := 11) hx hb dX12_fault_1 (by decide) (fun c1 => ?_) (fun c1 => ?_)
  · rw [if_neg c1] at h
    refine lv_iload_n hx hb dX12_fault_11 rfl (lv_at hl 1 rfl) ?_
    refine lv_iconst (v := (1 : Int32)) hx hb dX12_fault_12 (by decide) ?_
    refine lv_icmp_ne (tgt := 23) hx hb dX12_fault_13 (by decide) (fun c2 => ?_) (fun c2 => ?_)
    · rw [if_neg c2] at h
      refine lv_iconst (v := (-1 : Int32)) hx hb dX12_fault_23 (by decide) ?_
      obtain rfl := h
      exact W.iret hx hb hr (fun t ht _ => ⟨rfl, ht⟩) (fun _ h9 => by cases h9) dX12_fault_24 hlk
    · rw [if_pos c2] at h
      refine lv_aload_n hx hb dX12_fault_16 rfl (lv_at hl 0 rfl) ?_
      refine gM0_5 (v := mo.2.2) C hK hP rfl w1372 dX12_fault_17 ?_
      refine lv_goto (tgt := 24) hx hb dX12_fault_20 (by decide) ?_
      obtain rfl := h
      exact W.iret hx hb hr (fun t ht _ => ⟨rfl, ht⟩) (fun _ h9 => by cases h9) dX12_fault_24 hlk
  · rw [if_pos c1] at h
    refine lv_aload_n hx hb dX12_fault_4 rfl (lv_at hl 0 rfl) ?_
    refine gM0_4 (v := mo.2.1) C hK hP rfl w1371 dX12_fault_5 ?_
    refine lv_goto (tgt := 24) hx hb dX12_fault_8 (by decide) ?_
    obtain rfl := h
    exact W.iret hx hb hr (fun t ht _ => ⟨rfl, ht⟩) (fun _ h9 => by cases h9) dX12_fault_24 hlk
theorem kX12_fault  {v1 : Int32} {q : Int32} (h : X12_fault mo v1 = q) : Met l yX12_fault (.code yX12_fault cX12_fault 2 (some .int) :: WA) ({ frames := 0, cells := 0, slots := 0, locals := 0 } : Room) (va_Pc [.ref (ad 0), .int v1] (PR D cy (GM cy ad mt mc mb mo ms mk my mu ma me mr mp mg mw mf ml mq))) (QP (some (.int q))) 0 0 (fun _ => False) :=
  met_of (by decide) (Nat.le_of_ble_eq_true rfl) (fun p e s m below meth c ls C hP hK hN hl => bX12_fault_0 C hK hN h hl hP)
def X12_isEntry (mo : Tmo) (me : Tme) (v1 : Int32) : Option (Int32) := (if v1 < 0 then some (0 : Int32) else (if inb mo.1 2 = true then (if v1 < (me.1 (mo.1).toNatClampNeg) then some (1 : Int32) else some (0 : Int32)) else none))
set_option maxRecDepth 20000 in
theorem bX12_isEntry_0 (C : Cx p s m args meth c cX12_isEntry 2 (some .boolean) RX12 (.code yX12_isEntry cX12_isEntry 2 (some .boolean))) (hK : va_K D vwCl (tysX cy) s) (hN : NW s)  {q : Int32}  {v1 : Int32} (h : X12_isEntry mo me v1 = some q) {ls : Array Slot} (hl : lv_has ls 2 [(0, .ref (ad 0)), (1, .int v1)]) (hP : va_P D vwCl (GM cy ad mt mc mb mo ms mk my mu ma me mr mp mg mw mf ml mq) s.heap) : W p l e ({ frames := 0, cells := 0, slots := 0, locals := 0 } : Room) s m args below meth c s.heap [] 0 0 (MQ below (QP (some (.int q))) args s 0 0 (fun _ => False)) (F0 m 0 ls []) := by
  obtain ⟨hx, hb, hml, hown, hts, hr, hlk⟩ := id C
  unfold X12_isEntry at h
  refine lv_iload_n hx hb dX12_isEntry_0 rfl (lv_at hl 1 rfl) ?_
  refine lv_if_lt (tgt := 21) hx hb dX12_isEntry_1 (by decide) (fun c1 => ?_) (fun c1 => ?_)
  · rw [if_pos c1] at h
    refine lv_iconst (v := (0 : Int32)) hx hb dX12_isEntry_21 (by decide) ?_
    obtain rfl := Option.some.inj h
    exact W.zret (ty := .boolean) hx hb hr (by decide) (fun t ht _ => ⟨rfl, ht⟩) (fun _ h9 => by cases h9) dX12_isEntry_22 hlk
  · rw [if_neg c1] at h
    refine lv_iload_n hx hb dX12_isEntry_4 rfl (lv_at hl 1 rfl) ?_
    refine lv_aload_n hx hb dX12_isEntry_5 rfl (lv_at hl 0 rfl) ?_
    refine gM0_13 C hK hP w1380 dX12_isEntry_6 ?_
    refine lv_aload_n hx hb dX12_isEntry_9 rfl (lv_at hl 0 rfl) ?_
    refine gM0_7 (v := mo.1) C hK hP rfl w1374 dX12_isEntry_10 ?_
    obtain ⟨n2, h⟩ := grd h
    refine aM6 (f := me.1) C hK hP rfl n2 dX12_isEntry_13 ?_
    refine b_icmp_ge (tgt := 21) hx hb dX12_isEntry_14 (by decide) (fun c3 => ?_) (fun c3 => ?_)
    · rw [if_neg c3] at h
      refine lv_iconst (v := (0 : Int32)) hx hb dX12_isEntry_21 (by decide) ?_
      obtain rfl := Option.some.inj h
      exact W.zret (ty := .boolean) hx hb hr (by decide) (fun t ht _ => ⟨rfl, ht⟩) (fun _ h9 => by cases h9) dX12_isEntry_22 hlk
    · rw [if_pos c3] at h
      refine lv_iconst (v := (1 : Int32)) hx hb dX12_isEntry_17 (by decide) ?_
      refine lv_goto (tgt := 22) hx hb dX12_isEntry_18 (by decide) ?_
      obtain rfl := Option.some.inj h
      exact W.zret (ty := .boolean) hx hb hr (by decide) (fun t ht _ => ⟨rfl, ht⟩) (fun _ h9 => by cases h9) dX12_isEntry_22 hlk
theorem kX12_isEntry  {v1 : Int32} {q : Int32} (h : X12_isEntry mo me v1 = some q) : Met l yX12_isEntry (.code yX12_isEntry cX12_isEntry 2 (some .boolean) :: WA) ({ frames := 0, cells := 0, slots := 0, locals := 0 } : Room) (va_Pc [.ref (ad 0), .int v1] (PR D cy (GM cy ad mt mc mb mo ms mk my mu ma me mr mp mg mw mf ml mq))) (QP (some (.int q))) 0 0 (fun _ => False) :=
  met_of (by decide) (Nat.le_of_ble_eq_true rfl) (fun p e s m below meth c ls C hP hK hN hl => bX12_isEntry_0 C hK hN h hl hP)
def X12_named_4b (mo : Tmo) (me : Tme)  (k4 : Int32 → Int32 → Option (Int32))  (v2 : Int32) (v3 : Int32) : Option (Int32) := (if (8 : Int32) < v3 then some (-1 : Int32) else (if v2 = (-1 : Int32) then some (-1 : Int32) else (if inb (((400 : Int32) * mo.1) + v2) 800 = true then (if (me.2.2.2.2.2.2.2.1 ((((400 : Int32) * mo.1) + v2)).toNatClampNeg) = (-1 : Int32) then (if inb (((400 : Int32) * mo.1) + v2) 800 = true then k4 (me.2.2.2.2.1 ((((400 : Int32) * mo.1) + v2)).toNatClampNeg) (v3 + (1 : Int32)) else none) else some v2) else none)))
def X12_named_4 (mo : Tmo) (me : Tme)  (n : Nat) (st : Int32 × Int32) : Option (Int32) := lp (fun rec st => X12_named_4b mo me  (fun a0 a1 => rec (a0, a1)) st.1 st.2) n st
set_option maxRecDepth 20000 in
theorem bX12_named_4 (C : Cx p s m args meth c cX12_named 4 (some .int) RX12 (.code yX12_named cX12_named 4 (some .int))) (hK : va_K D vwCl (tysX cy) s) (hN : NW s)  {q : Int32}  : ∀ (n : Nat)  {v2 : Int32} {v3 : Int32}, X12_named_4 mo me  n (v2, v3) = some q → ∀ {ls : Array Slot}, lv_has ls 4 [(0, .ref (ad 0)), (2, .int v2), (3, .int v3)] → va_P D vwCl (GM cy ad mt mc mb mo ms mk my mu ma me mr mp mg mw mf ml mq) s.heap → W p l e ({ frames := 0, cells := 0, slots := 0, locals := 0 } : Room) s m args below meth c s.heap [] 0 0 (MQ below (QP (some (.int q))) args s 0 0 (fun _ => False)) (F0 m 4 ls []) := by
  obtain ⟨hx, hb, hml, hown, hts, hr, hlk⟩ := id C
  intro n
  induction n with
  | zero =>
    intro v2 v3 h ls hl hP
    have h : (none : Option (Int32)) = some q := h
    cases h
  | succ n ih =>
    intro v2 v3 h ls hl hP
    have h : X12_named_4b mo me  (fun a0 a1 => X12_named_4 mo me  n (a0, a1)) v2 v3 = some q := h
    unfold X12_named_4b at h
    refine lv_iload_n hx hb dX12_named_4 rfl (lv_at hl 2 rfl) ?_
    refine lv_bipush (v := (8 : Int32)) hx hb dX12_named_5 (by decide) ?_
    refine lv_icmp_gt (tgt := 58) hx hb dX12_named_7 (by decide) (fun c1 => ?_) (fun c1 => ?_)
    · rw [if_pos c1] at h
      refine lv_iconst (v := (-1 : Int32)) hx hb dX12_named_58 (by decide) ?_
      obtain rfl := Option.some.inj h
      exact W.iret hx hb hr (fun t ht _ => ⟨rfl, ht⟩) (fun _ h9 => by cases h9) dX12_named_59 hlk
    · rw [if_neg c1] at h
      refine lv_iload_n hx hb dX12_named_10 rfl (lv_at hl 1 rfl) ?_
      refine lv_iconst (v := (-1 : Int32)) hx hb dX12_named_11 (by decide) ?_
      refine lv_icmp_eq (tgt := 58) hx hb dX12_named_12 (by decide) (fun c2 => ?_) (fun c2 => ?_)
      · rw [if_pos c2] at h
        refine lv_iconst (v := (-1 : Int32)) hx hb dX12_named_58 (by decide) ?_
        obtain rfl := Option.some.inj h
        exact W.iret hx hb hr (fun t ht _ => ⟨rfl, ht⟩) (fun _ h9 => by cases h9) dX12_named_59 hlk
      · rw [if_neg c2] at h
        refine lv_aload_n hx hb dX12_named_15 rfl (lv_at hl 0 rfl) ?_
        refine gM0_48 C hK hP w1415 dX12_named_16 ?_
        refine lv_sipush (v := (400 : Int32)) hx hb dX12_named_19 (by decide) ?_
        refine lv_aload_n hx hb dX12_named_22 rfl (lv_at hl 0 rfl) ?_
        refine gM0_7 (v := mo.1) C hK hP rfl w1374 dX12_named_23 ?_
        refine lv_imul hx hb dX12_named_26 ?_
        refine lv_iload_n hx hb dX12_named_27 rfl (lv_at hl 1 rfl) ?_
        refine lv_iadd hx hb dX12_named_28 ?_
        obtain ⟨n3, h⟩ := grd h
        refine aM40 (f := me.2.2.2.2.2.2.2.1) C hK hP rfl n3 dX12_named_29 ?_
        refine lv_iconst (v := (-1 : Int32)) hx hb dX12_named_30 (by decide) ?_
        refine lv_icmp_eq (tgt := 36) hx hb dX12_named_31 (by decide) (fun c4 => ?_) (fun c4 => ?_)
        · rw [if_pos c4] at h
          refine lv_aload_n hx hb dX12_named_36 rfl (lv_at hl 0 rfl) ?_
          refine gM0_45 C hK hP w1412 dX12_named_37 ?_
          refine lv_sipush (v := (400 : Int32)) hx hb dX12_named_40 (by decide) ?_
          refine lv_aload_n hx hb dX12_named_43 rfl (lv_at hl 0 rfl) ?_
          refine gM0_7 (v := mo.1) C hK hP rfl w1374 dX12_named_44 ?_
          refine lv_imul hx hb dX12_named_47 ?_
          refine lv_iload_n hx hb dX12_named_48 rfl (lv_at hl 1 rfl) ?_
          refine lv_iadd hx hb dX12_named_49 ?_
          obtain ⟨n5, h⟩ := grd h
          refine aM37 (f := me.2.2.2.2.1) C hK hP rfl n5 dX12_named_50 ?_
          refine lv_istore_n (lv' := [(2, .int (me.2.2.2.2.1 ((((400 : Int32) * mo.1) + v2)).toNatClampNeg)), (0, .ref (ad 0)), (3, .int v3)]) hx hb dX12_named_51 rfl hl (by decide) rfl (fun ls hl => ?_)
          refine lv_iinc (v := (v3 + (1 : Int32))) (lv' := [(3, .int (v3 + (1 : Int32))), (2, .int (me.2.2.2.2.1 ((((400 : Int32) * mo.1) + v2)).toNatClampNeg)), (0, .ref (ad 0))]) hx hb dX12_named_52 hl (k := 2) rfl rfl (by decide) rfl (fun ls hl => ?_)
          refine lv_goto (tgt := 4) hx hb dX12_named_55 (by decide) ?_
          exact ih h (lv_sub hl [2, 1, 0] rfl) hP
        · rw [if_neg c4] at h
          refine lv_iload_n hx hb dX12_named_34 rfl (lv_at hl 1 rfl) ?_
          obtain rfl := Option.some.inj h
          exact W.iret hx hb hr (fun t ht _ => ⟨rfl, ht⟩) (fun _ h9 => by cases h9) dX12_named_35 hlk
def X12_named (mo : Tmo) (me : Tme) (v1 : Int32) : Option (Int32) := X12_named_4 mo me FU (v1, (0 : Int32))
set_option maxRecDepth 20000 in
theorem bX12_named_0 (C : Cx p s m args meth c cX12_named 4 (some .int) RX12 (.code yX12_named cX12_named 4 (some .int))) (hK : va_K D vwCl (tysX cy) s) (hN : NW s)  {q : Int32}  {v1 : Int32} (h : X12_named mo me v1 = some q) {ls : Array Slot} (hl : lv_has ls 4 [(0, .ref (ad 0)), (1, .int v1)]) (hP : va_P D vwCl (GM cy ad mt mc mb mo ms mk my mu ma me mr mp mg mw mf ml mq) s.heap) : W p l e ({ frames := 0, cells := 0, slots := 0, locals := 0 } : Room) s m args below meth c s.heap [] 0 0 (MQ below (QP (some (.int q))) args s 0 0 (fun _ => False)) (F0 m 0 ls []) := by
  obtain ⟨hx, hb, hml, hown, hts, hr, hlk⟩ := id C
  unfold X12_named at h
  refine lv_iload_n hx hb dX12_named_0 rfl (lv_at hl 1 rfl) ?_
  refine lv_istore_n (lv' := [(2, .int v1), (0, .ref (ad 0)), (1, .int v1)]) hx hb dX12_named_1 rfl hl (by decide) rfl (fun ls hl => ?_)
  refine lv_iconst (v := (0 : Int32)) hx hb dX12_named_2 (by decide) ?_
  refine lv_istore_n (lv' := [(3, .int (0 : Int32)), (2, .int v1), (0, .ref (ad 0)), (1, .int v1)]) hx hb dX12_named_3 rfl hl (by decide) rfl (fun ls hl => ?_)
  exact bX12_named_4 C hK hN FU h (lv_sub hl [2, 1, 0] rfl) hP
theorem kX12_named  {v1 : Int32} {q : Int32} (h : X12_named mo me v1 = some q) : Met l yX12_named (.code yX12_named cX12_named 4 (some .int) :: WA) ({ frames := 0, cells := 0, slots := 0, locals := 0 } : Room) (va_Pc [.ref (ad 0), .int v1] (PR D cy (GM cy ad mt mc mb mo ms mk my mu ma me mr mp mg mw mf ml mq))) (QP (some (.int q))) 0 0 (fun _ => False) :=
  met_of (by decide) (Nat.le_of_ble_eq_true rfl) (fun p e s m below meth c ls C hP hK hN hl => bX12_named_0 C hK hN h hl hP)
def X12_signsOf (mo : Tmo) (me : Tme) (v1 : Int32) : Option (Int32) := ((X12_named mo me v1).bind fun q1 => (if q1 = (-1 : Int32) then some (-1 : Int32) else (if inb (((400 : Int32) * mo.1) + q1) 800 = true then some (me.2.2.2.2.2.2.2.1 ((((400 : Int32) * mo.1) + q1)).toNatClampNeg) else none)))
set_option maxRecDepth 20000 in
theorem bX12_signsOf_0 (C : Cx p s m args meth c cX12_signsOf 3 (some .int) RX12 (.code yX12_signsOf cX12_signsOf 3 (some .int))) (hK : va_K D vwCl (tysX cy) s) (hN : NW s)  {q : Int32}  {v1 : Int32} (h : X12_signsOf mo me v1 = some q) {ls : Array Slot} (hl : lv_has ls 3 [(0, .ref (ad 0)), (1, .int v1)]) (hP : va_P D vwCl (GM cy ad mt mc mb mo ms mk my mu ma me mr mp mg mw mf ml mq) s.heap) : W p l e ({ frames := 1, cells := 0, slots := 0, locals := 23 } : Room) s m args below meth c s.heap [] 0 0 (MQ below (QP (some (.int q))) args s 0 0 (fun _ => False)) (F0 m 0 ls []) := by
  obtain ⟨hx, hb, hml, hown, hts, hr, hlk⟩ := id C
  unfold X12_signsOf at h
  refine lv_aload_n hx hb dX12_signsOf_0 rfl (lv_at hl 0 rfl) ?_
  refine lv_iload_n hx hb dX12_signsOf_1 rfl (lv_at hl 1 rfl) ?_
  obtain ⟨q1, h2, h⟩ := bnd h
  refine cPi (run_V (rest := []) C (kX12_named h2) caX12_named w1899 ⟨rfl, rfl, Nat.le_of_ble_eq_true rfl, Nat.le_of_ble_eq_true rfl⟩ hK hN hP (rM0 hK hP) rfl hl.1 rfl (Nat.le_of_ble_eq_true rfl) dX12_signsOf_2 ⟨Nat.zero_le _, Nat.zero_le _⟩) ?_
  refine lv_istore_n (lv' := [(2, .int q1), (0, .ref (ad 0)), (1, .int v1)]) hx hb dX12_signsOf_5 rfl hl (by decide) rfl (fun ls hl => ?_)
  refine lv_iload_n hx hb dX12_signsOf_6 rfl (lv_at hl 0 rfl) ?_
  refine lv_iconst (v := (-1 : Int32)) hx hb dX12_signsOf_7 (by decide) ?_
  refine lv_icmp_ne (tgt := 15) hx hb dX12_signsOf_8 (by decide) (fun c3 => ?_) (fun c3 => ?_)
  · rw [if_neg c3] at h
    refine lv_aload_n hx hb dX12_signsOf_15 rfl (lv_at hl 1 rfl) ?_
    refine gM0_48 C hK hP w1415 dX12_signsOf_16 ?_
    refine lv_sipush (v := (400 : Int32)) hx hb dX12_signsOf_19 (by decide) ?_
    refine lv_aload_n hx hb dX12_signsOf_22 rfl (lv_at hl 1 rfl) ?_
    refine gM0_7 (v := mo.1) C hK hP rfl w1374 dX12_signsOf_23 ?_
    refine lv_imul hx hb dX12_signsOf_26 ?_
    refine lv_iload_n hx hb dX12_signsOf_27 rfl (lv_at hl 0 rfl) ?_
    refine lv_iadd hx hb dX12_signsOf_28 ?_
    obtain ⟨n4, h⟩ := grd h
    refine aM40 (f := me.2.2.2.2.2.2.2.1) C hK hP rfl n4 dX12_signsOf_29 ?_
    obtain rfl := Option.some.inj h
    exact W.iret hx hb hr (fun t ht _ => ⟨rfl, ht⟩) (fun _ h9 => by cases h9) dX12_signsOf_30 hlk
  · rw [if_pos c3] at h
    refine lv_iconst (v := (-1 : Int32)) hx hb dX12_signsOf_11 (by decide) ?_
    refine lv_goto (tgt := 30) hx hb dX12_signsOf_12 (by decide) ?_
    obtain rfl := Option.some.inj h
    exact W.iret hx hb hr (fun t ht _ => ⟨rfl, ht⟩) (fun _ h9 => by cases h9) dX12_signsOf_30 hlk
theorem kX12_signsOf  {v1 : Int32} {q : Int32} (h : X12_signsOf mo me v1 = some q) : Met l yX12_signsOf (.code yX12_signsOf cX12_signsOf 3 (some .int) :: WA) ({ frames := 1, cells := 0, slots := 0, locals := 23 } : Room) (va_Pc [.ref (ad 0), .int v1] (PR D cy (GM cy ad mt mc mb mo ms mk my mu ma me mr mp mg mw mf ml mq))) (QP (some (.int q))) 0 0 (fun _ => False) :=
  met_of (by decide) (Nat.le_of_ble_eq_true rfl) (fun p e s m below meth c ls C hP hK hN hl => bX12_signsOf_0 C hK hN h hl hP)
def X12_rangesOf_42 (mo : Tmo) (mg : Tmg) (k4 : Int32 → Int32 → Int32 → Option (Int32))  (v1 : Int32) (v3 : Int32) (z0 : Int32) (z1 : Int32) : Option (Int32) := k4 v1 (z1 + z0) (v3 + (1 : Int32))
set_option maxRecDepth 20000 in
theorem bX12_rangesOf_42 (C : Cx p s m args meth c cX12_rangesOf 4 (some .int) RX12 (.code yX12_rangesOf cX12_rangesOf 4 (some .int))) (hK : va_K D vwCl (tysX cy) s) (hN : NW s) {k4 : Int32 → Int32 → Int32 → Option (Int32)} {q : Int32} (hk4 : ∀  {v1 : Int32} {v2 : Int32} {v3 : Int32}, k4 v1 v2 v3 = some q → ∀ {ls : Array Slot}, lv_has ls 4 [(0, .ref (ad 0)), (1, .int v1), (2, .int v2), (3, .int v3)] → va_P D vwCl (GM cy ad mt mc mb mo ms mk my mu ma me mr mp mg mw mf ml mq) s.heap → W p l e ({ frames := 0, cells := 0, slots := 0, locals := 0 } : Room) s m args below meth c s.heap [] 0 0 (MQ below (QP (some (.int q))) args s 0 0 (fun _ => False)) (F0 m 4 ls [])) {v1 : Int32} {v3 : Int32} {z0 : Int32} {z1 : Int32} (h : X12_rangesOf_42 mo mg k4 v1 v3 z0 z1 = some q) {ls : Array Slot} (hl : lv_has ls 4 [(0, .ref (ad 0)), (1, .int v1), (3, .int v3)]) (hP : va_P D vwCl (GM cy ad mt mc mb mo ms mk my mu ma me mr mp mg mw mf ml mq) s.heap) : W p l e ({ frames := 0, cells := 0, slots := 0, locals := 0 } : Room) s m args below meth c s.heap [] 0 0 (MQ below (QP (some (.int q))) args s 0 0 (fun _ => False)) (F0 m 42 ls [.int z0, .int z1]) := by
  obtain ⟨hx, hb, hml, hown, hts, hr, hlk⟩ := id C
  unfold X12_rangesOf_42 at h
  refine lv_iadd hx hb dX12_rangesOf_42 ?_
  refine lv_istore_n (lv' := [(2, .int (z1 + z0)), (0, .ref (ad 0)), (1, .int v1), (3, .int v3)]) hx hb dX12_rangesOf_43 rfl hl (by decide) rfl (fun ls hl => ?_)
  refine lv_iinc (v := (v3 + (1 : Int32))) (lv' := [(3, .int (v3 + (1 : Int32))), (2, .int (z1 + z0)), (0, .ref (ad 0)), (1, .int v1)]) hx hb dX12_rangesOf_44 hl (k := 3) rfl rfl (by decide) rfl (fun ls hl => ?_)
  refine lv_goto (tgt := 4) hx hb dX12_rangesOf_47 (by decide) ?_
  exact hk4 h (lv_sub hl [2, 3, 1, 0] rfl) hP
def X12_rangesOf_4b (mo : Tmo) (mg : Tmg)  (k4 : Int32 → Int32 → Int32 → Option (Int32))  (v1 : Int32) (v2 : Int32) (v3 : Int32) : Option (Int32) := (if inb mo.1 2 = true then (if v3 < (mg.1 (mo.1).toNatClampNeg) then (if inb (((200 : Int32) * mo.1) + v3) 400 = true then (if (mg.2.1 ((((200 : Int32) * mo.1) + v3)).toNatClampNeg) = v1 then X12_rangesOf_42 mo mg k4 v1 v3 (1 : Int32) v2 else X12_rangesOf_42 mo mg k4 v1 v3 (0 : Int32) v2) else none) else some v2) else none)
def X12_rangesOf_4 (mo : Tmo) (mg : Tmg)  (n : Nat) (st : Int32 × Int32 × Int32) : Option (Int32) := lp (fun rec st => X12_rangesOf_4b mo mg  (fun a0 a1 a2 => rec (a0, a1, a2)) st.1 st.2.1 st.2.2) n st
set_option maxRecDepth 20000 in
theorem bX12_rangesOf_4 (C : Cx p s m args meth c cX12_rangesOf 4 (some .int) RX12 (.code yX12_rangesOf cX12_rangesOf 4 (some .int))) (hK : va_K D vwCl (tysX cy) s) (hN : NW s)  {q : Int32}  : ∀ (n : Nat)  {v1 : Int32} {v2 : Int32} {v3 : Int32}, X12_rangesOf_4 mo mg  n (v1, v2, v3) = some q → ∀ {ls : Array Slot}, lv_has ls 4 [(0, .ref (ad 0)), (1, .int v1), (2, .int v2), (3, .int v3)] → va_P D vwCl (GM cy ad mt mc mb mo ms mk my mu ma me mr mp mg mw mf ml mq) s.heap → W p l e ({ frames := 0, cells := 0, slots := 0, locals := 0 } : Room) s m args below meth c s.heap [] 0 0 (MQ below (QP (some (.int q))) args s 0 0 (fun _ => False)) (F0 m 4 ls []) := by
  obtain ⟨hx, hb, hml, hown, hts, hr, hlk⟩ := id C
  intro n
  induction n with
  | zero =>
    intro v1 v2 v3 h ls hl hP
    have h : (none : Option (Int32)) = some q := h
    cases h
  | succ n ih =>
    intro v1 v2 v3 h ls hl hP
    have h : X12_rangesOf_4b mo mg  (fun a0 a1 a2 => X12_rangesOf_4 mo mg  n (a0, a1, a2)) v1 v2 v3 = some q := h
    unfold X12_rangesOf_4b at h
    refine lv_iload_n hx hb dX12_rangesOf_4 rfl (lv_at hl 3 rfl) ?_
    refine lv_aload_n hx hb dX12_rangesOf_5 rfl (lv_at hl 0 rfl) ?_
    refine gM0_14 C hK hP w1381 dX12_rangesOf_6 ?_
    refine lv_aload_n hx hb dX12_rangesOf_9 rfl (lv_at hl 0 rfl) ?_
    refine gM0_7 (v := mo.1) C hK hP rfl w1374 dX12_rangesOf_10 ?_
    obtain ⟨n1, h⟩ := grd h
    refine aM7 (f := mg.1) C hK hP rfl n1 dX12_rangesOf_13 ?_
    refine b_icmp_ge (tgt := 50) hx hb dX12_rangesOf_14 (by decide) (fun c2 => ?_) (fun c2 => ?_)
    · rw [if_neg c2] at h
      refine lv_iload_n hx hb dX12_rangesOf_50 rfl (lv_at hl 2 rfl) ?_
      obtain rfl := Option.some.inj h
      exact W.iret hx hb hr (fun t ht _ => ⟨rfl, ht⟩) (fun _ h9 => by cases h9) dX12_rangesOf_51 hlk
    · rw [if_pos c2] at h
      refine lv_iload_n hx hb dX12_rangesOf_17 rfl (lv_at hl 2 rfl) ?_
      refine lv_aload_n hx hb dX12_rangesOf_18 rfl (lv_at hl 0 rfl) ?_
      refine gM0_67 C hK hP w1434 dX12_rangesOf_19 ?_
      refine lv_sipush (v := (200 : Int32)) hx hb dX12_rangesOf_22 (by decide) ?_
      refine lv_aload_n hx hb dX12_rangesOf_25 rfl (lv_at hl 0 rfl) ?_
      refine gM0_7 (v := mo.1) C hK hP rfl w1374 dX12_rangesOf_26 ?_
      refine lv_imul hx hb dX12_rangesOf_29 ?_
      refine lv_iload_n hx hb dX12_rangesOf_30 rfl (lv_at hl 3 rfl) ?_
      refine lv_iadd hx hb dX12_rangesOf_31 ?_
      obtain ⟨n3, h⟩ := grd h
      refine aM57 (f := mg.2.1) C hK hP rfl n3 dX12_rangesOf_32 ?_
      refine lv_iload_n hx hb dX12_rangesOf_33 rfl (lv_at hl 1 rfl) ?_
      refine lv_icmp_ne (tgt := 41) hx hb dX12_rangesOf_34 (by decide) (fun c4 => ?_) (fun c4 => ?_)
      · rw [if_neg c4] at h
        refine lv_iconst (v := (0 : Int32)) hx hb dX12_rangesOf_41 (by decide) ?_
        exact bX12_rangesOf_42 C hK hN @ih h (lv_sub hl [0, 1, 3] rfl) hP
      · rw [if_pos c4] at h
        refine lv_iconst (v := (1 : Int32)) hx hb dX12_rangesOf_37 (by decide) ?_
        refine lv_goto (tgt := 42) hx hb dX12_rangesOf_38 (by decide) ?_
        exact bX12_rangesOf_42 C hK hN @ih h (lv_sub hl [0, 1, 3] rfl) hP
def X12_rangesOf (mo : Tmo) (mg : Tmg) (v1 : Int32) : Option (Int32) := X12_rangesOf_4 mo mg FU (v1, (0 : Int32), (0 : Int32))
set_option maxRecDepth 20000 in
theorem bX12_rangesOf_0 (C : Cx p s m args meth c cX12_rangesOf 4 (some .int) RX12 (.code yX12_rangesOf cX12_rangesOf 4 (some .int))) (hK : va_K D vwCl (tysX cy) s) (hN : NW s)  {q : Int32}  {v1 : Int32} (h : X12_rangesOf mo mg v1 = some q) {ls : Array Slot} (hl : lv_has ls 4 [(0, .ref (ad 0)), (1, .int v1)]) (hP : va_P D vwCl (GM cy ad mt mc mb mo ms mk my mu ma me mr mp mg mw mf ml mq) s.heap) : W p l e ({ frames := 0, cells := 0, slots := 0, locals := 0 } : Room) s m args below meth c s.heap [] 0 0 (MQ below (QP (some (.int q))) args s 0 0 (fun _ => False)) (F0 m 0 ls []) := by
  obtain ⟨hx, hb, hml, hown, hts, hr, hlk⟩ := id C
  unfold X12_rangesOf at h
  refine lv_iconst (v := (0 : Int32)) hx hb dX12_rangesOf_0 (by decide) ?_
  refine lv_istore_n (lv' := [(2, .int (0 : Int32)), (0, .ref (ad 0)), (1, .int v1)]) hx hb dX12_rangesOf_1 rfl hl (by decide) rfl (fun ls hl => ?_)
  refine lv_iconst (v := (0 : Int32)) hx hb dX12_rangesOf_2 (by decide) ?_
  refine lv_istore_n (lv' := [(3, .int (0 : Int32)), (2, .int (0 : Int32)), (0, .ref (ad 0)), (1, .int v1)]) hx hb dX12_rangesOf_3 rfl hl (by decide) rfl (fun ls hl => ?_)
  exact bX12_rangesOf_4 C hK hN FU h (lv_sub hl [2, 3, 1, 0] rfl) hP
theorem kX12_rangesOf  {v1 : Int32} {q : Int32} (h : X12_rangesOf mo mg v1 = some q) : Met l yX12_rangesOf (.code yX12_rangesOf cX12_rangesOf 4 (some .int) :: WA) ({ frames := 0, cells := 0, slots := 0, locals := 0 } : Room) (va_Pc [.ref (ad 0), .int v1] (PR D cy (GM cy ad mt mc mb mo ms mk my mu ma me mr mp mg mw mf ml mq))) (QP (some (.int q))) 0 0 (fun _ => False) :=
  met_of (by decide) (Nat.le_of_ble_eq_true rfl) (fun p e s m below meth c ls C hP hK hN hl => bX12_rangesOf_0 C hK hN h hl hP)
def X12_entry (mo : Tmo) (me : Tme) (mg : Tmg) (v1 : Int32) (v2 : Int32) : Option (Int32) := ((X12_isEntry mo me v1).bind fun q1 => (if q1 = 0 then some (-1 : Int32) else (if v2 = (0 : Int32) then (if inb (((400 : Int32) * mo.1) + v1) 800 = true then some (((me.2.1 ((((400 : Int32) * mo.1) + v1)).toNatClampNeg)).toInt32) else none) else (if v2 = (1 : Int32) then (if inb (((400 : Int32) * mo.1) + v1) 800 = true then some (me.2.2.1 ((((400 : Int32) * mo.1) + v1)).toNatClampNeg) else none) else (if v2 = (2 : Int32) then (if inb (((400 : Int32) * mo.1) + v1) 800 = true then some (me.2.2.2.1 ((((400 : Int32) * mo.1) + v1)).toNatClampNeg) else none) else (if v2 = (3 : Int32) then (if inb (((400 : Int32) * mo.1) + v1) 800 = true then some (me.2.2.2.2.1 ((((400 : Int32) * mo.1) + v1)).toNatClampNeg) else none) else (if v2 = (4 : Int32) then ((X12_rangesOf mo mg v1).bind fun q13 => some q13) else (if v2 = (5 : Int32) then (if inb (((400 : Int32) * mo.1) + v1) 800 = true then some (me.2.2.2.2.2.1 ((((400 : Int32) * mo.1) + v1)).toNatClampNeg) else none) else (if v2 = (6 : Int32) then ((X12_signsOf mo me v1).bind fun q18 => some q18) else (if v2 = (7 : Int32) then (if inb (((400 : Int32) * mo.1) + v1) 800 = true then (if (me.2.2.2.2.2.2.2.2.2.2.1 ((((400 : Int32) * mo.1) + v1)).toNatClampNeg) = 0 then some (-1 : Int32) else (if inb (((400 : Int32) * mo.1) + v1) 800 = true then some (me.2.2.2.2.2.2.2.2.1 ((((400 : Int32) * mo.1) + v1)).toNatClampNeg) else none)) else none) else (if v2 = (8 : Int32) then (if inb (((400 : Int32) * mo.1) + v1) 800 = true then (if (me.2.2.2.2.2.2.2.2.2.2.2.1 ((((400 : Int32) * mo.1) + v1)).toNatClampNeg) = 0 then some (-1 : Int32) else (if inb (((400 : Int32) * mo.1) + v1) 800 = true then some (me.2.2.2.2.2.2.2.2.2.1 ((((400 : Int32) * mo.1) + v1)).toNatClampNeg) else none)) else none) else some (-1 : Int32))))))))))))
set_option maxRecDepth 20000 in
theorem bX12_entry_0 (C : Cx p s m args meth c cX12_entry 4 (some .int) RX12 (.code yX12_entry cX12_entry 4 (some .int))) (hK : va_K D vwCl (tysX cy) s) (hN : NW s)  {q : Int32}  {v1 : Int32} {v2 : Int32} (h : X12_entry mo me mg v1 v2 = some q) {ls : Array Slot} (hl : lv_has ls 4 [(0, .ref (ad 0)), (1, .int v1), (2, .int v2)]) (hP : va_P D vwCl (GM cy ad mt mc mb mo ms mk my mu ma me mr mp mg mw mf ml mq) s.heap) : W p l e ({ frames := 2, cells := 0, slots := 0, locals := 45 } : Room) s m args below meth c s.heap [] 0 0 (MQ below (QP (some (.int q))) args s 0 0 (fun _ => False)) (F0 m 0 ls []) := by
  obtain ⟨hx, hb, hml, hown, hts, hr, hlk⟩ := id C
  unfold X12_entry at h
  refine lv_aload_n hx hb dX12_entry_0 rfl (lv_at hl 0 rfl) ?_
  refine lv_iload_n hx hb dX12_entry_1 rfl (lv_at hl 1 rfl) ?_
  obtain ⟨q1, h2, h⟩ := bnd h
  refine cPi (run_V (rest := []) C (kX12_isEntry h2) caX12_isEntry w1887 ⟨rfl, rfl, Nat.le_of_ble_eq_true rfl, Nat.le_of_ble_eq_true rfl⟩ hK hN hP (rM0 hK hP) rfl hl.1 rfl (Nat.le_of_ble_eq_true rfl) dX12_entry_2 ⟨Nat.zero_le _, Nat.zero_le _⟩) ?_
  refine lv_if_ne (tgt := 10) hx hb dX12_entry_5 (by decide) (fun c3 => ?_) (fun c3 => ?_)
  · rw [if_neg c3] at h
    refine lv_sipush (v := (400 : Int32)) hx hb dX12_entry_10 (by decide) ?_
    refine lv_aload_n hx hb dX12_entry_13 rfl (lv_at hl 0 rfl) ?_
    refine gM0_7 (v := mo.1) C hK hP rfl w1374 dX12_entry_14 ?_
    refine lv_imul hx hb dX12_entry_17 ?_
    refine lv_iload_n hx hb dX12_entry_18 rfl (lv_at hl 1 rfl) ?_
    refine lv_iadd hx hb dX12_entry_19 ?_
    refine lv_istore_n (lv' := [(3, .int (((400 : Int32) * mo.1) + v1)), (0, .ref (ad 0)), (1, .int v1), (2, .int v2)]) hx hb dX12_entry_20 rfl hl (by decide) rfl (fun ls hl => ?_)
    refine lv_iload_n hx hb dX12_entry_21 rfl (lv_at hl 3 rfl) ?_
    by_cases c4 : v2 = (0 : Int32)
    · rw [if_pos c4] at h
      rw [c4]
      refine lv_tableIn (off := 50) (tgt := 72) hx hb dX12_entry_22 (by decide) (by decide) (by decide) (by decide) ?_
      refine lv_aload_n hx hb dX12_entry_72 rfl (lv_at hl 1 rfl) ?_
      refine gM0_42 C hK hP w1409 dX12_entry_73 ?_
      refine lv_iload_n hx hb dX12_entry_76 rfl (lv_at hl 0 rfl) ?_
      obtain ⟨n5, h⟩ := grd h
      refine aM34 (f := me.2.1) C hK hP rfl n5 dX12_entry_77 ?_
      refine lv_l2i (v := (((me.2.1 ((((400 : Int32) * mo.1) + v1)).toNatClampNeg)).toInt32)) hx hb dX12_entry_78 rfl ?_
      obtain rfl := Option.some.inj h
      exact W.iret hx hb hr (fun t ht _ => ⟨rfl, ht⟩) (fun _ h9 => by cases h9) dX12_entry_79 hlk
    rw [if_neg c4] at h
    by_cases c6 : v2 = (1 : Int32)
    · rw [if_pos c6] at h
      rw [c6]
      refine lv_tableIn (off := 58) (tgt := 80) hx hb dX12_entry_22 (by decide) (by decide) (by decide) (by decide) ?_
      refine lv_aload_n hx hb dX12_entry_80 rfl (lv_at hl 1 rfl) ?_
      refine gM0_43 C hK hP w1410 dX12_entry_81 ?_
      refine lv_iload_n hx hb dX12_entry_84 rfl (lv_at hl 0 rfl) ?_
      obtain ⟨n7, h⟩ := grd h
      refine aM35 (f := me.2.2.1) C hK hP rfl n7 dX12_entry_85 ?_
      obtain rfl := Option.some.inj h
      exact W.iret hx hb hr (fun t ht _ => ⟨rfl, ht⟩) (fun _ h9 => by cases h9) dX12_entry_86 hlk
    rw [if_neg c6] at h
    by_cases c8 : v2 = (2 : Int32)
    · rw [if_pos c8] at h
      rw [c8]
      refine lv_tableIn (off := 65) (tgt := 87) hx hb dX12_entry_22 (by decide) (by decide) (by decide) (by decide) ?_
      refine lv_aload_n hx hb dX12_entry_87 rfl (lv_at hl 1 rfl) ?_
      refine gM0_44 C hK hP w1411 dX12_entry_88 ?_
      refine lv_iload_n hx hb dX12_entry_91 rfl (lv_at hl 0 rfl) ?_
      obtain ⟨n9, h⟩ := grd h
      refine aM36 (f := me.2.2.2.1) C hK hP rfl n9 dX12_entry_92 ?_
      obtain rfl := Option.some.inj h
      exact W.iret hx hb hr (fun t ht _ => ⟨rfl, ht⟩) (fun _ h9 => by cases h9) dX12_entry_93 hlk
    rw [if_neg c8] at h
    by_cases c10 : v2 = (3 : Int32)
    · rw [if_pos c10] at h
      rw [c10]
      refine lv_tableIn (off := 72) (tgt := 94) hx hb dX12_entry_22 (by decide) (by decide) (by decide) (by decide) ?_
      refine lv_aload_n hx hb dX12_entry_94 rfl (lv_at hl 1 rfl) ?_
      refine gM0_45 C hK hP w1412 dX12_entry_95 ?_
      refine lv_iload_n hx hb dX12_entry_98 rfl (lv_at hl 0 rfl) ?_
      obtain ⟨n11, h⟩ := grd h
      refine aM37 (f := me.2.2.2.2.1) C hK hP rfl n11 dX12_entry_99 ?_
      obtain rfl := Option.some.inj h
      exact W.iret hx hb hr (fun t ht _ => ⟨rfl, ht⟩) (fun _ h9 => by cases h9) dX12_entry_100 hlk
    rw [if_neg c10] at h
    by_cases c12 : v2 = (4 : Int32)
    · rw [if_pos c12] at h
      rw [c12]
      refine lv_tableIn (off := 79) (tgt := 101) hx hb dX12_entry_22 (by decide) (by decide) (by decide) (by decide) ?_
      refine lv_aload_n hx hb dX12_entry_101 rfl (lv_at hl 1 rfl) ?_
      refine lv_iload_n hx hb dX12_entry_102 rfl (lv_at hl 2 rfl) ?_
      obtain ⟨q13, h14, h⟩ := bnd h
      refine cPi (run_V (rest := []) C (kX12_rangesOf h14) caX12_rangesOf w1891 ⟨rfl, rfl, Nat.le_of_ble_eq_true rfl, Nat.le_of_ble_eq_true rfl⟩ hK hN hP (rM0 hK hP) rfl hl.1 rfl (Nat.le_of_ble_eq_true rfl) dX12_entry_103 ⟨Nat.zero_le _, Nat.zero_le _⟩) ?_
      obtain rfl := Option.some.inj h
      exact W.iret hx hb hr (fun t ht _ => ⟨rfl, ht⟩) (fun _ h9 => by cases h9) dX12_entry_106 hlk
    rw [if_neg c12] at h
    by_cases c15 : v2 = (5 : Int32)
    · rw [if_pos c15] at h
      rw [c15]
      refine lv_tableIn (off := 85) (tgt := 107) hx hb dX12_entry_22 (by decide) (by decide) (by decide) (by decide) ?_
      refine lv_aload_n hx hb dX12_entry_107 rfl (lv_at hl 1 rfl) ?_
      refine gM0_46 C hK hP w1413 dX12_entry_108 ?_
      refine lv_iload_n hx hb dX12_entry_111 rfl (lv_at hl 0 rfl) ?_
      obtain ⟨n16, h⟩ := grd h
      refine aM38 (f := me.2.2.2.2.2.1) C hK hP rfl n16 dX12_entry_112 ?_
      obtain rfl := Option.some.inj h
      exact W.iret hx hb hr (fun t ht _ => ⟨rfl, ht⟩) (fun _ h9 => by cases h9) dX12_entry_113 hlk
    rw [if_neg c15] at h
    by_cases c17 : v2 = (6 : Int32)
    · rw [if_pos c17] at h
      rw [c17]
      refine lv_tableIn (off := 92) (tgt := 114) hx hb dX12_entry_22 (by decide) (by decide) (by decide) (by decide) ?_
      refine lv_aload_n hx hb dX12_entry_114 rfl (lv_at hl 1 rfl) ?_
      refine lv_iload_n hx hb dX12_entry_115 rfl (lv_at hl 2 rfl) ?_
      obtain ⟨q18, h19, h⟩ := bnd h
      refine cPi (run_V (rest := []) C (kX12_signsOf h19) caX12_signsOf w1895 ⟨rfl, rfl, Nat.le_of_ble_eq_true rfl, Nat.le_of_ble_eq_true rfl⟩ hK hN hP (rM0 hK hP) rfl hl.1 rfl (Nat.le_of_ble_eq_true rfl) dX12_entry_116 ⟨Nat.zero_le _, Nat.zero_le _⟩) ?_
      obtain rfl := Option.some.inj h
      exact W.iret hx hb hr (fun t ht _ => ⟨rfl, ht⟩) (fun _ h9 => by cases h9) dX12_entry_119 hlk
    rw [if_neg c17] at h
    by_cases c20 : v2 = (7 : Int32)
    · rw [if_pos c20] at h
      rw [c20]
      refine lv_tableIn (off := 98) (tgt := 120) hx hb dX12_entry_22 (by decide) (by decide) (by decide) (by decide) ?_
      refine lv_aload_n hx hb dX12_entry_120 rfl (lv_at hl 1 rfl) ?_
      refine gM0_51 C hK hP w1418 dX12_entry_121 ?_
      refine lv_iload_n hx hb dX12_entry_124 rfl (lv_at hl 0 rfl) ?_
      obtain ⟨n21, h⟩ := grd h
      refine aM43 (f := me.2.2.2.2.2.2.2.2.2.2.1) C hK hP rfl n21 dX12_entry_125 ?_
      refine lv_if_eq (tgt := 138) hx hb dX12_entry_126 (by decide) (fun c22 => ?_) (fun c22 => ?_)
      · rw [if_pos c22] at h
        refine lv_iconst (v := (-1 : Int32)) hx hb dX12_entry_138 (by decide) ?_
        obtain rfl := Option.some.inj h
        exact W.iret hx hb hr (fun t ht _ => ⟨rfl, ht⟩) (fun _ h9 => by cases h9) dX12_entry_139 hlk
      · rw [if_neg c22] at h
        refine lv_aload_n hx hb dX12_entry_129 rfl (lv_at hl 1 rfl) ?_
        refine gM0_49 C hK hP w1416 dX12_entry_130 ?_
        refine lv_iload_n hx hb dX12_entry_133 rfl (lv_at hl 0 rfl) ?_
        obtain ⟨n23, h⟩ := grd h
        refine aM41 (f := me.2.2.2.2.2.2.2.2.1) C hK hP rfl n23 dX12_entry_134 ?_
        refine lv_goto (tgt := 139) hx hb dX12_entry_135 (by decide) ?_
        obtain rfl := Option.some.inj h
        exact W.iret hx hb hr (fun t ht _ => ⟨rfl, ht⟩) (fun _ h9 => by cases h9) dX12_entry_139 hlk
    rw [if_neg c20] at h
    by_cases c24 : v2 = (8 : Int32)
    · rw [if_pos c24] at h
      rw [c24]
      refine lv_tableIn (off := 118) (tgt := 140) hx hb dX12_entry_22 (by decide) (by decide) (by decide) (by decide) ?_
      refine lv_aload_n hx hb dX12_entry_140 rfl (lv_at hl 1 rfl) ?_
      refine gM0_52 C hK hP w1419 dX12_entry_141 ?_
      refine lv_iload_n hx hb dX12_entry_144 rfl (lv_at hl 0 rfl) ?_
      obtain ⟨n25, h⟩ := grd h
      refine aM44 (f := me.2.2.2.2.2.2.2.2.2.2.2.1) C hK hP rfl n25 dX12_entry_145 ?_
      refine lv_if_eq (tgt := 158) hx hb dX12_entry_146 (by decide) (fun c26 => ?_) (fun c26 => ?_)
      · rw [if_pos c26] at h
        refine lv_iconst (v := (-1 : Int32)) hx hb dX12_entry_158 (by decide) ?_
        obtain rfl := Option.some.inj h
        exact W.iret hx hb hr (fun t ht _ => ⟨rfl, ht⟩) (fun _ h9 => by cases h9) dX12_entry_159 hlk
      · rw [if_neg c26] at h
        refine lv_aload_n hx hb dX12_entry_149 rfl (lv_at hl 1 rfl) ?_
        refine gM0_50 C hK hP w1417 dX12_entry_150 ?_
        refine lv_iload_n hx hb dX12_entry_153 rfl (lv_at hl 0 rfl) ?_
        obtain ⟨n27, h⟩ := grd h
        refine aM42 (f := me.2.2.2.2.2.2.2.2.2.1) C hK hP rfl n27 dX12_entry_154 ?_
        refine lv_goto (tgt := 159) hx hb dX12_entry_155 (by decide) ?_
        obtain rfl := Option.some.inj h
        exact W.iret hx hb hr (fun t ht _ => ⟨rfl, ht⟩) (fun _ h9 => by cases h9) dX12_entry_159 hlk
    rw [if_neg c24] at h
    refine tsw_d (tgt := 160) hx hb dX12_entry_22 [(0 : Int32), (1 : Int32), (2 : Int32), (3 : Int32), (4 : Int32), (5 : Int32), (6 : Int32), (7 : Int32), (8 : Int32)] (by simp only [List.mem_cons, List.not_mem_nil, or_false]; rintro _ (rfl | rfl | rfl | rfl | rfl | rfl | rfl | rfl | rfl) <;> assumption) (by decide +kernel) (by decide) ?_
    refine lv_iconst (v := (-1 : Int32)) hx hb dX12_entry_160 (by decide) ?_
    obtain rfl := Option.some.inj h
    exact W.iret hx hb hr (fun t ht _ => ⟨rfl, ht⟩) (fun _ h9 => by cases h9) dX12_entry_161 hlk
  · rw [if_pos c3] at h
    refine lv_iconst (v := (-1 : Int32)) hx hb dX12_entry_8 (by decide) ?_
    obtain rfl := Option.some.inj h
    exact W.iret hx hb hr (fun t ht _ => ⟨rfl, ht⟩) (fun _ h9 => by cases h9) dX12_entry_9 hlk
theorem kX12_entry  {v1 : Int32} {v2 : Int32} {q : Int32} (h : X12_entry mo me mg v1 v2 = some q) : Met l yX12_entry (.code yX12_entry cX12_entry 4 (some .int) :: WA) ({ frames := 2, cells := 0, slots := 0, locals := 45 } : Room) (va_Pc [.ref (ad 0), .int v1, .int v2] (PR D cy (GM cy ad mt mc mb mo ms mk my mu ma me mr mp mg mw mf ml mq))) (QP (some (.int q))) 0 0 (fun _ => False) :=
  met_of (by decide) (Nat.le_of_ble_eq_true rfl) (fun p e s m below meth c ls C hP hK hN hl => bX12_entry_0 C hK hN h hl hP)
def X12_holds_89 (mo : Tmo) (me : Tme) (mg : Tmg) (k13 : Int32 → Int64 → Int32 → Int32 → Option (Int32))  (v1 : Int32) (v2 : Int64) (v5 : Int32) (z0 : Int32) : Option (Int32) := k13 v1 v2 z0 (v5 + (1 : Int32))
set_option maxRecDepth 20000 in
theorem bX12_holds_89 (C : Cx p s m args meth c cX12_holds 6 (some .boolean) RX12 (.code yX12_holds cX12_holds 6 (some .boolean))) (hK : va_K D vwCl (tysX cy) s) (hN : NW s) {k13 : Int32 → Int64 → Int32 → Int32 → Option (Int32)} {q : Int32} (hk13 : ∀  {v1 : Int32} {v2 : Int64} {v4 : Int32} {v5 : Int32}, k13 v1 v2 v4 v5 = some q → ∀ {ls : Array Slot}, lv_has ls 6 [(0, .ref (ad 0)), (1, .int v1), (2, .long v2), (4, .int v4), (5, .int v5)] → va_P D vwCl (GM cy ad mt mc mb mo ms mk my mu ma me mr mp mg mw mf ml mq) s.heap → W p l e ({ frames := 1, cells := 0, slots := 0, locals := 21 } : Room) s m args below meth c s.heap [] 0 0 (MQ below (QP (some (.int q))) args s 0 0 (fun _ => False)) (F0 m 13 ls [])) {v1 : Int32} {v2 : Int64} {v5 : Int32} {z0 : Int32} (h : X12_holds_89 mo me mg k13 v1 v2 v5 z0 = some q) {ls : Array Slot} (hl : lv_has ls 6 [(0, .ref (ad 0)), (1, .int v1), (2, .long v2), (5, .int v5)]) (hP : va_P D vwCl (GM cy ad mt mc mb mo ms mk my mu ma me mr mp mg mw mf ml mq) s.heap) : W p l e ({ frames := 1, cells := 0, slots := 0, locals := 21 } : Room) s m args below meth c s.heap [] 0 0 (MQ below (QP (some (.int q))) args s 0 0 (fun _ => False)) (F0 m 89 ls [.int z0]) := by
  obtain ⟨hx, hb, hml, hown, hts, hr, hlk⟩ := id C
  unfold X12_holds_89 at h
  refine lv_istore (lv' := [(4, .int z0), (0, .ref (ad 0)), (1, .int v1), (2, .long v2), (5, .int v5)]) hx hb dX12_holds_89 hl (by decide) rfl (fun ls hl => ?_)
  refine lv_iinc (v := (v5 + (1 : Int32))) (lv' := [(5, .int (v5 + (1 : Int32))), (4, .int z0), (0, .ref (ad 0)), (1, .int v1), (2, .long v2)]) hx hb dX12_holds_91 hl (k := 4) rfl rfl (by decide) rfl (fun ls hl => ?_)
  refine lv_goto (tgt := 13) hx hb dX12_holds_94 (by decide) ?_
  exact hk13 h (lv_sub hl [2, 3, 4, 1, 0] rfl) hP
def X12_holds_84 (mo : Tmo) (me : Tme) (mg : Tmg) (k13 : Int32 → Int64 → Int32 → Int32 → Option (Int32))  (v1 : Int32) (v2 : Int64) (v5 : Int32) : Option (Int32) := X12_holds_89 mo me mg k13 v1 v2 v5 (1 : Int32)
set_option maxRecDepth 20000 in
theorem bX12_holds_84 (C : Cx p s m args meth c cX12_holds 6 (some .boolean) RX12 (.code yX12_holds cX12_holds 6 (some .boolean))) (hK : va_K D vwCl (tysX cy) s) (hN : NW s) {k13 : Int32 → Int64 → Int32 → Int32 → Option (Int32)} {q : Int32} (hk13 : ∀  {v1 : Int32} {v2 : Int64} {v4 : Int32} {v5 : Int32}, k13 v1 v2 v4 v5 = some q → ∀ {ls : Array Slot}, lv_has ls 6 [(0, .ref (ad 0)), (1, .int v1), (2, .long v2), (4, .int v4), (5, .int v5)] → va_P D vwCl (GM cy ad mt mc mb mo ms mk my mu ma me mr mp mg mw mf ml mq) s.heap → W p l e ({ frames := 1, cells := 0, slots := 0, locals := 21 } : Room) s m args below meth c s.heap [] 0 0 (MQ below (QP (some (.int q))) args s 0 0 (fun _ => False)) (F0 m 13 ls [])) {v1 : Int32} {v2 : Int64} {v5 : Int32} (h : X12_holds_84 mo me mg k13 v1 v2 v5 = some q) {ls : Array Slot} (hl : lv_has ls 6 [(0, .ref (ad 0)), (1, .int v1), (2, .long v2), (5, .int v5)]) (hP : va_P D vwCl (GM cy ad mt mc mb mo ms mk my mu ma me mr mp mg mw mf ml mq) s.heap) : W p l e ({ frames := 1, cells := 0, slots := 0, locals := 21 } : Room) s m args below meth c s.heap [] 0 0 (MQ below (QP (some (.int q))) args s 0 0 (fun _ => False)) (F0 m 84 ls []) := by
  obtain ⟨hx, hb, hml, hown, hts, hr, hlk⟩ := id C
  unfold X12_holds_84 at h
  refine lv_iconst (v := (1 : Int32)) hx hb dX12_holds_84 (by decide) ?_
  refine lv_goto (tgt := 89) hx hb dX12_holds_85 (by decide) ?_
  exact bX12_holds_89 C hK hN @hk13 h (lv_sub hl [0, 1, 2, 3] rfl) hP
def X12_holds_88 (mo : Tmo) (me : Tme) (mg : Tmg) (k13 : Int32 → Int64 → Int32 → Int32 → Option (Int32))  (v1 : Int32) (v2 : Int64) (v5 : Int32) : Option (Int32) := X12_holds_89 mo me mg k13 v1 v2 v5 (0 : Int32)
set_option maxRecDepth 20000 in
theorem bX12_holds_88 (C : Cx p s m args meth c cX12_holds 6 (some .boolean) RX12 (.code yX12_holds cX12_holds 6 (some .boolean))) (hK : va_K D vwCl (tysX cy) s) (hN : NW s) {k13 : Int32 → Int64 → Int32 → Int32 → Option (Int32)} {q : Int32} (hk13 : ∀  {v1 : Int32} {v2 : Int64} {v4 : Int32} {v5 : Int32}, k13 v1 v2 v4 v5 = some q → ∀ {ls : Array Slot}, lv_has ls 6 [(0, .ref (ad 0)), (1, .int v1), (2, .long v2), (4, .int v4), (5, .int v5)] → va_P D vwCl (GM cy ad mt mc mb mo ms mk my mu ma me mr mp mg mw mf ml mq) s.heap → W p l e ({ frames := 1, cells := 0, slots := 0, locals := 21 } : Room) s m args below meth c s.heap [] 0 0 (MQ below (QP (some (.int q))) args s 0 0 (fun _ => False)) (F0 m 13 ls [])) {v1 : Int32} {v2 : Int64} {v5 : Int32} (h : X12_holds_88 mo me mg k13 v1 v2 v5 = some q) {ls : Array Slot} (hl : lv_has ls 6 [(0, .ref (ad 0)), (1, .int v1), (2, .long v2), (5, .int v5)]) (hP : va_P D vwCl (GM cy ad mt mc mb mo ms mk my mu ma me mr mp mg mw mf ml mq) s.heap) : W p l e ({ frames := 1, cells := 0, slots := 0, locals := 21 } : Room) s m args below meth c s.heap [] 0 0 (MQ below (QP (some (.int q))) args s 0 0 (fun _ => False)) (F0 m 88 ls []) := by
  obtain ⟨hx, hb, hml, hown, hts, hr, hlk⟩ := id C
  unfold X12_holds_88 at h
  refine lv_iconst (v := (0 : Int32)) hx hb dX12_holds_88 (by decide) ?_
  exact bX12_holds_89 C hK hN @hk13 h (lv_sub hl [0, 1, 2, 3] rfl) hP
def X12_holds_13b (mo : Tmo) (me : Tme) (mg : Tmg)  (k13 : Int32 → Int64 → Int32 → Int32 → Option (Int32))  (v1 : Int32) (v2 : Int64) (v4 : Int32) (v5 : Int32) : Option (Int32) := (if inb mo.1 2 = true then (if v5 < (((200 : Int32) * mo.1) + (mg.1 (mo.1).toNatClampNeg)) then ((X12_isEntry mo me v1).bind fun q4 => (if q4 = 0 then (if bz v4 = true then some v4 else none) else (if v4 = 0 then (if inb v5 400 = true then (if (mg.2.1 (v5).toNatClampNeg) = v1 then (if inb v5 400 = true then (if v2 < (mg.2.2.1 (v5).toNatClampNeg) then X12_holds_88 mo me mg k13 v1 v2 v5 else (if inb v5 400 = true then (if v2 < (mg.2.2.2 (v5).toNatClampNeg) then X12_holds_84 mo me mg k13 v1 v2 v5 else X12_holds_88 mo me mg k13 v1 v2 v5) else none)) else none) else X12_holds_88 mo me mg k13 v1 v2 v5) else none) else X12_holds_84 mo me mg k13 v1 v2 v5))) else (if bz v4 = true then some v4 else none)) else none)
def X12_holds_13 (mo : Tmo) (me : Tme) (mg : Tmg)  (n : Nat) (st : Int32 × Int64 × Int32 × Int32) : Option (Int32) := lp (fun rec st => X12_holds_13b mo me mg  (fun a0 a1 a2 a3 => rec (a0, a1, a2, a3)) st.1 st.2.1 st.2.2.1 st.2.2.2) n st
set_option maxRecDepth 20000 in
theorem bX12_holds_13 (C : Cx p s m args meth c cX12_holds 6 (some .boolean) RX12 (.code yX12_holds cX12_holds 6 (some .boolean))) (hK : va_K D vwCl (tysX cy) s) (hN : NW s)  {q : Int32}  : ∀ (n : Nat)  {v1 : Int32} {v2 : Int64} {v4 : Int32} {v5 : Int32}, X12_holds_13 mo me mg  n (v1, v2, v4, v5) = some q → ∀ {ls : Array Slot}, lv_has ls 6 [(0, .ref (ad 0)), (1, .int v1), (2, .long v2), (4, .int v4), (5, .int v5)] → va_P D vwCl (GM cy ad mt mc mb mo ms mk my mu ma me mr mp mg mw mf ml mq) s.heap → W p l e ({ frames := 1, cells := 0, slots := 0, locals := 21 } : Room) s m args below meth c s.heap [] 0 0 (MQ below (QP (some (.int q))) args s 0 0 (fun _ => False)) (F0 m 13 ls []) := by
  obtain ⟨hx, hb, hml, hown, hts, hr, hlk⟩ := id C
  intro n
  induction n with
  | zero =>
    intro v1 v2 v4 v5 h ls hl hP
    have h : (none : Option (Int32)) = some q := h
    cases h
  | succ n ih =>
    intro v1 v2 v4 v5 h ls hl hP
    have h : X12_holds_13b mo me mg  (fun a0 a1 a2 a3 => X12_holds_13 mo me mg  n (a0, a1, a2, a3)) v1 v2 v4 v5 = some q := h
    unfold X12_holds_13b at h
    refine lv_iload hx hb dX12_holds_13 (lv_at hl 4 rfl) ?_
    refine lv_sipush (v := (200 : Int32)) hx hb dX12_holds_15 (by decide) ?_
    refine lv_aload_n hx hb dX12_holds_18 rfl (lv_at hl 0 rfl) ?_
    refine gM0_7 (v := mo.1) C hK hP rfl w1374 dX12_holds_19 ?_
    refine lv_imul hx hb dX12_holds_22 ?_
    refine lv_aload_n hx hb dX12_holds_23 rfl (lv_at hl 0 rfl) ?_
    refine gM0_14 C hK hP w1381 dX12_holds_24 ?_
    refine lv_aload_n hx hb dX12_holds_27 rfl (lv_at hl 0 rfl) ?_
    refine gM0_7 (v := mo.1) C hK hP rfl w1374 dX12_holds_28 ?_
    obtain ⟨n1, h⟩ := grd h
    refine aM7 (f := mg.1) C hK hP rfl n1 dX12_holds_31 ?_
    refine lv_iadd hx hb dX12_holds_32 ?_
    refine b_icmp_ge (tgt := 97) hx hb dX12_holds_33 (by decide) (fun c2 => ?_) (fun c2 => ?_)
    · rw [if_neg c2] at h
      refine lv_iload hx hb dX12_holds_97 (lv_at hl 3 rfl) ?_
      obtain ⟨n3, h⟩ := grd h
      obtain rfl := Option.some.inj h
      exact W.zret (ty := .boolean) hx hb hr (bz_n n3) (fun t ht _ => ⟨rfl, ht⟩) (fun _ h9 => by cases h9) dX12_holds_99 hlk
    · rw [if_pos c2] at h
      refine lv_aload_n hx hb dX12_holds_36 rfl (lv_at hl 0 rfl) ?_
      refine lv_iload_n hx hb dX12_holds_37 rfl (lv_at hl 1 rfl) ?_
      obtain ⟨q4, h5, h⟩ := bnd h
      refine cPi (run_V (rest := []) C (kX12_isEntry h5) caX12_isEntry w1887 ⟨rfl, rfl, Nat.le_of_ble_eq_true rfl, Nat.le_of_ble_eq_true rfl⟩ hK hN hP (rM0 hK hP) rfl hl.1 rfl (Nat.le_of_ble_eq_true rfl) dX12_holds_38 ⟨Nat.zero_le _, Nat.zero_le _⟩) ?_
      refine lv_if_eq (tgt := 97) hx hb dX12_holds_41 (by decide) (fun c6 => ?_) (fun c6 => ?_)
      · rw [if_pos c6] at h
        refine lv_iload hx hb dX12_holds_97 (lv_at hl 3 rfl) ?_
        obtain ⟨n7, h⟩ := grd h
        obtain rfl := Option.some.inj h
        exact W.zret (ty := .boolean) hx hb hr (bz_n n7) (fun t ht _ => ⟨rfl, ht⟩) (fun _ h9 => by cases h9) dX12_holds_99 hlk
      · rw [if_neg c6] at h
        refine lv_iload hx hb dX12_holds_44 (lv_at hl 3 rfl) ?_
        refine lv_if_ne (tgt := 84) hx hb dX12_holds_46 (by decide) (fun c8 => ?_) (fun c8 => ?_)
        · rw [if_neg c8] at h
          exact bX12_holds_84 C hK hN @ih h (lv_sub hl [0, 1, 2, 4] rfl) hP
        · rw [if_pos c8] at h
          refine lv_aload_n hx hb dX12_holds_49 rfl (lv_at hl 0 rfl) ?_
          refine gM0_67 C hK hP w1434 dX12_holds_50 ?_
          refine lv_iload hx hb dX12_holds_53 (lv_at hl 4 rfl) ?_
          obtain ⟨n9, h⟩ := grd h
          refine aM57 (f := mg.2.1) C hK hP rfl n9 dX12_holds_55 ?_
          refine lv_iload_n hx hb dX12_holds_56 rfl (lv_at hl 1 rfl) ?_
          refine lv_icmp_ne (tgt := 88) hx hb dX12_holds_57 (by decide) (fun c10 => ?_) (fun c10 => ?_)
          · rw [if_neg c10] at h
            exact bX12_holds_88 C hK hN @ih h (lv_sub hl [0, 1, 2, 4] rfl) hP
          · rw [if_pos c10] at h
            refine lv_lload_n hx hb dX12_holds_60 rfl (lv_at hl 2 rfl) ?_
            refine lv_aload_n hx hb dX12_holds_61 rfl (lv_at hl 0 rfl) ?_
            refine gM0_68 C hK hP w1435 dX12_holds_62 ?_
            refine lv_iload hx hb dX12_holds_65 (lv_at hl 4 rfl) ?_
            obtain ⟨n11, h⟩ := grd h
            refine aM58 (f := mg.2.2.1) C hK hP rfl n11 dX12_holds_67 ?_
            refine lc_lt (tgt := 88) hx hb dX12_holds_68 dX12_holds_69 (by decide) (fun c12 => ?_) (fun c12 => ?_)
            · rw [if_pos c12] at h
              exact bX12_holds_88 C hK hN @ih h (lv_sub hl [0, 1, 2, 4] rfl) hP
            · rw [if_neg c12] at h
              refine lv_lload_n hx hb dX12_holds_72 rfl (lv_at hl 2 rfl) ?_
              refine lv_aload_n hx hb dX12_holds_73 rfl (lv_at hl 0 rfl) ?_
              refine gM0_69 C hK hP w1436 dX12_holds_74 ?_
              refine lv_iload hx hb dX12_holds_77 (lv_at hl 4 rfl) ?_
              obtain ⟨n13, h⟩ := grd h
              refine aM59 (f := mg.2.2.2) C hK hP rfl n13 dX12_holds_79 ?_
              refine lc_ge (tgt := 88) hx hb dX12_holds_80 dX12_holds_81 (by decide) (fun c14 => ?_) (fun c14 => ?_)
              · rw [if_neg c14] at h
                exact bX12_holds_88 C hK hN @ih h (lv_sub hl [0, 1, 2, 4] rfl) hP
              · rw [if_pos c14] at h
                exact bX12_holds_84 C hK hN @ih h (lv_sub hl [0, 1, 2, 4] rfl) hP
def X12_holds (mo : Tmo) (me : Tme) (mg : Tmg) (v1 : Int32) (v2 : Int64) : Option (Int32) := X12_holds_13 mo me mg FU (v1, v2, (0 : Int32), ((200 : Int32) * mo.1))
set_option maxRecDepth 20000 in
theorem bX12_holds_0 (C : Cx p s m args meth c cX12_holds 6 (some .boolean) RX12 (.code yX12_holds cX12_holds 6 (some .boolean))) (hK : va_K D vwCl (tysX cy) s) (hN : NW s)  {q : Int32}  {v1 : Int32} {v2 : Int64} (h : X12_holds mo me mg v1 v2 = some q) {ls : Array Slot} (hl : lv_has ls 6 [(0, .ref (ad 0)), (1, .int v1), (2, .long v2)]) (hP : va_P D vwCl (GM cy ad mt mc mb mo ms mk my mu ma me mr mp mg mw mf ml mq) s.heap) : W p l e ({ frames := 1, cells := 0, slots := 0, locals := 21 } : Room) s m args below meth c s.heap [] 0 0 (MQ below (QP (some (.int q))) args s 0 0 (fun _ => False)) (F0 m 0 ls []) := by
  obtain ⟨hx, hb, hml, hown, hts, hr, hlk⟩ := id C
  unfold X12_holds at h
  refine lv_iconst (v := (0 : Int32)) hx hb dX12_holds_0 (by decide) ?_
  refine lv_istore (lv' := [(4, .int (0 : Int32)), (0, .ref (ad 0)), (1, .int v1), (2, .long v2)]) hx hb dX12_holds_1 hl (by decide) rfl (fun ls hl => ?_)
  refine lv_sipush (v := (200 : Int32)) hx hb dX12_holds_3 (by decide) ?_
  refine lv_aload_n hx hb dX12_holds_6 rfl (lv_at hl 1 rfl) ?_
  refine gM0_7 (v := mo.1) C hK hP rfl w1374 dX12_holds_7 ?_
  refine lv_imul hx hb dX12_holds_10 ?_
  refine lv_istore (lv' := [(5, .int ((200 : Int32) * mo.1)), (4, .int (0 : Int32)), (0, .ref (ad 0)), (1, .int v1), (2, .long v2)]) hx hb dX12_holds_11 hl (by decide) rfl (fun ls hl => ?_)
  exact bX12_holds_13 C hK hN FU h (lv_sub hl [2, 3, 4, 1, 0] rfl) hP
theorem kX12_holds  {v1 : Int32} {v2 : Int64} {q : Int32} (h : X12_holds mo me mg v1 v2 = some q) : Met l yX12_holds (.code yX12_holds cX12_holds 6 (some .boolean) :: WA) ({ frames := 1, cells := 0, slots := 0, locals := 21 } : Room) (va_Pc [.ref (ad 0), .int v1, .long v2] (PR D cy (GM cy ad mt mc mb mo ms mk my mu ma me mr mp mg mw mf ml mq))) (QP (some (.int q))) 0 0 (fun _ => False) :=
  met_of (by decide) (Nat.le_of_ble_eq_true rfl) (fun p e s m below meth c ls C hP hK hN hl => bX12_holds_0 C hK hN h hl hP)
def X12_row (mo : Tmo) (mw : Tmw) (v1 : Int32) (v2 : Int32) : Option (Int32) := (if v1 < 0 then some (-1 : Int32) else (if inb mo.1 2 = true then (if v1 < (mw.1 (mo.1).toNatClampNeg) then (if v2 = (0 : Int32) then (if inb (((600 : Int32) * mo.1) + v1) 1200 = true then some (mw.2.1 ((((600 : Int32) * mo.1) + v1)).toNatClampNeg) else none) else (if v2 = (1 : Int32) then (if inb (((600 : Int32) * mo.1) + v1) 1200 = true then some (mw.2.2.2.1 ((((600 : Int32) * mo.1) + v1)).toNatClampNeg) else none) else (if v2 = (2 : Int32) then (if inb (((600 : Int32) * mo.1) + v1) 1200 = true then some (mw.2.2.2.2.1 ((((600 : Int32) * mo.1) + v1)).toNatClampNeg) else none) else (if v2 = (3 : Int32) then (if inb (((600 : Int32) * mo.1) + v1) 1200 = true then (if (mw.2.2.2.2.2 ((((600 : Int32) * mo.1) + v1)).toNatClampNeg) = 0 then some (0 : Int32) else some (1 : Int32)) else none) else some (-1 : Int32))))) else some (-1 : Int32)) else none))
set_option maxRecDepth 20000 in
theorem bX12_row_0 (C : Cx p s m args meth c cX12_row 4 (some .int) RX12 (.code yX12_row cX12_row 4 (some .int))) (hK : va_K D vwCl (tysX cy) s) (hN : NW s)  {q : Int32}  {v1 : Int32} {v2 : Int32} (h : X12_row mo mw v1 v2 = some q) {ls : Array Slot} (hl : lv_has ls 4 [(0, .ref (ad 0)), (1, .int v1), (2, .int v2)]) (hP : va_P D vwCl (GM cy ad mt mc mb mo ms mk my mu ma me mr mp mg mw mf ml mq) s.heap) : W p l e ({ frames := 0, cells := 0, slots := 0, locals := 0 } : Room) s m args below meth c s.heap [] 0 0 (MQ below (QP (some (.int q))) args s 0 0 (fun _ => False)) (F0 m 0 ls []) := by
  obtain ⟨hx, hb, hml, hown, hts, hr, hlk⟩ := id C
  unfold X12_row at h
  refine lv_iload_n hx hb dX12_row_0 rfl (lv_at hl 1 rfl) ?_
  refine lv_if_lt (tgt := 17) hx hb dX12_row_1 (by decide) (fun c1 => ?_) (fun c1 => ?_)
  · rw [if_pos c1] at h
    refine lv_iconst (v := (-1 : Int32)) hx hb dX12_row_17 (by decide) ?_
    obtain rfl := Option.some.inj h
    exact W.iret hx hb hr (fun t ht _ => ⟨rfl, ht⟩) (fun _ h9 => by cases h9) dX12_row_18 hlk
  · rw [if_neg c1] at h
    refine lv_iload_n hx hb dX12_row_4 rfl (lv_at hl 1 rfl) ?_
    refine lv_aload_n hx hb dX12_row_5 rfl (lv_at hl 0 rfl) ?_
    refine gM0_15 C hK hP w1382 dX12_row_6 ?_
    refine lv_aload_n hx hb dX12_row_9 rfl (lv_at hl 0 rfl) ?_
    refine gM0_7 (v := mo.1) C hK hP rfl w1374 dX12_row_10 ?_
    obtain ⟨n2, h⟩ := grd h
    refine aM8 (f := mw.1) C hK hP rfl n2 dX12_row_13 ?_
    refine lv_icmp_lt (tgt := 19) hx hb dX12_row_14 (by decide) (fun c3 => ?_) (fun c3 => ?_)
    · rw [if_pos c3] at h
      refine lv_sipush (v := (600 : Int32)) hx hb dX12_row_19 (by decide) ?_
      refine lv_aload_n hx hb dX12_row_22 rfl (lv_at hl 0 rfl) ?_
      refine gM0_7 (v := mo.1) C hK hP rfl w1374 dX12_row_23 ?_
      refine lv_imul hx hb dX12_row_26 ?_
      refine lv_iload_n hx hb dX12_row_27 rfl (lv_at hl 1 rfl) ?_
      refine lv_iadd hx hb dX12_row_28 ?_
      refine lv_istore_n (lv' := [(3, .int (((600 : Int32) * mo.1) + v1)), (0, .ref (ad 0)), (1, .int v1), (2, .int v2)]) hx hb dX12_row_29 rfl hl (by decide) rfl (fun ls hl => ?_)
      refine lv_iload_n hx hb dX12_row_30 rfl (lv_at hl 3 rfl) ?_
      by_cases c4 : v2 = (0 : Int32)
      · rw [if_pos c4] at h
        rw [c4]
        refine lv_tableIn (off := 29) (tgt := 60) hx hb dX12_row_31 (by decide) (by decide) (by decide) (by decide) ?_
        refine lv_aload_n hx hb dX12_row_60 rfl (lv_at hl 1 rfl) ?_
        refine gM0_70 C hK hP w1437 dX12_row_61 ?_
        refine lv_iload_n hx hb dX12_row_64 rfl (lv_at hl 0 rfl) ?_
        obtain ⟨n5, h⟩ := grd h
        refine aM60 (f := mw.2.1) C hK hP rfl n5 dX12_row_65 ?_
        obtain rfl := Option.some.inj h
        exact W.iret hx hb hr (fun t ht _ => ⟨rfl, ht⟩) (fun _ h9 => by cases h9) dX12_row_66 hlk
      rw [if_neg c4] at h
      by_cases c6 : v2 = (1 : Int32)
      · rw [if_pos c6] at h
        rw [c6]
        refine lv_tableIn (off := 36) (tgt := 67) hx hb dX12_row_31 (by decide) (by decide) (by decide) (by decide) ?_
        refine lv_aload_n hx hb dX12_row_67 rfl (lv_at hl 1 rfl) ?_
        refine gM0_72 C hK hP w1439 dX12_row_68 ?_
        refine lv_iload_n hx hb dX12_row_71 rfl (lv_at hl 0 rfl) ?_
        obtain ⟨n7, h⟩ := grd h
        refine aM62 (f := mw.2.2.2.1) C hK hP rfl n7 dX12_row_72 ?_
        obtain rfl := Option.some.inj h
        exact W.iret hx hb hr (fun t ht _ => ⟨rfl, ht⟩) (fun _ h9 => by cases h9) dX12_row_73 hlk
      rw [if_neg c6] at h
      by_cases c8 : v2 = (2 : Int32)
      · rw [if_pos c8] at h
        rw [c8]
        refine lv_tableIn (off := 43) (tgt := 74) hx hb dX12_row_31 (by decide) (by decide) (by decide) (by decide) ?_
        refine lv_aload_n hx hb dX12_row_74 rfl (lv_at hl 1 rfl) ?_
        refine gM0_73 C hK hP w1440 dX12_row_75 ?_
        refine lv_iload_n hx hb dX12_row_78 rfl (lv_at hl 0 rfl) ?_
        obtain ⟨n9, h⟩ := grd h
        refine aM63 (f := mw.2.2.2.2.1) C hK hP rfl n9 dX12_row_79 ?_
        obtain rfl := Option.some.inj h
        exact W.iret hx hb hr (fun t ht _ => ⟨rfl, ht⟩) (fun _ h9 => by cases h9) dX12_row_80 hlk
      rw [if_neg c8] at h
      by_cases c10 : v2 = (3 : Int32)
      · rw [if_pos c10] at h
        rw [c10]
        refine lv_tableIn (off := 50) (tgt := 81) hx hb dX12_row_31 (by decide) (by decide) (by decide) (by decide) ?_
        refine lv_aload_n hx hb dX12_row_81 rfl (lv_at hl 1 rfl) ?_
        refine gM0_74 C hK hP w1441 dX12_row_82 ?_
        refine lv_iload_n hx hb dX12_row_85 rfl (lv_at hl 0 rfl) ?_
        obtain ⟨n11, h⟩ := grd h
        refine aM64 (f := mw.2.2.2.2.2) C hK hP rfl n11 dX12_row_86 ?_
        refine lv_if_eq (tgt := 94) hx hb dX12_row_87 (by decide) (fun c12 => ?_) (fun c12 => ?_)
        · rw [if_pos c12] at h
          refine lv_iconst (v := (0 : Int32)) hx hb dX12_row_94 (by decide) ?_
          obtain rfl := Option.some.inj h
          exact W.iret hx hb hr (fun t ht _ => ⟨rfl, ht⟩) (fun _ h9 => by cases h9) dX12_row_95 hlk
        · rw [if_neg c12] at h
          refine lv_iconst (v := (1 : Int32)) hx hb dX12_row_90 (by decide) ?_
          refine lv_goto (tgt := 95) hx hb dX12_row_91 (by decide) ?_
          obtain rfl := Option.some.inj h
          exact W.iret hx hb hr (fun t ht _ => ⟨rfl, ht⟩) (fun _ h9 => by cases h9) dX12_row_95 hlk
      rw [if_neg c10] at h
      refine tsw_d (tgt := 96) hx hb dX12_row_31 [(0 : Int32), (1 : Int32), (2 : Int32), (3 : Int32)] (by simp only [List.mem_cons, List.not_mem_nil, or_false]; rintro _ (rfl | rfl | rfl | rfl) <;> assumption) (by decide +kernel) (by decide) ?_
      refine lv_iconst (v := (-1 : Int32)) hx hb dX12_row_96 (by decide) ?_
      obtain rfl := Option.some.inj h
      exact W.iret hx hb hr (fun t ht _ => ⟨rfl, ht⟩) (fun _ h9 => by cases h9) dX12_row_97 hlk
    · rw [if_neg c3] at h
      refine lv_iconst (v := (-1 : Int32)) hx hb dX12_row_17 (by decide) ?_
      obtain rfl := Option.some.inj h
      exact W.iret hx hb hr (fun t ht _ => ⟨rfl, ht⟩) (fun _ h9 => by cases h9) dX12_row_18 hlk
theorem kX12_row  {v1 : Int32} {v2 : Int32} {q : Int32} (h : X12_row mo mw v1 v2 = some q) : Met l yX12_row (.code yX12_row cX12_row 4 (some .int) :: WA) ({ frames := 0, cells := 0, slots := 0, locals := 0 } : Room) (va_Pc [.ref (ad 0), .int v1, .int v2] (PR D cy (GM cy ad mt mc mb mo ms mk my mu ma me mr mp mg mw mf ml mq))) (QP (some (.int q))) 0 0 (fun _ => False) :=
  met_of (by decide) (Nat.le_of_ble_eq_true rfl) (fun p e s m below meth c ls C hP hK hN hl => bX12_row_0 C hK hN h hl hP)
def X12_rowAt (mo : Tmo) (mw : Tmw) (v1 : Int32) : Option (Int64) := (if v1 < 0 then some (-1 : Int64) else (if inb mo.1 2 = true then (if v1 < (mw.1 (mo.1).toNatClampNeg) then (if inb (((600 : Int32) * mo.1) + v1) 1200 = true then some (mw.2.2.1 ((((600 : Int32) * mo.1) + v1)).toNatClampNeg) else none) else some (-1 : Int64)) else none))
set_option maxRecDepth 20000 in
theorem bX12_rowAt_0 (C : Cx p s m args meth c cX12_rowAt 2 (some .long) RX12 (.code yX12_rowAt cX12_rowAt 2 (some .long))) (hK : va_K D vwCl (tysX cy) s) (hN : NW s)  {q : Int64}  {v1 : Int32} (h : X12_rowAt mo mw v1 = some q) {ls : Array Slot} (hl : lv_has ls 2 [(0, .ref (ad 0)), (1, .int v1)]) (hP : va_P D vwCl (GM cy ad mt mc mb mo ms mk my mu ma me mr mp mg mw mf ml mq) s.heap) : W p l e ({ frames := 0, cells := 0, slots := 0, locals := 0 } : Room) s m args below meth c s.heap [] 0 0 (MQ below (QP (some (.long q))) args s 0 0 (fun _ => False)) (F0 m 0 ls []) := by
  obtain ⟨hx, hb, hml, hown, hts, hr, hlk⟩ := id C
  unfold X12_rowAt at h
  refine lv_iload_n hx hb dX12_rowAt_0 rfl (lv_at hl 1 rfl) ?_
  refine lv_if_lt (tgt := 35) hx hb dX12_rowAt_1 (by decide) (fun c1 => ?_) (fun c1 => ?_)
  · rw [if_pos c1] at h
    refine lv_ldc2 (v := (-1 : Int64)) hx hb hown (hts _ (List.mem_cons_of_mem _ w1749)) dX12_rowAt_35 ?_
    obtain rfl := Option.some.inj h
    exact W.lret hx hb hr (fun t ht _ => ⟨rfl, ht⟩) (fun _ h9 => by cases h9) dX12_rowAt_38 hlk
  · rw [if_neg c1] at h
    refine lv_iload_n hx hb dX12_rowAt_4 rfl (lv_at hl 1 rfl) ?_
    refine lv_aload_n hx hb dX12_rowAt_5 rfl (lv_at hl 0 rfl) ?_
    refine gM0_15 C hK hP w1382 dX12_rowAt_6 ?_
    refine lv_aload_n hx hb dX12_rowAt_9 rfl (lv_at hl 0 rfl) ?_
    refine gM0_7 (v := mo.1) C hK hP rfl w1374 dX12_rowAt_10 ?_
    obtain ⟨n2, h⟩ := grd h
    refine aM8 (f := mw.1) C hK hP rfl n2 dX12_rowAt_13 ?_
    refine b_icmp_ge (tgt := 35) hx hb dX12_rowAt_14 (by decide) (fun c3 => ?_) (fun c3 => ?_)
    · rw [if_neg c3] at h
      refine lv_ldc2 (v := (-1 : Int64)) hx hb hown (hts _ (List.mem_cons_of_mem _ w1749)) dX12_rowAt_35 ?_
      obtain rfl := Option.some.inj h
      exact W.lret hx hb hr (fun t ht _ => ⟨rfl, ht⟩) (fun _ h9 => by cases h9) dX12_rowAt_38 hlk
    · rw [if_pos c3] at h
      refine lv_aload_n hx hb dX12_rowAt_17 rfl (lv_at hl 0 rfl) ?_
      refine gM0_71 C hK hP w1438 dX12_rowAt_18 ?_
      refine lv_sipush (v := (600 : Int32)) hx hb dX12_rowAt_21 (by decide) ?_
      refine lv_aload_n hx hb dX12_rowAt_24 rfl (lv_at hl 0 rfl) ?_
      refine gM0_7 (v := mo.1) C hK hP rfl w1374 dX12_rowAt_25 ?_
      refine lv_imul hx hb dX12_rowAt_28 ?_
      refine lv_iload_n hx hb dX12_rowAt_29 rfl (lv_at hl 1 rfl) ?_
      refine lv_iadd hx hb dX12_rowAt_30 ?_
      obtain ⟨n4, h⟩ := grd h
      refine aM61 (f := mw.2.2.1) C hK hP rfl n4 dX12_rowAt_31 ?_
      refine lv_goto (tgt := 38) hx hb dX12_rowAt_32 (by decide) ?_
      obtain rfl := Option.some.inj h
      exact W.lret hx hb hr (fun t ht _ => ⟨rfl, ht⟩) (fun _ h9 => by cases h9) dX12_rowAt_38 hlk
theorem kX12_rowAt  {v1 : Int32} {q : Int64} (h : X12_rowAt mo mw v1 = some q) : Met l yX12_rowAt (.code yX12_rowAt cX12_rowAt 2 (some .long) :: WA) ({ frames := 0, cells := 0, slots := 0, locals := 0 } : Room) (va_Pc [.ref (ad 0), .int v1] (PR D cy (GM cy ad mt mc mb mo ms mk my mu ma me mr mp mg mw mf ml mq))) (QP (some (.long q))) 0 0 (fun _ => False) :=
  met_of (by decide) (Nat.le_of_ble_eq_true rfl) (fun p e s m below meth c ls C hP hK hN hl => bX12_rowAt_0 C hK hN h hl hP)
def X12_governs_85 (mo : Tmo) (mw : Tmw) (k10 : Int32 → Int64 → Int32 → Option (Int32))  (v1 : Int32) (v2 : Int64) (v4 : Int32) : Option (Int32) := k10 v1 v2 (v4 + (1 : Int32))
set_option maxRecDepth 20000 in
theorem bX12_governs_85 (C : Cx p s m args meth c cX12_governs 5 (some .int) RX12 (.code yX12_governs cX12_governs 5 (some .int))) (hK : va_K D vwCl (tysX cy) s) (hN : NW s) {k10 : Int32 → Int64 → Int32 → Option (Int32)} {q : Int32} (hk10 : ∀  {v1 : Int32} {v2 : Int64} {v4 : Int32}, k10 v1 v2 v4 = some q → ∀ {ls : Array Slot}, lv_has ls 5 [(0, .ref (ad 0)), (1, .int v1), (2, .long v2), (4, .int v4)] → va_P D vwCl (GM cy ad mt mc mb mo ms mk my mu ma me mr mp mg mw mf ml mq) s.heap → W p l e ({ frames := 0, cells := 0, slots := 0, locals := 0 } : Room) s m args below meth c s.heap [] 0 0 (MQ below (QP (some (.int q))) args s 0 0 (fun _ => False)) (F0 m 10 ls [])) {v1 : Int32} {v2 : Int64} {v4 : Int32} (h : X12_governs_85 mo mw k10 v1 v2 v4 = some q) {ls : Array Slot} (hl : lv_has ls 5 [(0, .ref (ad 0)), (1, .int v1), (2, .long v2), (4, .int v4)]) (hP : va_P D vwCl (GM cy ad mt mc mb mo ms mk my mu ma me mr mp mg mw mf ml mq) s.heap) : W p l e ({ frames := 0, cells := 0, slots := 0, locals := 0 } : Room) s m args below meth c s.heap [] 0 0 (MQ below (QP (some (.int q))) args s 0 0 (fun _ => False)) (F0 m 85 ls []) := by
  obtain ⟨hx, hb, hml, hown, hts, hr, hlk⟩ := id C
  unfold X12_governs_85 at h
  refine lv_iinc (v := (v4 + (1 : Int32))) (lv' := [(4, .int (v4 + (1 : Int32))), (0, .ref (ad 0)), (1, .int v1), (2, .long v2)]) hx hb dX12_governs_85 hl (k := 3) rfl rfl (by decide) rfl (fun ls hl => ?_)
  refine lv_goto (tgt := 10) hx hb dX12_governs_88 (by decide) ?_
  exact hk10 h (lv_sub hl [1, 2, 3, 0] rfl) hP
def X12_governs_10b (mo : Tmo) (mw : Tmw)  (k10 : Int32 → Int64 → Int32 → Option (Int32))  (v1 : Int32) (v2 : Int64) (v4 : Int32) : Option (Int32) := (if inb mo.1 2 = true then (if (v4 + (1 : Int32)) < (((600 : Int32) * mo.1) + (mw.1 (mo.1).toNatClampNeg)) then (if inb v4 1200 = true then (if (mw.2.1 (v4).toNatClampNeg) = v1 then (if inb v4 1200 = true then (if (mw.2.2.2.2.2 (v4).toNatClampNeg) = 0 then (if inb v4 1200 = true then (if v2 < (mw.2.2.1 (v4).toNatClampNeg) then X12_governs_85 mo mw k10 v1 v2 v4 else (if inb (v4 + (1 : Int32)) 1200 = true then (if v2 < (mw.2.2.1 ((v4 + (1 : Int32))).toNatClampNeg) then some v4 else X12_governs_85 mo mw k10 v1 v2 v4) else none)) else none) else X12_governs_85 mo mw k10 v1 v2 v4) else none) else X12_governs_85 mo mw k10 v1 v2 v4) else none) else some (-1 : Int32)) else none)
def X12_governs_10 (mo : Tmo) (mw : Tmw)  (n : Nat) (st : Int32 × Int64 × Int32) : Option (Int32) := lp (fun rec st => X12_governs_10b mo mw  (fun a0 a1 a2 => rec (a0, a1, a2)) st.1 st.2.1 st.2.2) n st
set_option maxRecDepth 20000 in
theorem bX12_governs_10 (C : Cx p s m args meth c cX12_governs 5 (some .int) RX12 (.code yX12_governs cX12_governs 5 (some .int))) (hK : va_K D vwCl (tysX cy) s) (hN : NW s)  {q : Int32}  : ∀ (n : Nat)  {v1 : Int32} {v2 : Int64} {v4 : Int32}, X12_governs_10 mo mw  n (v1, v2, v4) = some q → ∀ {ls : Array Slot}, lv_has ls 5 [(0, .ref (ad 0)), (1, .int v1), (2, .long v2), (4, .int v4)] → va_P D vwCl (GM cy ad mt mc mb mo ms mk my mu ma me mr mp mg mw mf ml mq) s.heap → W p l e ({ frames := 0, cells := 0, slots := 0, locals := 0 } : Room) s m args below meth c s.heap [] 0 0 (MQ below (QP (some (.int q))) args s 0 0 (fun _ => False)) (F0 m 10 ls []) := by
  obtain ⟨hx, hb, hml, hown, hts, hr, hlk⟩ := id C
  intro n
  induction n with
  | zero =>
    intro v1 v2 v4 h ls hl hP
    have h : (none : Option (Int32)) = some q := h
    cases h
  | succ n ih =>
    intro v1 v2 v4 h ls hl hP
    have h : X12_governs_10b mo mw  (fun a0 a1 a2 => X12_governs_10 mo mw  n (a0, a1, a2)) v1 v2 v4 = some q := h
    unfold X12_governs_10b at h
    refine lv_iload hx hb dX12_governs_10 (lv_at hl 3 rfl) ?_
    refine lv_iconst (v := (1 : Int32)) hx hb dX12_governs_12 (by decide) ?_
    refine lv_iadd hx hb dX12_governs_13 ?_
    refine lv_sipush (v := (600 : Int32)) hx hb dX12_governs_14 (by decide) ?_
    refine lv_aload_n hx hb dX12_governs_17 rfl (lv_at hl 0 rfl) ?_
    refine gM0_7 (v := mo.1) C hK hP rfl w1374 dX12_governs_18 ?_
    refine lv_imul hx hb dX12_governs_21 ?_
    refine lv_aload_n hx hb dX12_governs_22 rfl (lv_at hl 0 rfl) ?_
    refine gM0_15 C hK hP w1382 dX12_governs_23 ?_
    refine lv_aload_n hx hb dX12_governs_26 rfl (lv_at hl 0 rfl) ?_
    refine gM0_7 (v := mo.1) C hK hP rfl w1374 dX12_governs_27 ?_
    obtain ⟨n1, h⟩ := grd h
    refine aM8 (f := mw.1) C hK hP rfl n1 dX12_governs_30 ?_
    refine lv_iadd hx hb dX12_governs_31 ?_
    refine b_icmp_ge (tgt := 91) hx hb dX12_governs_32 (by decide) (fun c2 => ?_) (fun c2 => ?_)
    · rw [if_neg c2] at h
      refine lv_iconst (v := (-1 : Int32)) hx hb dX12_governs_91 (by decide) ?_
      obtain rfl := Option.some.inj h
      exact W.iret hx hb hr (fun t ht _ => ⟨rfl, ht⟩) (fun _ h9 => by cases h9) dX12_governs_92 hlk
    · rw [if_pos c2] at h
      refine lv_aload_n hx hb dX12_governs_35 rfl (lv_at hl 0 rfl) ?_
      refine gM0_70 C hK hP w1437 dX12_governs_36 ?_
      refine lv_iload hx hb dX12_governs_39 (lv_at hl 3 rfl) ?_
      obtain ⟨n3, h⟩ := grd h
      refine aM60 (f := mw.2.1) C hK hP rfl n3 dX12_governs_41 ?_
      refine lv_iload_n hx hb dX12_governs_42 rfl (lv_at hl 1 rfl) ?_
      refine lv_icmp_ne (tgt := 85) hx hb dX12_governs_43 (by decide) (fun c4 => ?_) (fun c4 => ?_)
      · rw [if_neg c4] at h
        exact bX12_governs_85 C hK hN @ih h (lv_sub hl [0, 1, 2, 3] rfl) hP
      · rw [if_pos c4] at h
        refine lv_aload_n hx hb dX12_governs_46 rfl (lv_at hl 0 rfl) ?_
        refine gM0_74 C hK hP w1441 dX12_governs_47 ?_
        refine lv_iload hx hb dX12_governs_50 (lv_at hl 3 rfl) ?_
        obtain ⟨n5, h⟩ := grd h
        refine aM64 (f := mw.2.2.2.2.2) C hK hP rfl n5 dX12_governs_52 ?_
        refine lv_if_ne (tgt := 85) hx hb dX12_governs_53 (by decide) (fun c6 => ?_) (fun c6 => ?_)
        · rw [if_neg c6] at h
          exact bX12_governs_85 C hK hN @ih h (lv_sub hl [0, 1, 2, 3] rfl) hP
        · rw [if_pos c6] at h
          refine lv_lload_n hx hb dX12_governs_56 rfl (lv_at hl 2 rfl) ?_
          refine lv_aload_n hx hb dX12_governs_57 rfl (lv_at hl 0 rfl) ?_
          refine gM0_71 C hK hP w1438 dX12_governs_58 ?_
          refine lv_iload hx hb dX12_governs_61 (lv_at hl 3 rfl) ?_
          obtain ⟨n7, h⟩ := grd h
          refine aM61 (f := mw.2.2.1) C hK hP rfl n7 dX12_governs_63 ?_
          refine lc_lt (tgt := 85) hx hb dX12_governs_64 dX12_governs_65 (by decide) (fun c8 => ?_) (fun c8 => ?_)
          · rw [if_pos c8] at h
            exact bX12_governs_85 C hK hN @ih h (lv_sub hl [0, 1, 2, 3] rfl) hP
          · rw [if_neg c8] at h
            refine lv_lload_n hx hb dX12_governs_68 rfl (lv_at hl 2 rfl) ?_
            refine lv_aload_n hx hb dX12_governs_69 rfl (lv_at hl 0 rfl) ?_
            refine gM0_71 C hK hP w1438 dX12_governs_70 ?_
            refine lv_iload hx hb dX12_governs_73 (lv_at hl 3 rfl) ?_
            refine lv_iconst (v := (1 : Int32)) hx hb dX12_governs_75 (by decide) ?_
            refine lv_iadd hx hb dX12_governs_76 ?_
            obtain ⟨n9, h⟩ := grd h
            refine aM61 (f := mw.2.2.1) C hK hP rfl n9 dX12_governs_77 ?_
            refine lc_ge (tgt := 85) hx hb dX12_governs_78 dX12_governs_79 (by decide) (fun c10 => ?_) (fun c10 => ?_)
            · rw [if_neg c10] at h
              exact bX12_governs_85 C hK hN @ih h (lv_sub hl [0, 1, 2, 3] rfl) hP
            · rw [if_pos c10] at h
              refine lv_iload hx hb dX12_governs_82 (lv_at hl 3 rfl) ?_
              obtain rfl := Option.some.inj h
              exact W.iret hx hb hr (fun t ht _ => ⟨rfl, ht⟩) (fun _ h9 => by cases h9) dX12_governs_84 hlk
def X12_governs (mo : Tmo) (mw : Tmw) (v1 : Int32) (v2 : Int64) : Option (Int32) := X12_governs_10 mo mw FU (v1, v2, ((600 : Int32) * mo.1))
set_option maxRecDepth 20000 in
theorem bX12_governs_0 (C : Cx p s m args meth c cX12_governs 5 (some .int) RX12 (.code yX12_governs cX12_governs 5 (some .int))) (hK : va_K D vwCl (tysX cy) s) (hN : NW s)  {q : Int32}  {v1 : Int32} {v2 : Int64} (h : X12_governs mo mw v1 v2 = some q) {ls : Array Slot} (hl : lv_has ls 5 [(0, .ref (ad 0)), (1, .int v1), (2, .long v2)]) (hP : va_P D vwCl (GM cy ad mt mc mb mo ms mk my mu ma me mr mp mg mw mf ml mq) s.heap) : W p l e ({ frames := 0, cells := 0, slots := 0, locals := 0 } : Room) s m args below meth c s.heap [] 0 0 (MQ below (QP (some (.int q))) args s 0 0 (fun _ => False)) (F0 m 0 ls []) := by
  obtain ⟨hx, hb, hml, hown, hts, hr, hlk⟩ := id C
  unfold X12_governs at h
  refine lv_sipush (v := (600 : Int32)) hx hb dX12_governs_0 (by decide) ?_
  refine lv_aload_n hx hb dX12_governs_3 rfl (lv_at hl 0 rfl) ?_
  refine gM0_7 (v := mo.1) C hK hP rfl w1374 dX12_governs_4 ?_
  refine lv_imul hx hb dX12_governs_7 ?_
  refine lv_istore (lv' := [(4, .int ((600 : Int32) * mo.1)), (0, .ref (ad 0)), (1, .int v1), (2, .long v2)]) hx hb dX12_governs_8 hl (by decide) rfl (fun ls hl => ?_)
  exact bX12_governs_10 C hK hN FU h (lv_sub hl [1, 2, 3, 0] rfl) hP
theorem kX12_governs  {v1 : Int32} {v2 : Int64} {q : Int32} (h : X12_governs mo mw v1 v2 = some q) : Met l yX12_governs (.code yX12_governs cX12_governs 5 (some .int) :: WA) ({ frames := 0, cells := 0, slots := 0, locals := 0 } : Room) (va_Pc [.ref (ad 0), .int v1, .long v2] (PR D cy (GM cy ad mt mc mb mo ms mk my mu ma me mr mp mg mw mf ml mq))) (QP (some (.int q))) 0 0 (fun _ => False) :=
  met_of (by decide) (Nat.le_of_ble_eq_true rfl) (fun p e s m below meth c ls C hP hK hN hl => bX12_governs_0 C hK hN h hl hP)
def X12_holder_121 (mo : Tmo) (me : Tme) (mg : Tmg) (k3 : Int32 → Int64 → Int32 → Option (Int32))  (v1 : Int32) (v2 : Int64) (v4 : Int32) : Option (Int32) := k3 v1 v2 (v4 + (1 : Int32))
set_option maxRecDepth 20000 in
theorem bX12_holder_121 (C : Cx p s m args meth c cX12_holder 7 (some .int) RX12 (.code yX12_holder cX12_holder 7 (some .int))) (hK : va_K D vwCl (tysX cy) s) (hN : NW s) {k3 : Int32 → Int64 → Int32 → Option (Int32)} {q : Int32} (hk3 : ∀  {v1 : Int32} {v2 : Int64} {v4 : Int32}, k3 v1 v2 v4 = some q → ∀ {ls : Array Slot}, lv_has ls 7 [(0, .ref (ad 0)), (1, .int v1), (2, .long v2), (4, .int v4)] → va_P D vwCl (GM cy ad mt mc mb mo ms mk my mu ma me mr mp mg mw mf ml mq) s.heap → W p l e ({ frames := 2, cells := 0, slots := 0, locals := 46 } : Room) s m args below meth c s.heap [] 0 0 (MQ below (QP (some (.int q))) args s 0 0 (fun _ => False)) (F0 m 3 ls [])) {v1 : Int32} {v2 : Int64} {v4 : Int32} (h : X12_holder_121 mo me mg k3 v1 v2 v4 = some q) {ls : Array Slot} (hl : lv_has ls 7 [(0, .ref (ad 0)), (1, .int v1), (2, .long v2), (4, .int v4)]) (hP : va_P D vwCl (GM cy ad mt mc mb mo ms mk my mu ma me mr mp mg mw mf ml mq) s.heap) : W p l e ({ frames := 2, cells := 0, slots := 0, locals := 46 } : Room) s m args below meth c s.heap [] 0 0 (MQ below (QP (some (.int q))) args s 0 0 (fun _ => False)) (F0 m 121 ls []) := by
  obtain ⟨hx, hb, hml, hown, hts, hr, hlk⟩ := id C
  unfold X12_holder_121 at h
  refine lv_iinc (v := (v4 + (1 : Int32))) (lv' := [(4, .int (v4 + (1 : Int32))), (0, .ref (ad 0)), (1, .int v1), (2, .long v2)]) hx hb dX12_holder_121 hl (k := 3) rfl rfl (by decide) rfl (fun ls hl => ?_)
  refine lv_goto (tgt := 3) hx hb dX12_holder_124 (by decide) ?_
  exact hk3 h (lv_sub hl [1, 2, 3, 0] rfl) hP
def X12_holder_101 (mo : Tmo) (me : Tme) (mg : Tmg) (k3 : Int32 → Int64 → Int32 → Option (Int32))  (v1 : Int32) (v2 : Int64) (v4 : Int32) (z0 : Int32) : Option (Int32) := (if z0 = 0 then X12_holder_121 mo me mg k3 v1 v2 v4 else ((X12_holds mo me mg v4 v2).bind fun q2 => (if q2 = 0 then X12_holder_121 mo me mg k3 v1 v2 v4 else some v4)))
set_option maxRecDepth 20000 in
theorem bX12_holder_101 (C : Cx p s m args meth c cX12_holder 7 (some .int) RX12 (.code yX12_holder cX12_holder 7 (some .int))) (hK : va_K D vwCl (tysX cy) s) (hN : NW s) {k3 : Int32 → Int64 → Int32 → Option (Int32)} {q : Int32} (hk3 : ∀  {v1 : Int32} {v2 : Int64} {v4 : Int32}, k3 v1 v2 v4 = some q → ∀ {ls : Array Slot}, lv_has ls 7 [(0, .ref (ad 0)), (1, .int v1), (2, .long v2), (4, .int v4)] → va_P D vwCl (GM cy ad mt mc mb mo ms mk my mu ma me mr mp mg mw mf ml mq) s.heap → W p l e ({ frames := 2, cells := 0, slots := 0, locals := 46 } : Room) s m args below meth c s.heap [] 0 0 (MQ below (QP (some (.int q))) args s 0 0 (fun _ => False)) (F0 m 3 ls [])) {v1 : Int32} {v2 : Int64} {v4 : Int32} {z0 : Int32} (h : X12_holder_101 mo me mg k3 v1 v2 v4 z0 = some q) {ls : Array Slot} (hl : lv_has ls 7 [(0, .ref (ad 0)), (1, .int v1), (2, .long v2), (4, .int v4)]) (hP : va_P D vwCl (GM cy ad mt mc mb mo ms mk my mu ma me mr mp mg mw mf ml mq) s.heap) : W p l e ({ frames := 2, cells := 0, slots := 0, locals := 46 } : Room) s m args below meth c s.heap [] 0 0 (MQ below (QP (some (.int q))) args s 0 0 (fun _ => False)) (F0 m 101 ls [.int z0]) := by
  obtain ⟨hx, hb, hml, hown, hts, hr, hlk⟩ := id C
  unfold X12_holder_101 at h
  refine lv_istore (lv' := [(6, .int z0), (0, .ref (ad 0)), (1, .int v1), (2, .long v2), (4, .int v4)]) hx hb dX12_holder_101 hl (by decide) rfl (fun ls hl => ?_)
  refine lv_iload hx hb dX12_holder_103 (lv_at hl 0 rfl) ?_
  refine lv_if_eq (tgt := 121) hx hb dX12_holder_105 (by decide) (fun c1 => ?_) (fun c1 => ?_)
  · rw [if_pos c1] at h
    exact bX12_holder_121 C hK hN @hk3 h (lv_sub hl [1, 2, 3, 4] rfl) hP
  · rw [if_neg c1] at h
    refine lv_aload_n hx hb dX12_holder_108 rfl (lv_at hl 1 rfl) ?_
    refine lv_iload hx hb dX12_holder_109 (lv_at hl 4 rfl) ?_
    refine lv_lload_n hx hb dX12_holder_111 rfl (lv_at hl 3 rfl) ?_
    obtain ⟨q2, h3, h⟩ := bnd h
    refine cPi (run_V (rest := []) C (kX12_holds h3) caX12_holds w1925 ⟨rfl, rfl, Nat.le_of_ble_eq_true rfl, Nat.le_of_ble_eq_true rfl⟩ hK hN hP (rM0 hK hP) rfl hl.1 rfl (Nat.le_of_ble_eq_true rfl) dX12_holder_112 ⟨Nat.zero_le _, Nat.zero_le _⟩) ?_
    refine lv_if_eq (tgt := 121) hx hb dX12_holder_115 (by decide) (fun c4 => ?_) (fun c4 => ?_)
    · rw [if_pos c4] at h
      exact bX12_holder_121 C hK hN @hk3 h (lv_sub hl [1, 2, 3, 4] rfl) hP
    · rw [if_neg c4] at h
      refine lv_iload hx hb dX12_holder_118 (lv_at hl 4 rfl) ?_
      obtain rfl := Option.some.inj h
      exact W.iret hx hb hr (fun t ht _ => ⟨rfl, ht⟩) (fun _ h9 => by cases h9) dX12_holder_120 hlk
def X12_holder_96 (mo : Tmo) (me : Tme) (mg : Tmg) (k3 : Int32 → Int64 → Int32 → Option (Int32))  (v1 : Int32) (v2 : Int64) (v4 : Int32) : Option (Int32) := X12_holder_101 mo me mg k3 v1 v2 v4 (1 : Int32)
set_option maxRecDepth 20000 in
theorem bX12_holder_96 (C : Cx p s m args meth c cX12_holder 7 (some .int) RX12 (.code yX12_holder cX12_holder 7 (some .int))) (hK : va_K D vwCl (tysX cy) s) (hN : NW s) {k3 : Int32 → Int64 → Int32 → Option (Int32)} {q : Int32} (hk3 : ∀  {v1 : Int32} {v2 : Int64} {v4 : Int32}, k3 v1 v2 v4 = some q → ∀ {ls : Array Slot}, lv_has ls 7 [(0, .ref (ad 0)), (1, .int v1), (2, .long v2), (4, .int v4)] → va_P D vwCl (GM cy ad mt mc mb mo ms mk my mu ma me mr mp mg mw mf ml mq) s.heap → W p l e ({ frames := 2, cells := 0, slots := 0, locals := 46 } : Room) s m args below meth c s.heap [] 0 0 (MQ below (QP (some (.int q))) args s 0 0 (fun _ => False)) (F0 m 3 ls [])) {v1 : Int32} {v2 : Int64} {v4 : Int32} (h : X12_holder_96 mo me mg k3 v1 v2 v4 = some q) {ls : Array Slot} (hl : lv_has ls 7 [(0, .ref (ad 0)), (1, .int v1), (2, .long v2), (4, .int v4)]) (hP : va_P D vwCl (GM cy ad mt mc mb mo ms mk my mu ma me mr mp mg mw mf ml mq) s.heap) : W p l e ({ frames := 2, cells := 0, slots := 0, locals := 46 } : Room) s m args below meth c s.heap [] 0 0 (MQ below (QP (some (.int q))) args s 0 0 (fun _ => False)) (F0 m 96 ls []) := by
  obtain ⟨hx, hb, hml, hown, hts, hr, hlk⟩ := id C
  unfold X12_holder_96 at h
  refine lv_iconst (v := (1 : Int32)) hx hb dX12_holder_96 (by decide) ?_
  refine lv_goto (tgt := 101) hx hb dX12_holder_97 (by decide) ?_
  exact bX12_holder_101 C hK hN @hk3 h (lv_sub hl [0, 1, 2, 3] rfl) hP
def X12_holder_100 (mo : Tmo) (me : Tme) (mg : Tmg) (k3 : Int32 → Int64 → Int32 → Option (Int32))  (v1 : Int32) (v2 : Int64) (v4 : Int32) : Option (Int32) := X12_holder_101 mo me mg k3 v1 v2 v4 (0 : Int32)
set_option maxRecDepth 20000 in
theorem bX12_holder_100 (C : Cx p s m args meth c cX12_holder 7 (some .int) RX12 (.code yX12_holder cX12_holder 7 (some .int))) (hK : va_K D vwCl (tysX cy) s) (hN : NW s) {k3 : Int32 → Int64 → Int32 → Option (Int32)} {q : Int32} (hk3 : ∀  {v1 : Int32} {v2 : Int64} {v4 : Int32}, k3 v1 v2 v4 = some q → ∀ {ls : Array Slot}, lv_has ls 7 [(0, .ref (ad 0)), (1, .int v1), (2, .long v2), (4, .int v4)] → va_P D vwCl (GM cy ad mt mc mb mo ms mk my mu ma me mr mp mg mw mf ml mq) s.heap → W p l e ({ frames := 2, cells := 0, slots := 0, locals := 46 } : Room) s m args below meth c s.heap [] 0 0 (MQ below (QP (some (.int q))) args s 0 0 (fun _ => False)) (F0 m 3 ls [])) {v1 : Int32} {v2 : Int64} {v4 : Int32} (h : X12_holder_100 mo me mg k3 v1 v2 v4 = some q) {ls : Array Slot} (hl : lv_has ls 7 [(0, .ref (ad 0)), (1, .int v1), (2, .long v2), (4, .int v4)]) (hP : va_P D vwCl (GM cy ad mt mc mb mo ms mk my mu ma me mr mp mg mw mf ml mq) s.heap) : W p l e ({ frames := 2, cells := 0, slots := 0, locals := 46 } : Room) s m args below meth c s.heap [] 0 0 (MQ below (QP (some (.int q))) args s 0 0 (fun _ => False)) (F0 m 100 ls []) := by
  obtain ⟨hx, hb, hml, hown, hts, hr, hlk⟩ := id C
  unfold X12_holder_100 at h
  refine lv_iconst (v := (0 : Int32)) hx hb dX12_holder_100 (by decide) ?_
  exact bX12_holder_101 C hK hN @hk3 h (lv_sub hl [0, 1, 2, 3] rfl) hP
def X12_holder_3b (mo : Tmo) (me : Tme) (mg : Tmg)  (k3 : Int32 → Int64 → Int32 → Option (Int32))  (v1 : Int32) (v2 : Int64) (v4 : Int32) : Option (Int32) := (if inb mo.1 2 = true then (if v4 < (me.1 (mo.1).toNatClampNeg) then (if v1 = (-1 : Int32) then (if inb (((400 : Int32) * mo.1) + v4) 800 = true then (if (me.2.1 ((((400 : Int32) * mo.1) + v4)).toNatClampNeg) = (46 : Int64) then X12_holder_101 mo me mg k3 v1 v2 v4 (1 : Int32) else X12_holder_101 mo me mg k3 v1 v2 v4 (0 : Int32)) else none) else (if inb (((400 : Int32) * mo.1) + v4) 800 = true then (if (me.2.2.1 ((((400 : Int32) * mo.1) + v4)).toNatClampNeg) = v1 then (if inb (((400 : Int32) * mo.1) + v4) 800 = true then (if (me.2.1 ((((400 : Int32) * mo.1) + v4)).toNatClampNeg) = (11 : Int64) then X12_holder_96 mo me mg k3 v1 v2 v4 else (if inb (((400 : Int32) * mo.1) + v4) 800 = true then (if (me.2.1 ((((400 : Int32) * mo.1) + v4)).toNatClampNeg) = (29 : Int64) then X12_holder_96 mo me mg k3 v1 v2 v4 else X12_holder_100 mo me mg k3 v1 v2 v4) else none)) else none) else X12_holder_100 mo me mg k3 v1 v2 v4) else none)) else some (-1 : Int32)) else none)
def X12_holder_3 (mo : Tmo) (me : Tme) (mg : Tmg)  (n : Nat) (st : Int32 × Int64 × Int32) : Option (Int32) := lp (fun rec st => X12_holder_3b mo me mg  (fun a0 a1 a2 => rec (a0, a1, a2)) st.1 st.2.1 st.2.2) n st
set_option maxRecDepth 20000 in
theorem bX12_holder_3 (C : Cx p s m args meth c cX12_holder 7 (some .int) RX12 (.code yX12_holder cX12_holder 7 (some .int))) (hK : va_K D vwCl (tysX cy) s) (hN : NW s)  {q : Int32}  : ∀ (n : Nat)  {v1 : Int32} {v2 : Int64} {v4 : Int32}, X12_holder_3 mo me mg  n (v1, v2, v4) = some q → ∀ {ls : Array Slot}, lv_has ls 7 [(0, .ref (ad 0)), (1, .int v1), (2, .long v2), (4, .int v4)] → va_P D vwCl (GM cy ad mt mc mb mo ms mk my mu ma me mr mp mg mw mf ml mq) s.heap → W p l e ({ frames := 2, cells := 0, slots := 0, locals := 46 } : Room) s m args below meth c s.heap [] 0 0 (MQ below (QP (some (.int q))) args s 0 0 (fun _ => False)) (F0 m 3 ls []) := by
  obtain ⟨hx, hb, hml, hown, hts, hr, hlk⟩ := id C
  intro n
  induction n with
  | zero =>
    intro v1 v2 v4 h ls hl hP
    have h : (none : Option (Int32)) = some q := h
    cases h
  | succ n ih =>
    intro v1 v2 v4 h ls hl hP
    have h : X12_holder_3b mo me mg  (fun a0 a1 a2 => X12_holder_3 mo me mg  n (a0, a1, a2)) v1 v2 v4 = some q := h
    unfold X12_holder_3b at h
    refine lv_iload hx hb dX12_holder_3 (lv_at hl 3 rfl) ?_
    refine lv_aload_n hx hb dX12_holder_5 rfl (lv_at hl 0 rfl) ?_
    refine gM0_13 C hK hP w1380 dX12_holder_6 ?_
    refine lv_aload_n hx hb dX12_holder_9 rfl (lv_at hl 0 rfl) ?_
    refine gM0_7 (v := mo.1) C hK hP rfl w1374 dX12_holder_10 ?_
    obtain ⟨n1, h⟩ := grd h
    refine aM6 (f := me.1) C hK hP rfl n1 dX12_holder_13 ?_
    refine b_icmp_ge (tgt := 127) hx hb dX12_holder_14 (by decide) (fun c2 => ?_) (fun c2 => ?_)
    · rw [if_neg c2] at h
      refine lv_iconst (v := (-1 : Int32)) hx hb dX12_holder_127 (by decide) ?_
      obtain rfl := Option.some.inj h
      exact W.iret hx hb hr (fun t ht _ => ⟨rfl, ht⟩) (fun _ h9 => by cases h9) dX12_holder_128 hlk
    · rw [if_pos c2] at h
      refine lv_sipush (v := (400 : Int32)) hx hb dX12_holder_17 (by decide) ?_
      refine lv_aload_n hx hb dX12_holder_20 rfl (lv_at hl 0 rfl) ?_
      refine gM0_7 (v := mo.1) C hK hP rfl w1374 dX12_holder_21 ?_
      refine lv_imul hx hb dX12_holder_24 ?_
      refine lv_iload hx hb dX12_holder_25 (lv_at hl 3 rfl) ?_
      refine lv_iadd hx hb dX12_holder_27 ?_
      refine lv_istore (lv' := [(5, .int (((400 : Int32) * mo.1) + v4)), (0, .ref (ad 0)), (1, .int v1), (2, .long v2), (4, .int v4)]) hx hb dX12_holder_28 hl (by decide) rfl (fun ls hl => ?_)
      refine lv_iload_n hx hb dX12_holder_30 rfl (lv_at hl 2 rfl) ?_
      refine lv_iconst (v := (-1 : Int32)) hx hb dX12_holder_31 (by decide) ?_
      refine lv_icmp_ne (tgt := 57) hx hb dX12_holder_32 (by decide) (fun c3 => ?_) (fun c3 => ?_)
      · rw [if_neg c3] at h
        refine lv_aload_n hx hb dX12_holder_57 rfl (lv_at hl 1 rfl) ?_
        refine gM0_43 C hK hP w1410 dX12_holder_58 ?_
        refine lv_iload hx hb dX12_holder_61 (lv_at hl 0 rfl) ?_
        obtain ⟨n4, h⟩ := grd h
        refine aM35 (f := me.2.2.1) C hK hP rfl n4 dX12_holder_63 ?_
        refine lv_iload_n hx hb dX12_holder_64 rfl (lv_at hl 2 rfl) ?_
        refine lv_icmp_ne (tgt := 100) hx hb dX12_holder_65 (by decide) (fun c5 => ?_) (fun c5 => ?_)
        · rw [if_neg c5] at h
          exact bX12_holder_100 C hK hN @ih h (lv_sub hl [1, 2, 3, 4] rfl) hP
        · rw [if_pos c5] at h
          refine lv_aload_n hx hb dX12_holder_68 rfl (lv_at hl 1 rfl) ?_
          refine gM0_42 C hK hP w1409 dX12_holder_69 ?_
          refine lv_iload hx hb dX12_holder_72 (lv_at hl 0 rfl) ?_
          obtain ⟨n6, h⟩ := grd h
          refine aM34 (f := me.2.1) C hK hP rfl n6 dX12_holder_74 ?_
          refine lv_ldc2 (v := (11 : Int64)) hx hb hown (hts _ (List.mem_cons_of_mem _ w1757)) dX12_holder_75 ?_
          refine lc_eq (tgt := 96) hx hb dX12_holder_78 dX12_holder_79 (by decide) (fun c7 => ?_) (fun c7 => ?_)
          · rw [if_pos c7] at h
            exact bX12_holder_96 C hK hN @ih h (lv_sub hl [1, 2, 3, 4] rfl) hP
          · rw [if_neg c7] at h
            refine lv_aload_n hx hb dX12_holder_82 rfl (lv_at hl 1 rfl) ?_
            refine gM0_42 C hK hP w1409 dX12_holder_83 ?_
            refine lv_iload hx hb dX12_holder_86 (lv_at hl 0 rfl) ?_
            obtain ⟨n8, h⟩ := grd h
            refine aM34 (f := me.2.1) C hK hP rfl n8 dX12_holder_88 ?_
            refine lv_ldc2 (v := (29 : Int64)) hx hb hown (hts _ (List.mem_cons_of_mem _ w1924)) dX12_holder_89 ?_
            refine lc_ne (tgt := 100) hx hb dX12_holder_92 dX12_holder_93 (by decide) (fun c9 => ?_) (fun c9 => ?_)
            · rw [if_neg c9] at h
              exact bX12_holder_100 C hK hN @ih h (lv_sub hl [1, 2, 3, 4] rfl) hP
            · rw [if_pos c9] at h
              exact bX12_holder_96 C hK hN @ih h (lv_sub hl [1, 2, 3, 4] rfl) hP
      · rw [if_pos c3] at h
        refine lv_aload_n hx hb dX12_holder_35 rfl (lv_at hl 1 rfl) ?_
        refine gM0_42 C hK hP w1409 dX12_holder_36 ?_
        refine lv_iload hx hb dX12_holder_39 (lv_at hl 0 rfl) ?_
        obtain ⟨n10, h⟩ := grd h
        refine aM34 (f := me.2.1) C hK hP rfl n10 dX12_holder_41 ?_
        refine lv_ldc2 (v := (46 : Int64)) hx hb hown (hts _ (List.mem_cons_of_mem _ w1923)) dX12_holder_42 ?_
        refine lc_ne (tgt := 53) hx hb dX12_holder_45 dX12_holder_46 (by decide) (fun c11 => ?_) (fun c11 => ?_)
        · rw [if_neg c11] at h
          refine lv_iconst (v := (0 : Int32)) hx hb dX12_holder_53 (by decide) ?_
          refine lv_goto (tgt := 101) hx hb dX12_holder_54 (by decide) ?_
          exact bX12_holder_101 C hK hN @ih h (lv_sub hl [1, 2, 3, 4] rfl) hP
        · rw [if_pos c11] at h
          refine lv_iconst (v := (1 : Int32)) hx hb dX12_holder_49 (by decide) ?_
          refine lv_goto (tgt := 101) hx hb dX12_holder_50 (by decide) ?_
          exact bX12_holder_101 C hK hN @ih h (lv_sub hl [1, 2, 3, 4] rfl) hP
def X12_holder (mo : Tmo) (me : Tme) (mg : Tmg) (v1 : Int32) (v2 : Int64) : Option (Int32) := X12_holder_3 mo me mg FU (v1, v2, (0 : Int32))
set_option maxRecDepth 20000 in
theorem bX12_holder_0 (C : Cx p s m args meth c cX12_holder 7 (some .int) RX12 (.code yX12_holder cX12_holder 7 (some .int))) (hK : va_K D vwCl (tysX cy) s) (hN : NW s)  {q : Int32}  {v1 : Int32} {v2 : Int64} (h : X12_holder mo me mg v1 v2 = some q) {ls : Array Slot} (hl : lv_has ls 7 [(0, .ref (ad 0)), (1, .int v1), (2, .long v2)]) (hP : va_P D vwCl (GM cy ad mt mc mb mo ms mk my mu ma me mr mp mg mw mf ml mq) s.heap) : W p l e ({ frames := 2, cells := 0, slots := 0, locals := 46 } : Room) s m args below meth c s.heap [] 0 0 (MQ below (QP (some (.int q))) args s 0 0 (fun _ => False)) (F0 m 0 ls []) := by
  obtain ⟨hx, hb, hml, hown, hts, hr, hlk⟩ := id C
  unfold X12_holder at h
  refine lv_iconst (v := (0 : Int32)) hx hb dX12_holder_0 (by decide) ?_
  refine lv_istore (lv' := [(4, .int (0 : Int32)), (0, .ref (ad 0)), (1, .int v1), (2, .long v2)]) hx hb dX12_holder_1 hl (by decide) rfl (fun ls hl => ?_)
  exact bX12_holder_3 C hK hN FU h (lv_sub hl [1, 2, 3, 0] rfl) hP
theorem kX12_holder  {v1 : Int32} {v2 : Int64} {q : Int32} (h : X12_holder mo me mg v1 v2 = some q) : Met l yX12_holder (.code yX12_holder cX12_holder 7 (some .int) :: WA) ({ frames := 2, cells := 0, slots := 0, locals := 46 } : Room) (va_Pc [.ref (ad 0), .int v1, .long v2] (PR D cy (GM cy ad mt mc mb mo ms mk my mu ma me mr mp mg mw mf ml mq))) (QP (some (.int q))) 0 0 (fun _ => False) :=
  met_of (by decide) (Nat.le_of_ble_eq_true rfl) (fun p e s m below meth c ls C hP hK hN hl => bX12_holder_0 C hK hN h hl hP)
def X12_symbolOf_119 (mo : Tmo) (my : Tmy) (k2 : Tmq → Int64 → Int32 → Option (Tmq)) (mq : Tmq) (v1 : Int64) (v3 : Int32) : Option (Tmq) := k2 mq v1 (v3 + (1 : Int32))
set_option maxRecDepth 20000 in
theorem bX12_symbolOf_119 (C : Cx p s m args meth c cX12_symbolOf 5 none RX12 (.code yX12_symbolOf cX12_symbolOf 5 none)) (hI : Apart ad 71) (hK : va_K D vwCl (tysX cy) s) (hN : NW s) {k2 : Tmq → Int64 → Int32 → Option (Tmq)} {q : Tmq} (hk2 : ∀ {mq : Tmq} {v1 : Int64} {v3 : Int32}, k2 mq v1 v3 = some q → ∀ {ls : Array Slot}, lv_has ls 5 [(0, .ref (ad 0)), (1, .long v1), (3, .int v3)] → ∀ {H : Heap} {locs : List Loc}, va_P D vwCl (GM cy ad mt mc mb mo ms mk my mu ma me mr mp mg mw mf ml mq) H → va_S (Ac ad 71) s.heap H locs → W p l e ({ frames := 0, cells := 0, slots := 0, locals := 0 } : Room) s m args below meth c H locs 0 0 (MQ below (QR none D (GM cy ad mt mc mb mo ms mk my mu ma me mr mp mg mw mf ml q) (Ac ad 71)) args s 0 0 (Ac ad 71)) (F0 m 2 ls [])) {v1 : Int64} {v3 : Int32} (h : X12_symbolOf_119 mo my k2 mq v1 v3 = some q) {ls : Array Slot} (hl : lv_has ls 5 [(0, .ref (ad 0)), (1, .long v1), (3, .int v3)]) {H : Heap} {locs : List Loc} (hP : va_P D vwCl (GM cy ad mt mc mb mo ms mk my mu ma me mr mp mg mw mf ml mq) H) (hS : va_S (Ac ad 71) s.heap H locs) : W p l e ({ frames := 0, cells := 0, slots := 0, locals := 0 } : Room) s m args below meth c H locs 0 0 (MQ below (QR none D (GM cy ad mt mc mb mo ms mk my mu ma me mr mp mg mw mf ml q) (Ac ad 71)) args s 0 0 (Ac ad 71)) (F0 m 119 ls []) := by
  obtain ⟨hx, hb, hml, hown, hts, hr, hlk⟩ := id C
  unfold X12_symbolOf_119 at h
  refine lv_iinc (v := (v3 + (1 : Int32))) (lv' := [(3, .int (v3 + (1 : Int32))), (0, .ref (ad 0)), (1, .long v1)]) hx hb dX12_symbolOf_119 hl (k := 2) rfl rfl (by decide) rfl (fun ls hl => ?_)
  refine lv_goto (tgt := 2) hx hb dX12_symbolOf_122 (by decide) ?_
  exact hk2 h (lv_sub hl [1, 2, 0] rfl) hP hS
def X12_symbolOf_100 (mo : Tmo) (my : Tmy) (k2 : Tmq → Int64 → Int32 → Option (Tmq)) (mq : Tmq) (v1 : Int64) (v3 : Int32) (v4 : Int32) : Option (Tmq) := (if inb v4 200 = true then X12_symbolOf_119 mo my k2 (mq.1, mq.2.1, mq.2.2.1, mq.2.2.2.1, v3, (((v1 - (my.2.1 (v4).toNatClampNeg))).toInt32)) v1 v3 else none)
set_option maxRecDepth 20000 in
theorem bX12_symbolOf_100 (C : Cx p s m args meth c cX12_symbolOf 5 none RX12 (.code yX12_symbolOf cX12_symbolOf 5 none)) (hI : Apart ad 71) (hK : va_K D vwCl (tysX cy) s) (hN : NW s) {k2 : Tmq → Int64 → Int32 → Option (Tmq)} {q : Tmq} (hk2 : ∀ {mq : Tmq} {v1 : Int64} {v3 : Int32}, k2 mq v1 v3 = some q → ∀ {ls : Array Slot}, lv_has ls 5 [(0, .ref (ad 0)), (1, .long v1), (3, .int v3)] → ∀ {H : Heap} {locs : List Loc}, va_P D vwCl (GM cy ad mt mc mb mo ms mk my mu ma me mr mp mg mw mf ml mq) H → va_S (Ac ad 71) s.heap H locs → W p l e ({ frames := 0, cells := 0, slots := 0, locals := 0 } : Room) s m args below meth c H locs 0 0 (MQ below (QR none D (GM cy ad mt mc mb mo ms mk my mu ma me mr mp mg mw mf ml q) (Ac ad 71)) args s 0 0 (Ac ad 71)) (F0 m 2 ls [])) {v1 : Int64} {v3 : Int32} {v4 : Int32} (h : X12_symbolOf_100 mo my k2 mq v1 v3 v4 = some q) {ls : Array Slot} (hl : lv_has ls 5 [(0, .ref (ad 0)), (1, .long v1), (3, .int v3), (4, .int v4)]) {H : Heap} {locs : List Loc} (hP : va_P D vwCl (GM cy ad mt mc mb mo ms mk my mu ma me mr mp mg mw mf ml mq) H) (hS : va_S (Ac ad 71) s.heap H locs) : W p l e ({ frames := 0, cells := 0, slots := 0, locals := 0 } : Room) s m args below meth c H locs 0 0 (MQ below (QR none D (GM cy ad mt mc mb mo ms mk my mu ma me mr mp mg mw mf ml q) (Ac ad 71)) args s 0 0 (Ac ad 71)) (F0 m 100 ls []) := by
  obtain ⟨hx, hb, hml, hown, hts, hr, hlk⟩ := id C
  unfold X12_symbolOf_100 at h
  refine lv_aload_n hx hb dX12_symbolOf_100 rfl (lv_at hl 0 rfl) ?_
  refine lv_iload_n hx hb dX12_symbolOf_101 rfl (lv_at hl 2 rfl) ?_
  refine pM0_93 (v := v3) C hI hK hP hS w1460 dX12_symbolOf_102 (fun H locs hP hS => ?_)
  have hP : va_P D vwCl (GM cy ad mt mc mb mo ms mk my mu ma me mr mp mg mw mf ml (mq.1, mq.2.1, mq.2.2.1, mq.2.2.2.1, v3, mq.2.2.2.2.2)) H := hP
  refine lv_aload_n hx hb dX12_symbolOf_105 rfl (lv_at hl 0 rfl) ?_
  refine lv_lload_n hx hb dX12_symbolOf_106 rfl (lv_at hl 1 rfl) ?_
  refine lv_aload_n hx hb dX12_symbolOf_107 rfl (lv_at hl 0 rfl) ?_
  refine gM0_24 C hK hP w1391 dX12_symbolOf_108 ?_
  refine lv_iload hx hb dX12_symbolOf_111 (lv_at hl 3 rfl) ?_
  obtain ⟨n1, h⟩ := grd h
  refine aM17 (f := my.2.1) C hK hP rfl n1 dX12_symbolOf_113 ?_
  refine lv_lsub hx hb dX12_symbolOf_114 ?_
  refine lv_l2i (v := (((v1 - (my.2.1 (v4).toNatClampNeg))).toInt32)) hx hb dX12_symbolOf_115 rfl ?_
  refine pM0_94 (v := (((v1 - (my.2.1 (v4).toNatClampNeg))).toInt32)) C hI hK hP hS w1461 dX12_symbolOf_116 (fun H locs hP hS => ?_)
  have hP : va_P D vwCl (GM cy ad mt mc mb mo ms mk my mu ma me mr mp mg mw mf ml (mq.1, mq.2.1, mq.2.2.1, mq.2.2.2.1, v3, (((v1 - (my.2.1 (v4).toNatClampNeg))).toInt32))) H := hP
  exact bX12_symbolOf_119 C hI hK hN @hk2 h (lv_sub hl [0, 1, 2] rfl) hP hS
def X12_symbolOf_2b (mo : Tmo) (my : Tmy)  (k2 : Tmq → Int64 → Int32 → Option (Tmq)) (mq : Tmq) (v1 : Int64) (v3 : Int32) : Option (Tmq) := (if inb mo.1 2 = true then (if v3 < (my.1 (mo.1).toNatClampNeg) then (if inb (((100 : Int32) * mo.1) + v3) 200 = true then (if v1 < (my.2.1 ((((100 : Int32) * mo.1) + v3)).toNatClampNeg) then X12_symbolOf_119 mo my k2 mq v1 v3 else (if inb (((100 : Int32) * mo.1) + v3) 200 = true then (if inb (((100 : Int32) * mo.1) + v3) 200 = true then (if (v1 - (my.2.1 ((((100 : Int32) * mo.1) + v3)).toNatClampNeg)) < (my.2.2.1 ((((100 : Int32) * mo.1) + v3)).toNatClampNeg) then (if mq.2.2.2.2.1 = (-1 : Int32) then X12_symbolOf_100 mo my k2 mq v1 v3 (((100 : Int32) * mo.1) + v3) else (if inb (((100 : Int32) * mo.1) + v3) 200 = true then (if inb (((100 : Int32) * mo.1) + mq.2.2.2.2.1) 200 = true then (if (my.2.1 ((((100 : Int32) * mo.1) + mq.2.2.2.2.1)).toNatClampNeg) < (my.2.1 ((((100 : Int32) * mo.1) + v3)).toNatClampNeg) then X12_symbolOf_100 mo my k2 mq v1 v3 (((100 : Int32) * mo.1) + v3) else X12_symbolOf_119 mo my k2 mq v1 v3) else none) else none)) else X12_symbolOf_119 mo my k2 mq v1 v3) else none) else none)) else none) else some mq) else none)
def X12_symbolOf_2 (mo : Tmo) (my : Tmy)  (n : Nat) (st : Tmq × Int64 × Int32) : Option (Tmq) := lp (fun rec st => X12_symbolOf_2b mo my  (fun a0 a1 a2 => rec (a0, a1, a2)) st.1 st.2.1 st.2.2) n st
set_option maxRecDepth 20000 in
theorem bX12_symbolOf_2 (C : Cx p s m args meth c cX12_symbolOf 5 none RX12 (.code yX12_symbolOf cX12_symbolOf 5 none)) (hI : Apart ad 71) (hK : va_K D vwCl (tysX cy) s) (hN : NW s)  {q : Tmq}  : ∀ (n : Nat) {mq : Tmq} {v1 : Int64} {v3 : Int32}, X12_symbolOf_2 mo my  n (mq, v1, v3) = some q → ∀ {ls : Array Slot}, lv_has ls 5 [(0, .ref (ad 0)), (1, .long v1), (3, .int v3)] → ∀ {H : Heap} {locs : List Loc}, va_P D vwCl (GM cy ad mt mc mb mo ms mk my mu ma me mr mp mg mw mf ml mq) H → va_S (Ac ad 71) s.heap H locs → W p l e ({ frames := 0, cells := 0, slots := 0, locals := 0 } : Room) s m args below meth c H locs 0 0 (MQ below (QR none D (GM cy ad mt mc mb mo ms mk my mu ma me mr mp mg mw mf ml q) (Ac ad 71)) args s 0 0 (Ac ad 71)) (F0 m 2 ls []) := by
  obtain ⟨hx, hb, hml, hown, hts, hr, hlk⟩ := id C
  intro n
  induction n with
  | zero =>
    intro mq v1 v3 h ls hl H locs hP hS
    have h : (none : Option (Tmq)) = some q := h
    cases h
  | succ n ih =>
    intro mq v1 v3 h ls hl H locs hP hS
    have h : X12_symbolOf_2b mo my  (fun a0 a1 a2 => X12_symbolOf_2 mo my  n (a0, a1, a2)) mq v1 v3 = some q := h
    unfold X12_symbolOf_2b at h
    refine lv_iload_n hx hb dX12_symbolOf_2 rfl (lv_at hl 2 rfl) ?_
    refine lv_aload_n hx hb dX12_symbolOf_3 rfl (lv_at hl 0 rfl) ?_
    refine gM0_11 C hK hP w1378 dX12_symbolOf_4 ?_
    refine lv_aload_n hx hb dX12_symbolOf_7 rfl (lv_at hl 0 rfl) ?_
    refine gM0_7 (v := mo.1) C hK hP rfl w1374 dX12_symbolOf_8 ?_
    obtain ⟨n1, h⟩ := grd h
    refine aM4 (f := my.1) C hK hP rfl n1 dX12_symbolOf_11 ?_
    refine b_icmp_ge (tgt := 125) hx hb dX12_symbolOf_12 (by decide) (fun c2 => ?_) (fun c2 => ?_)
    · rw [if_neg c2] at h
      obtain rfl := Option.some.inj h
      exact W.vret hx hb hr (fun t ht _ => ⟨rfl, by rw [ht]; exact hP, hS.F ht⟩) hS.2.2 dX12_symbolOf_125 hlk
    · rw [if_pos c2] at h
      refine lv_bipush (v := (100 : Int32)) hx hb dX12_symbolOf_15 (by decide) ?_
      refine lv_aload_n hx hb dX12_symbolOf_17 rfl (lv_at hl 0 rfl) ?_
      refine gM0_7 (v := mo.1) C hK hP rfl w1374 dX12_symbolOf_18 ?_
      refine lv_imul hx hb dX12_symbolOf_21 ?_
      refine lv_iload_n hx hb dX12_symbolOf_22 rfl (lv_at hl 2 rfl) ?_
      refine lv_iadd hx hb dX12_symbolOf_23 ?_
      refine lv_istore (lv' := [(4, .int (((100 : Int32) * mo.1) + v3)), (0, .ref (ad 0)), (1, .long v1), (3, .int v3)]) hx hb dX12_symbolOf_24 hl (by decide) rfl (fun ls hl => ?_)
      refine lv_lload_n hx hb dX12_symbolOf_26 rfl (lv_at hl 2 rfl) ?_
      refine lv_aload_n hx hb dX12_symbolOf_27 rfl (lv_at hl 1 rfl) ?_
      refine gM0_24 C hK hP w1391 dX12_symbolOf_28 ?_
      refine lv_iload hx hb dX12_symbolOf_31 (lv_at hl 0 rfl) ?_
      obtain ⟨n3, h⟩ := grd h
      refine aM17 (f := my.2.1) C hK hP rfl n3 dX12_symbolOf_33 ?_
      refine lc_lt (tgt := 119) hx hb dX12_symbolOf_34 dX12_symbolOf_35 (by decide) (fun c4 => ?_) (fun c4 => ?_)
      · rw [if_pos c4] at h
        exact bX12_symbolOf_119 C hI hK hN @ih h (lv_sub hl [1, 2, 3] rfl) hP hS
      · rw [if_neg c4] at h
        refine lv_lload_n hx hb dX12_symbolOf_38 rfl (lv_at hl 2 rfl) ?_
        refine lv_aload_n hx hb dX12_symbolOf_39 rfl (lv_at hl 1 rfl) ?_
        refine gM0_24 C hK hP w1391 dX12_symbolOf_40 ?_
        refine lv_iload hx hb dX12_symbolOf_43 (lv_at hl 0 rfl) ?_
        obtain ⟨n5, h⟩ := grd h
        refine aM17 (f := my.2.1) C hK hP rfl n5 dX12_symbolOf_45 ?_
        refine lv_lsub hx hb dX12_symbolOf_46 ?_
        refine lv_aload_n hx hb dX12_symbolOf_47 rfl (lv_at hl 1 rfl) ?_
        refine gM0_25 C hK hP w1392 dX12_symbolOf_48 ?_
        refine lv_iload hx hb dX12_symbolOf_51 (lv_at hl 0 rfl) ?_
        obtain ⟨n6, h⟩ := grd h
        refine aM18 (f := my.2.2.1) C hK hP rfl n6 dX12_symbolOf_53 ?_
        refine lc_lt (tgt := 61) hx hb dX12_symbolOf_54 dX12_symbolOf_55 (by decide) (fun c7 => ?_) (fun c7 => ?_)
        · rw [if_pos c7] at h
          refine lv_aload_n hx hb dX12_symbolOf_61 rfl (lv_at hl 1 rfl) ?_
          refine gM0_93 (v := mq.2.2.2.2.1) C hK hP rfl w1460 dX12_symbolOf_62 ?_
          refine lv_iconst (v := (-1 : Int32)) hx hb dX12_symbolOf_65 (by decide) ?_
          refine lv_icmp_eq (tgt := 100) hx hb dX12_symbolOf_66 (by decide) (fun c8 => ?_) (fun c8 => ?_)
          · rw [if_pos c8] at h
            exact bX12_symbolOf_100 C hI hK hN @ih h (lv_sub hl [1, 2, 3, 0] rfl) hP hS
          · rw [if_neg c8] at h
            refine lv_aload_n hx hb dX12_symbolOf_69 rfl (lv_at hl 1 rfl) ?_
            refine gM0_24 C hK hP w1391 dX12_symbolOf_70 ?_
            refine lv_iload hx hb dX12_symbolOf_73 (lv_at hl 0 rfl) ?_
            obtain ⟨n9, h⟩ := grd h
            refine aM17 (f := my.2.1) C hK hP rfl n9 dX12_symbolOf_75 ?_
            refine lv_aload_n hx hb dX12_symbolOf_76 rfl (lv_at hl 1 rfl) ?_
            refine gM0_24 C hK hP w1391 dX12_symbolOf_77 ?_
            refine lv_bipush (v := (100 : Int32)) hx hb dX12_symbolOf_80 (by decide) ?_
            refine lv_aload_n hx hb dX12_symbolOf_82 rfl (lv_at hl 1 rfl) ?_
            refine gM0_7 (v := mo.1) C hK hP rfl w1374 dX12_symbolOf_83 ?_
            refine lv_imul hx hb dX12_symbolOf_86 ?_
            refine lv_aload_n hx hb dX12_symbolOf_87 rfl (lv_at hl 1 rfl) ?_
            refine gM0_93 (v := mq.2.2.2.2.1) C hK hP rfl w1460 dX12_symbolOf_88 ?_
            refine lv_iadd hx hb dX12_symbolOf_91 ?_
            obtain ⟨n10, h⟩ := grd h
            refine aM17 (f := my.2.1) C hK hP rfl n10 dX12_symbolOf_92 ?_
            refine lc_gt (tgt := 100) hx hb dX12_symbolOf_93 dX12_symbolOf_94 (by decide) (fun c11 => ?_) (fun c11 => ?_)
            · rw [if_pos c11] at h
              exact bX12_symbolOf_100 C hI hK hN @ih h (lv_sub hl [1, 2, 3, 0] rfl) hP hS
            · rw [if_neg c11] at h
              refine lv_goto (tgt := 119) hx hb dX12_symbolOf_97 (by decide) ?_
              exact bX12_symbolOf_119 C hI hK hN @ih h (lv_sub hl [1, 2, 3] rfl) hP hS
        · rw [if_neg c7] at h
          refine lv_goto (tgt := 119) hx hb dX12_symbolOf_58 (by decide) ?_
          exact bX12_symbolOf_119 C hI hK hN @ih h (lv_sub hl [1, 2, 3] rfl) hP hS
def X12_symbolOf (mo : Tmo) (my : Tmy) (mq : Tmq) (v1 : Int64) : Option (Tmq) := X12_symbolOf_2 mo my FU (mq, v1, (0 : Int32))
set_option maxRecDepth 20000 in
theorem bX12_symbolOf_0 (C : Cx p s m args meth c cX12_symbolOf 5 none RX12 (.code yX12_symbolOf cX12_symbolOf 5 none)) (hI : Apart ad 71) (hK : va_K D vwCl (tysX cy) s) (hN : NW s)  {q : Tmq}  {v1 : Int64} (h : X12_symbolOf mo my mq v1 = some q) {ls : Array Slot} (hl : lv_has ls 5 [(0, .ref (ad 0)), (1, .long v1)]) {H : Heap} {locs : List Loc} (hP : va_P D vwCl (GM cy ad mt mc mb mo ms mk my mu ma me mr mp mg mw mf ml mq) H) (hS : va_S (Ac ad 71) s.heap H locs) : W p l e ({ frames := 0, cells := 0, slots := 0, locals := 0 } : Room) s m args below meth c H locs 0 0 (MQ below (QR none D (GM cy ad mt mc mb mo ms mk my mu ma me mr mp mg mw mf ml q) (Ac ad 71)) args s 0 0 (Ac ad 71)) (F0 m 0 ls []) := by
  obtain ⟨hx, hb, hml, hown, hts, hr, hlk⟩ := id C
  unfold X12_symbolOf at h
  refine lv_iconst (v := (0 : Int32)) hx hb dX12_symbolOf_0 (by decide) ?_
  refine lv_istore_n (lv' := [(3, .int (0 : Int32)), (0, .ref (ad 0)), (1, .long v1)]) hx hb dX12_symbolOf_1 rfl hl (by decide) rfl (fun ls hl => ?_)
  exact bX12_symbolOf_2 C hI hK hN FU h (lv_sub hl [1, 2, 0] rfl) hP hS
theorem kX12_symbolOf (hI : Apart ad 71) {v1 : Int64} {q : Tmq} (h : X12_symbolOf mo my mq v1 = some q) : Met l yX12_symbolOf (.code yX12_symbolOf cX12_symbolOf 5 none :: WA) ({ frames := 0, cells := 0, slots := 0, locals := 0 } : Room) (va_Pc [.ref (ad 0), .long v1] (PR D cy (GM cy ad mt mc mb mo ms mk my mu ma me mr mp mg mw mf ml mq))) (QR none D (GM cy ad mt mc mb mo ms mk my mu ma me mr mp mg mw mf ml q) (Ac ad 71)) 0 0 (Ac ad 71) :=
  met_of (by decide) (Nat.le_of_ble_eq_true rfl) (fun p e s m below meth c ls C hP hK hN hl => bX12_symbolOf_0 C hI hK hN h hl hP va_S.rf)
def X12_find_94 (mo : Tmo) (my : Tmy) (me : Tme) (mg : Tmg) (mw : Tmw) (k17 : Tmq → Int64 → Int32 → Option (Int32 × Tmq)) (mq : Tmq) (v1 : Int64) (v3 : Int32) : Option (Int32 × Tmq) := ((X12_holder mo me mg v3 v1).bind fun q1 => k17 mq v1 q1)
set_option maxRecDepth 20000 in
theorem bX12_find_94 (C : Cx p s m args meth c cX12_find 7 (some .int) RX12 (.code yX12_find cX12_find 7 (some .int))) (hI : Apart ad 71) (hK : va_K D vwCl (tysX cy) s) (hN : NW s) {k17 : Tmq → Int64 → Int32 → Option (Int32 × Tmq)} {q : Int32 × Tmq} (hk17 : ∀ {mq : Tmq} {v1 : Int64} {v3 : Int32}, k17 mq v1 v3 = some q → ∀ {ls : Array Slot}, lv_has ls 7 [(0, .ref (ad 0)), (1, .long v1), (3, .int v3)] → ∀ {H : Heap} {locs : List Loc}, va_P D vwCl (GM cy ad mt mc mb mo ms mk my mu ma me mr mp mg mw mf ml mq) H → va_S (Ac ad 71) s.heap H locs → W p l e ({ frames := 3, cells := 0, slots := 0, locals := 72 } : Room) s m args below meth c H locs 0 0 (MQ below (QR (some (.int q.1)) D (GM cy ad mt mc mb mo ms mk my mu ma me mr mp mg mw mf ml q.2) (Ac ad 71)) args s 0 0 (Ac ad 71)) (F0 m 17 ls [])) {v1 : Int64} {v3 : Int32} (h : X12_find_94 mo my me mg mw k17 mq v1 v3 = some q) {ls : Array Slot} (hl : lv_has ls 7 [(0, .ref (ad 0)), (1, .long v1), (3, .int v3)]) {H : Heap} {locs : List Loc} (hP : va_P D vwCl (GM cy ad mt mc mb mo ms mk my mu ma me mr mp mg mw mf ml mq) H) (hS : va_S (Ac ad 71) s.heap H locs) : W p l e ({ frames := 3, cells := 0, slots := 0, locals := 72 } : Room) s m args below meth c H locs 0 0 (MQ below (QR (some (.int q.1)) D (GM cy ad mt mc mb mo ms mk my mu ma me mr mp mg mw mf ml q.2) (Ac ad 71)) args s 0 0 (Ac ad 71)) (F0 m 94 ls []) := by
  obtain ⟨hx, hb, hml, hown, hts, hr, hlk⟩ := id C
  unfold X12_find_94 at h
  refine lv_aload_n hx hb dX12_find_94 rfl (lv_at hl 0 rfl) ?_
  refine lv_iload_n hx hb dX12_find_95 rfl (lv_at hl 2 rfl) ?_
  refine lv_lload_n hx hb dX12_find_96 rfl (lv_at hl 1 rfl) ?_
  obtain ⟨q1, h2, h⟩ := bnd h
  refine cPi (run_V (rest := []) C (kX12_holder h2) caX12_holder w1919 ⟨rfl, rfl, Nat.le_of_ble_eq_true rfl, Nat.le_of_ble_eq_true rfl⟩ hK hN hP (rM0 hK hP) rfl hl.1 rfl (Nat.le_of_ble_eq_true rfl) dX12_find_97 ⟨Nat.zero_le _, Nat.zero_le _⟩) ?_
  refine lv_istore_n (lv' := [(3, .int q1), (0, .ref (ad 0)), (1, .long v1)]) hx hb dX12_find_100 rfl hl (by decide) rfl (fun ls hl => ?_)
  refine lv_goto (tgt := 17) hx hb dX12_find_101 (by decide) ?_
  exact hk17 h (lv_sub hl [1, 2, 0] rfl) hP hS
def X12_find_50b (mo : Tmo) (my : Tmy) (me : Tme) (mg : Tmg) (mw : Tmw) (k17 : Tmq → Int64 → Int32 → Option (Int32 × Tmq)) (k50 : Tmq → Int64 → Int32 → Int32 → Option (Int32 × Tmq)) (mq : Tmq) (v1 : Int64) (v3 : Int32) (v4 : Int32) : Option (Int32 × Tmq) := (if 0 < v4 then (if inb (v4 - (1 : Int32)) 24 = true then (if inb v4 24 = true then k50 (mq.1, (upd mq.2.1 (v4).toNatClampNeg (mq.2.1 ((v4 - (1 : Int32))).toNatClampNeg)), mq.2.2.1, mq.2.2.2.1, mq.2.2.2.2.1, mq.2.2.2.2.2) v1 v3 (v4 + (-1 : Int32)) else none) else none) else (if inb (0 : Int32) 24 = true then X12_find_94 mo my me mg mw k17 ((mq.1 + (1 : Int32)), (upd mq.2.1 ((0 : Int32)).toNatClampNeg v3), mq.2.2.1, mq.2.2.2.1, mq.2.2.2.2.1, mq.2.2.2.2.2) v1 v3 else none))
def X12_find_50 (mo : Tmo) (my : Tmy) (me : Tme) (mg : Tmg) (mw : Tmw) (k17 : Tmq → Int64 → Int32 → Option (Int32 × Tmq)) (n : Nat) (st : Tmq × Int64 × Int32 × Int32) : Option (Int32 × Tmq) := lp (fun rec st => X12_find_50b mo my me mg mw k17 (fun a0 a1 a2 a3 => rec (a0, a1, a2, a3)) st.1 st.2.1 st.2.2.1 st.2.2.2) n st
set_option maxRecDepth 20000 in
theorem bX12_find_50 (C : Cx p s m args meth c cX12_find 7 (some .int) RX12 (.code yX12_find cX12_find 7 (some .int))) (hI : Apart ad 71) (hK : va_K D vwCl (tysX cy) s) (hN : NW s) {k17 : Tmq → Int64 → Int32 → Option (Int32 × Tmq)} {q : Int32 × Tmq} (hk17 : ∀ {mq : Tmq} {v1 : Int64} {v3 : Int32}, k17 mq v1 v3 = some q → ∀ {ls : Array Slot}, lv_has ls 7 [(0, .ref (ad 0)), (1, .long v1), (3, .int v3)] → ∀ {H : Heap} {locs : List Loc}, va_P D vwCl (GM cy ad mt mc mb mo ms mk my mu ma me mr mp mg mw mf ml mq) H → va_S (Ac ad 71) s.heap H locs → W p l e ({ frames := 3, cells := 0, slots := 0, locals := 72 } : Room) s m args below meth c H locs 0 0 (MQ below (QR (some (.int q.1)) D (GM cy ad mt mc mb mo ms mk my mu ma me mr mp mg mw mf ml q.2) (Ac ad 71)) args s 0 0 (Ac ad 71)) (F0 m 17 ls [])) : ∀ (n : Nat) {mq : Tmq} {v1 : Int64} {v3 : Int32} {v4 : Int32}, X12_find_50 mo my me mg mw k17 n (mq, v1, v3, v4) = some q → ∀ {ls : Array Slot}, lv_has ls 7 [(0, .ref (ad 0)), (1, .long v1), (3, .int v3), (4, .int v4)] → ∀ {H : Heap} {locs : List Loc}, va_P D vwCl (GM cy ad mt mc mb mo ms mk my mu ma me mr mp mg mw mf ml mq) H → va_S (Ac ad 71) s.heap H locs → W p l e ({ frames := 3, cells := 0, slots := 0, locals := 72 } : Room) s m args below meth c H locs 0 0 (MQ below (QR (some (.int q.1)) D (GM cy ad mt mc mb mo ms mk my mu ma me mr mp mg mw mf ml q.2) (Ac ad 71)) args s 0 0 (Ac ad 71)) (F0 m 50 ls []) := by
  obtain ⟨hx, hb, hml, hown, hts, hr, hlk⟩ := id C
  intro n
  induction n with
  | zero =>
    intro mq v1 v3 v4 h ls hl H locs hP hS
    have h : (none : Option (Int32 × Tmq)) = some q := h
    cases h
  | succ n ih =>
    intro mq v1 v3 v4 h ls hl H locs hP hS
    have h : X12_find_50b mo my me mg mw k17 (fun a0 a1 a2 a3 => X12_find_50 mo my me mg mw k17 n (a0, a1, a2, a3)) mq v1 v3 v4 = some q := h
    unfold X12_find_50b at h
    refine lv_iload hx hb dX12_find_50 (lv_at hl 3 rfl) ?_
    refine b_if_le (tgt := 77) hx hb dX12_find_52 (by decide) (fun c1 => ?_) (fun c1 => ?_)
    · rw [if_neg c1] at h
      refine lv_aload_n hx hb dX12_find_77 rfl (lv_at hl 0 rfl) ?_
      refine gM0_90 C hK hP w1457 dX12_find_78 ?_
      refine lv_iconst (v := (0 : Int32)) hx hb dX12_find_81 (by decide) ?_
      refine lv_iload_n hx hb dX12_find_82 rfl (lv_at hl 2 rfl) ?_
      obtain ⟨n2, h⟩ := grd h
      refine sM68 (f := mq.2.1) C hI hK hP hS rfl n2 dX12_find_83 (fun H locs hP hS => ?_)
      have hP : va_P D vwCl (GM cy ad mt mc mb mo ms mk my mu ma me mr mp mg mw mf ml (mq.1, (upd mq.2.1 ((0 : Int32)).toNatClampNeg v3), mq.2.2.1, mq.2.2.2.1, mq.2.2.2.2.1, mq.2.2.2.2.2)) H := hP
      refine lv_aload_n hx hb dX12_find_84 rfl (lv_at hl 0 rfl) ?_
      refine lv_dup hx hb dX12_find_85 rfl ?_
      refine gM0_89 (v := mq.1) C hK hP rfl w1456 dX12_find_86 ?_
      refine lv_iconst (v := (1 : Int32)) hx hb dX12_find_89 (by decide) ?_
      refine lv_iadd hx hb dX12_find_90 ?_
      refine pM0_89 (v := (mq.1 + (1 : Int32))) C hI hK hP hS w1456 dX12_find_91 (fun H locs hP hS => ?_)
      have hP : va_P D vwCl (GM cy ad mt mc mb mo ms mk my mu ma me mr mp mg mw mf ml ((mq.1 + (1 : Int32)), (upd mq.2.1 ((0 : Int32)).toNatClampNeg v3), mq.2.2.1, mq.2.2.2.1, mq.2.2.2.2.1, mq.2.2.2.2.2)) H := hP
      exact bX12_find_94 C hI hK hN @hk17 h (lv_sub hl [0, 1, 2] rfl) hP hS
    · rw [if_pos c1] at h
      refine lv_aload_n hx hb dX12_find_55 rfl (lv_at hl 0 rfl) ?_
      refine gM0_90 C hK hP w1457 dX12_find_56 ?_
      refine lv_iload hx hb dX12_find_59 (lv_at hl 3 rfl) ?_
      refine lv_aload_n hx hb dX12_find_61 rfl (lv_at hl 0 rfl) ?_
      refine gM0_90 C hK hP w1457 dX12_find_62 ?_
      refine lv_iload hx hb dX12_find_65 (lv_at hl 3 rfl) ?_
      refine lv_iconst (v := (1 : Int32)) hx hb dX12_find_67 (by decide) ?_
      refine lv_isub hx hb dX12_find_68 ?_
      obtain ⟨n3, h⟩ := grd h
      refine aM68 (f := mq.2.1) C hK hP rfl n3 dX12_find_69 ?_
      obtain ⟨n4, h⟩ := grd h
      refine sM68 (f := mq.2.1) C hI hK hP hS rfl n4 dX12_find_70 (fun H locs hP hS => ?_)
      have hP : va_P D vwCl (GM cy ad mt mc mb mo ms mk my mu ma me mr mp mg mw mf ml (mq.1, (upd mq.2.1 (v4).toNatClampNeg (mq.2.1 ((v4 - (1 : Int32))).toNatClampNeg)), mq.2.2.1, mq.2.2.2.1, mq.2.2.2.2.1, mq.2.2.2.2.2)) H := hP
      refine lv_iinc (v := (v4 + (-1 : Int32))) (lv' := [(4, .int (v4 + (-1 : Int32))), (0, .ref (ad 0)), (1, .long v1), (3, .int v3)]) hx hb dX12_find_71 hl (k := 3) rfl rfl (by decide) rfl (fun ls hl => ?_)
      refine lv_goto (tgt := 50) hx hb dX12_find_74 (by decide) ?_
      exact ih h (lv_sub hl [1, 2, 3, 0] rfl) hP hS
def X12_find_286 (mo : Tmo) (my : Tmy) (me : Tme) (mg : Tmg) (mw : Tmw) (k107 : Tmq → Int64 → Int32 → Option (Int32 × Tmq)) (mq : Tmq) (v1 : Int64) (v4 : Int32) (z0 : Int32) (z1 : Int32) : Option (Int32 × Tmq) := (if inb z1 24 = true then k107 (mq.1, mq.2.1, mq.2.2.1, (upd mq.2.2.2.1 (z1).toNatClampNeg z0), mq.2.2.2.2.1, mq.2.2.2.2.2) v1 (v4 + (1 : Int32)) else none)
set_option maxRecDepth 20000 in
theorem bX12_find_286 (C : Cx p s m args meth c cX12_find 7 (some .int) RX12 (.code yX12_find cX12_find 7 (some .int))) (hI : Apart ad 71) (hK : va_K D vwCl (tysX cy) s) (hN : NW s) {k107 : Tmq → Int64 → Int32 → Option (Int32 × Tmq)} {q : Int32 × Tmq} (hk107 : ∀ {mq : Tmq} {v1 : Int64} {v4 : Int32}, k107 mq v1 v4 = some q → ∀ {ls : Array Slot}, lv_has ls 7 [(0, .ref (ad 0)), (1, .long v1), (4, .int v4)] → ∀ {H : Heap} {locs : List Loc}, va_P D vwCl (GM cy ad mt mc mb mo ms mk my mu ma me mr mp mg mw mf ml mq) H → va_S (Ac ad 71) s.heap H locs → W p l e ({ frames := 3, cells := 0, slots := 0, locals := 72 } : Room) s m args below meth c H locs 0 0 (MQ below (QR (some (.int q.1)) D (GM cy ad mt mc mb mo ms mk my mu ma me mr mp mg mw mf ml q.2) (Ac ad 71)) args s 0 0 (Ac ad 71)) (F0 m 107 ls [])) {v1 : Int64} {v4 : Int32} {z0 : Int32} {z1 : Int32} (h : X12_find_286 mo my me mg mw k107 mq v1 v4 z0 z1 = some q) {ls : Array Slot} (hl : lv_has ls 7 [(0, .ref (ad 0)), (1, .long v1), (4, .int v4)]) {H : Heap} {locs : List Loc} (hP : va_P D vwCl (GM cy ad mt mc mb mo ms mk my mu ma me mr mp mg mw mf ml mq) H) (hS : va_S (Ac ad 71) s.heap H locs) : W p l e ({ frames := 3, cells := 0, slots := 0, locals := 72 } : Room) s m args below meth c H locs 0 0 (MQ below (QR (some (.int q.1)) D (GM cy ad mt mc mb mo ms mk my mu ma me mr mp mg mw mf ml q.2) (Ac ad 71)) args s 0 0 (Ac ad 71)) (F0 m 286 ls [.int z0, .int z1, .ref (ad 70)]) := by
  obtain ⟨hx, hb, hml, hown, hts, hr, hlk⟩ := id C
  unfold X12_find_286 at h
  obtain ⟨n1, h⟩ := grd h
  refine sM70 (f := mq.2.2.2.1) C hI hK hP hS rfl n1 dX12_find_286 (fun H locs hP hS => ?_)
  have hP : va_P D vwCl (GM cy ad mt mc mb mo ms mk my mu ma me mr mp mg mw mf ml (mq.1, mq.2.1, mq.2.2.1, (upd mq.2.2.2.1 (z1).toNatClampNeg z0), mq.2.2.2.2.1, mq.2.2.2.2.2)) H := hP
  refine lv_iinc (v := (v4 + (1 : Int32))) (lv' := [(4, .int (v4 + (1 : Int32))), (0, .ref (ad 0)), (1, .long v1)]) hx hb dX12_find_287 hl (k := 2) rfl rfl (by decide) rfl (fun ls hl => ?_)
  refine lv_goto (tgt := 107) hx hb dX12_find_290 (by decide) ?_
  exact hk107 h (lv_sub hl [1, 2, 0] rfl) hP hS
def X12_find_233 (mo : Tmo) (my : Tmy) (me : Tme) (mg : Tmg) (mw : Tmw) (k107 : Tmq → Int64 → Int32 → Option (Int32 × Tmq)) (mq : Tmq) (v1 : Int64) (v4 : Int32) (v5 : Int32) (v6 : Int32) (z0 : Int32) (z1 : Int32) : Option (Int32 × Tmq) := (if inb z1 24 = true then (if 0 < v4 then (if inb v5 800 = true then (if (me.2.2.2.2.2.2.2.2.2.2.2.1 (v5).toNatClampNeg) = 0 then X12_find_286 mo my me mg mw k107 (mq.1, mq.2.1, (upd mq.2.2.1 (z1).toNatClampNeg z0), mq.2.2.2.1, mq.2.2.2.2.1, mq.2.2.2.2.2) v1 v4 (0 : Int32) v4 else (if inb v5 800 = true then X12_find_286 mo my me mg mw k107 (mq.1, mq.2.1, (upd mq.2.2.1 (z1).toNatClampNeg z0), mq.2.2.2.1, mq.2.2.2.2.1, mq.2.2.2.2.2) v1 v4 (me.2.2.2.2.2.2.2.2.2.1 (v5).toNatClampNeg) v4 else none)) else none) else (if v6 = (-1 : Int32) then X12_find_286 mo my me mg mw k107 (mq.1, mq.2.1, (upd mq.2.2.1 (z1).toNatClampNeg z0), mq.2.2.2.1, mq.2.2.2.2.1, mq.2.2.2.2.2) v1 v4 (0 : Int32) v4 else (if inb v6 1200 = true then X12_find_286 mo my me mg mw k107 (mq.1, mq.2.1, (upd mq.2.2.1 (z1).toNatClampNeg z0), mq.2.2.2.1, mq.2.2.2.2.1, mq.2.2.2.2.2) v1 v4 (mw.2.2.2.2.1 (v6).toNatClampNeg) v4 else none))) else none)
set_option maxRecDepth 20000 in
theorem bX12_find_233 (C : Cx p s m args meth c cX12_find 7 (some .int) RX12 (.code yX12_find cX12_find 7 (some .int))) (hI : Apart ad 71) (hK : va_K D vwCl (tysX cy) s) (hN : NW s) {k107 : Tmq → Int64 → Int32 → Option (Int32 × Tmq)} {q : Int32 × Tmq} (hk107 : ∀ {mq : Tmq} {v1 : Int64} {v4 : Int32}, k107 mq v1 v4 = some q → ∀ {ls : Array Slot}, lv_has ls 7 [(0, .ref (ad 0)), (1, .long v1), (4, .int v4)] → ∀ {H : Heap} {locs : List Loc}, va_P D vwCl (GM cy ad mt mc mb mo ms mk my mu ma me mr mp mg mw mf ml mq) H → va_S (Ac ad 71) s.heap H locs → W p l e ({ frames := 3, cells := 0, slots := 0, locals := 72 } : Room) s m args below meth c H locs 0 0 (MQ below (QR (some (.int q.1)) D (GM cy ad mt mc mb mo ms mk my mu ma me mr mp mg mw mf ml q.2) (Ac ad 71)) args s 0 0 (Ac ad 71)) (F0 m 107 ls [])) {v1 : Int64} {v4 : Int32} {v5 : Int32} {v6 : Int32} {z0 : Int32} {z1 : Int32} (h : X12_find_233 mo my me mg mw k107 mq v1 v4 v5 v6 z0 z1 = some q) {ls : Array Slot} (hl : lv_has ls 7 [(0, .ref (ad 0)), (1, .long v1), (4, .int v4), (5, .int v5), (6, .int v6)]) {H : Heap} {locs : List Loc} (hP : va_P D vwCl (GM cy ad mt mc mb mo ms mk my mu ma me mr mp mg mw mf ml mq) H) (hS : va_S (Ac ad 71) s.heap H locs) : W p l e ({ frames := 3, cells := 0, slots := 0, locals := 72 } : Room) s m args below meth c H locs 0 0 (MQ below (QR (some (.int q.1)) D (GM cy ad mt mc mb mo ms mk my mu ma me mr mp mg mw mf ml q.2) (Ac ad 71)) args s 0 0 (Ac ad 71)) (F0 m 233 ls [.int z0, .int z1, .ref (ad 69)]) := by
  obtain ⟨hx, hb, hml, hown, hts, hr, hlk⟩ := id C
  unfold X12_find_233 at h
  obtain ⟨n1, h⟩ := grd h
  refine sM69 (f := mq.2.2.1) C hI hK hP hS rfl n1 dX12_find_233 (fun H locs hP hS => ?_)
  have hP : va_P D vwCl (GM cy ad mt mc mb mo ms mk my mu ma me mr mp mg mw mf ml (mq.1, mq.2.1, (upd mq.2.2.1 (z1).toNatClampNeg z0), mq.2.2.2.1, mq.2.2.2.2.1, mq.2.2.2.2.2)) H := hP
  refine lv_aload_n hx hb dX12_find_234 rfl (lv_at hl 0 rfl) ?_
  refine gM0_92 C hK hP w1459 dX12_find_235 ?_
  refine lv_iload hx hb dX12_find_238 (lv_at hl 2 rfl) ?_
  refine lv_iload hx hb dX12_find_240 (lv_at hl 2 rfl) ?_
  refine b_if_le (tgt := 269) hx hb dX12_find_242 (by decide) (fun c2 => ?_) (fun c2 => ?_)
  · rw [if_neg c2] at h
    refine lv_iload hx hb dX12_find_269 (lv_at hl 4 rfl) ?_
    refine lv_iconst (v := (-1 : Int32)) hx hb dX12_find_271 (by decide) ?_
    refine lv_icmp_ne (tgt := 279) hx hb dX12_find_272 (by decide) (fun c3 => ?_) (fun c3 => ?_)
    · rw [if_neg c3] at h
      refine lv_aload_n hx hb dX12_find_279 rfl (lv_at hl 0 rfl) ?_
      refine gM0_73 C hK hP w1440 dX12_find_280 ?_
      refine lv_iload hx hb dX12_find_283 (lv_at hl 4 rfl) ?_
      obtain ⟨n4, h⟩ := grd h
      refine aM63 (f := mw.2.2.2.2.1) C hK hP rfl n4 dX12_find_285 ?_
      exact bX12_find_286 C hI hK hN @hk107 h (lv_sub hl [0, 1, 2] rfl) hP hS
    · rw [if_pos c3] at h
      refine lv_iconst (v := (0 : Int32)) hx hb dX12_find_275 (by decide) ?_
      refine lv_goto (tgt := 286) hx hb dX12_find_276 (by decide) ?_
      exact bX12_find_286 C hI hK hN @hk107 h (lv_sub hl [0, 1, 2] rfl) hP hS
  · rw [if_pos c2] at h
    refine lv_aload_n hx hb dX12_find_245 rfl (lv_at hl 0 rfl) ?_
    refine gM0_52 C hK hP w1419 dX12_find_246 ?_
    refine lv_iload hx hb dX12_find_249 (lv_at hl 3 rfl) ?_
    obtain ⟨n5, h⟩ := grd h
    refine aM44 (f := me.2.2.2.2.2.2.2.2.2.2.2.1) C hK hP rfl n5 dX12_find_251 ?_
    refine lv_if_eq (tgt := 265) hx hb dX12_find_252 (by decide) (fun c6 => ?_) (fun c6 => ?_)
    · rw [if_pos c6] at h
      refine lv_iconst (v := (0 : Int32)) hx hb dX12_find_265 (by decide) ?_
      refine lv_goto (tgt := 286) hx hb dX12_find_266 (by decide) ?_
      exact bX12_find_286 C hI hK hN @hk107 h (lv_sub hl [0, 1, 2] rfl) hP hS
    · rw [if_neg c6] at h
      refine lv_aload_n hx hb dX12_find_255 rfl (lv_at hl 0 rfl) ?_
      refine gM0_50 C hK hP w1417 dX12_find_256 ?_
      refine lv_iload hx hb dX12_find_259 (lv_at hl 3 rfl) ?_
      obtain ⟨n7, h⟩ := grd h
      refine aM42 (f := me.2.2.2.2.2.2.2.2.2.1) C hK hP rfl n7 dX12_find_261 ?_
      refine lv_goto (tgt := 286) hx hb dX12_find_262 (by decide) ?_
      exact bX12_find_286 C hI hK hN @hk107 h (lv_sub hl [0, 1, 2] rfl) hP hS
def X12_find_179 (mo : Tmo) (my : Tmy) (me : Tme) (mg : Tmg) (mw : Tmw) (k107 : Tmq → Int64 → Int32 → Option (Int32 × Tmq)) (mq : Tmq) (v1 : Int64) (v4 : Int32) (v5 : Int32) (z0 : Int32) : Option (Int32 × Tmq) := (if 0 < v4 then (if inb v5 800 = true then (if (me.2.2.2.2.2.2.2.2.2.2.1 (v5).toNatClampNeg) = 0 then X12_find_233 mo my me mg mw k107 mq v1 v4 v5 z0 (0 : Int32) v4 else (if inb v5 800 = true then X12_find_233 mo my me mg mw k107 mq v1 v4 v5 z0 (me.2.2.2.2.2.2.2.2.1 (v5).toNatClampNeg) v4 else none)) else none) else (if z0 = (-1 : Int32) then X12_find_233 mo my me mg mw k107 mq v1 v4 v5 z0 (0 : Int32) v4 else (if inb z0 1200 = true then X12_find_233 mo my me mg mw k107 mq v1 v4 v5 z0 (mw.2.2.2.1 (z0).toNatClampNeg) v4 else none)))
set_option maxRecDepth 20000 in
theorem bX12_find_179 (C : Cx p s m args meth c cX12_find 7 (some .int) RX12 (.code yX12_find cX12_find 7 (some .int))) (hI : Apart ad 71) (hK : va_K D vwCl (tysX cy) s) (hN : NW s) {k107 : Tmq → Int64 → Int32 → Option (Int32 × Tmq)} {q : Int32 × Tmq} (hk107 : ∀ {mq : Tmq} {v1 : Int64} {v4 : Int32}, k107 mq v1 v4 = some q → ∀ {ls : Array Slot}, lv_has ls 7 [(0, .ref (ad 0)), (1, .long v1), (4, .int v4)] → ∀ {H : Heap} {locs : List Loc}, va_P D vwCl (GM cy ad mt mc mb mo ms mk my mu ma me mr mp mg mw mf ml mq) H → va_S (Ac ad 71) s.heap H locs → W p l e ({ frames := 3, cells := 0, slots := 0, locals := 72 } : Room) s m args below meth c H locs 0 0 (MQ below (QR (some (.int q.1)) D (GM cy ad mt mc mb mo ms mk my mu ma me mr mp mg mw mf ml q.2) (Ac ad 71)) args s 0 0 (Ac ad 71)) (F0 m 107 ls [])) {v1 : Int64} {v4 : Int32} {v5 : Int32} {z0 : Int32} (h : X12_find_179 mo my me mg mw k107 mq v1 v4 v5 z0 = some q) {ls : Array Slot} (hl : lv_has ls 7 [(0, .ref (ad 0)), (1, .long v1), (4, .int v4), (5, .int v5)]) {H : Heap} {locs : List Loc} (hP : va_P D vwCl (GM cy ad mt mc mb mo ms mk my mu ma me mr mp mg mw mf ml mq) H) (hS : va_S (Ac ad 71) s.heap H locs) : W p l e ({ frames := 3, cells := 0, slots := 0, locals := 72 } : Room) s m args below meth c H locs 0 0 (MQ below (QR (some (.int q.1)) D (GM cy ad mt mc mb mo ms mk my mu ma me mr mp mg mw mf ml q.2) (Ac ad 71)) args s 0 0 (Ac ad 71)) (F0 m 179 ls [.int z0]) := by
  obtain ⟨hx, hb, hml, hown, hts, hr, hlk⟩ := id C
  unfold X12_find_179 at h
  refine lv_istore (lv' := [(6, .int z0), (0, .ref (ad 0)), (1, .long v1), (4, .int v4), (5, .int v5)]) hx hb dX12_find_179 hl (by decide) rfl (fun ls hl => ?_)
  refine lv_aload_n hx hb dX12_find_181 rfl (lv_at hl 1 rfl) ?_
  refine gM0_91 C hK hP w1458 dX12_find_182 ?_
  refine lv_iload hx hb dX12_find_185 (lv_at hl 3 rfl) ?_
  refine lv_iload hx hb dX12_find_187 (lv_at hl 3 rfl) ?_
  refine b_if_le (tgt := 216) hx hb dX12_find_189 (by decide) (fun c1 => ?_) (fun c1 => ?_)
  · rw [if_neg c1] at h
    refine lv_iload hx hb dX12_find_216 (lv_at hl 0 rfl) ?_
    refine lv_iconst (v := (-1 : Int32)) hx hb dX12_find_218 (by decide) ?_
    refine lv_icmp_ne (tgt := 226) hx hb dX12_find_219 (by decide) (fun c2 => ?_) (fun c2 => ?_)
    · rw [if_neg c2] at h
      refine lv_aload_n hx hb dX12_find_226 rfl (lv_at hl 1 rfl) ?_
      refine gM0_72 C hK hP w1439 dX12_find_227 ?_
      refine lv_iload hx hb dX12_find_230 (lv_at hl 0 rfl) ?_
      obtain ⟨n3, h⟩ := grd h
      refine aM62 (f := mw.2.2.2.1) C hK hP rfl n3 dX12_find_232 ?_
      exact bX12_find_233 C hI hK hN @hk107 h (lv_sub hl [1, 2, 3, 4, 0] rfl) hP hS
    · rw [if_pos c2] at h
      refine lv_iconst (v := (0 : Int32)) hx hb dX12_find_222 (by decide) ?_
      refine lv_goto (tgt := 233) hx hb dX12_find_223 (by decide) ?_
      exact bX12_find_233 C hI hK hN @hk107 h (lv_sub hl [1, 2, 3, 4, 0] rfl) hP hS
  · rw [if_pos c1] at h
    refine lv_aload_n hx hb dX12_find_192 rfl (lv_at hl 1 rfl) ?_
    refine gM0_51 C hK hP w1418 dX12_find_193 ?_
    refine lv_iload hx hb dX12_find_196 (lv_at hl 4 rfl) ?_
    obtain ⟨n4, h⟩ := grd h
    refine aM43 (f := me.2.2.2.2.2.2.2.2.2.2.1) C hK hP rfl n4 dX12_find_198 ?_
    refine lv_if_eq (tgt := 212) hx hb dX12_find_199 (by decide) (fun c5 => ?_) (fun c5 => ?_)
    · rw [if_pos c5] at h
      refine lv_iconst (v := (0 : Int32)) hx hb dX12_find_212 (by decide) ?_
      refine lv_goto (tgt := 233) hx hb dX12_find_213 (by decide) ?_
      exact bX12_find_233 C hI hK hN @hk107 h (lv_sub hl [1, 2, 3, 4, 0] rfl) hP hS
    · rw [if_neg c5] at h
      refine lv_aload_n hx hb dX12_find_202 rfl (lv_at hl 1 rfl) ?_
      refine gM0_49 C hK hP w1416 dX12_find_203 ?_
      refine lv_iload hx hb dX12_find_206 (lv_at hl 4 rfl) ?_
      obtain ⟨n6, h⟩ := grd h
      refine aM41 (f := me.2.2.2.2.2.2.2.2.1) C hK hP rfl n6 dX12_find_208 ?_
      refine lv_goto (tgt := 233) hx hb dX12_find_209 (by decide) ?_
      exact bX12_find_233 C hI hK hN @hk107 h (lv_sub hl [1, 2, 3, 4, 0] rfl) hP hS
def X12_find_143 (mo : Tmo) (my : Tmy) (me : Tme) (mg : Tmg) (mw : Tmw) (k107 : Tmq → Int64 → Int32 → Option (Int32 × Tmq)) (mq : Tmq) (v1 : Int64) (v4 : Int32) (z0 : Int32) : Option (Int32 × Tmq) := (if 0 < v4 then X12_find_179 mo my me mg mw k107 mq v1 v4 z0 (-1 : Int32) else (if inb (0 : Int32) 24 = true then (if inb (((400 : Int32) * mo.1) + (mq.2.1 ((0 : Int32)).toNatClampNeg)) 800 = true then ((X12_governs mo mw (me.2.2.2.1 ((((400 : Int32) * mo.1) + (mq.2.1 ((0 : Int32)).toNatClampNeg))).toNatClampNeg) v1).bind fun q4 => X12_find_179 mo my me mg mw k107 mq v1 v4 z0 q4) else none) else none))
set_option maxRecDepth 20000 in
theorem bX12_find_143 (C : Cx p s m args meth c cX12_find 7 (some .int) RX12 (.code yX12_find cX12_find 7 (some .int))) (hI : Apart ad 71) (hK : va_K D vwCl (tysX cy) s) (hN : NW s) {k107 : Tmq → Int64 → Int32 → Option (Int32 × Tmq)} {q : Int32 × Tmq} (hk107 : ∀ {mq : Tmq} {v1 : Int64} {v4 : Int32}, k107 mq v1 v4 = some q → ∀ {ls : Array Slot}, lv_has ls 7 [(0, .ref (ad 0)), (1, .long v1), (4, .int v4)] → ∀ {H : Heap} {locs : List Loc}, va_P D vwCl (GM cy ad mt mc mb mo ms mk my mu ma me mr mp mg mw mf ml mq) H → va_S (Ac ad 71) s.heap H locs → W p l e ({ frames := 3, cells := 0, slots := 0, locals := 72 } : Room) s m args below meth c H locs 0 0 (MQ below (QR (some (.int q.1)) D (GM cy ad mt mc mb mo ms mk my mu ma me mr mp mg mw mf ml q.2) (Ac ad 71)) args s 0 0 (Ac ad 71)) (F0 m 107 ls [])) {v1 : Int64} {v4 : Int32} {z0 : Int32} (h : X12_find_143 mo my me mg mw k107 mq v1 v4 z0 = some q) {ls : Array Slot} (hl : lv_has ls 7 [(0, .ref (ad 0)), (1, .long v1), (4, .int v4)]) {H : Heap} {locs : List Loc} (hP : va_P D vwCl (GM cy ad mt mc mb mo ms mk my mu ma me mr mp mg mw mf ml mq) H) (hS : va_S (Ac ad 71) s.heap H locs) : W p l e ({ frames := 3, cells := 0, slots := 0, locals := 72 } : Room) s m args below meth c H locs 0 0 (MQ below (QR (some (.int q.1)) D (GM cy ad mt mc mb mo ms mk my mu ma me mr mp mg mw mf ml q.2) (Ac ad 71)) args s 0 0 (Ac ad 71)) (F0 m 143 ls [.int z0]) := by
  obtain ⟨hx, hb, hml, hown, hts, hr, hlk⟩ := id C
  unfold X12_find_143 at h
  refine lv_istore (lv' := [(5, .int z0), (0, .ref (ad 0)), (1, .long v1), (4, .int v4)]) hx hb dX12_find_143 hl (by decide) rfl (fun ls hl => ?_)
  refine lv_iload hx hb dX12_find_145 (lv_at hl 3 rfl) ?_
  refine b_if_le (tgt := 154) hx hb dX12_find_147 (by decide) (fun c1 => ?_) (fun c1 => ?_)
  · rw [if_neg c1] at h
    refine lv_aload_n hx hb dX12_find_154 rfl (lv_at hl 1 rfl) ?_
    refine lv_aload_n hx hb dX12_find_155 rfl (lv_at hl 1 rfl) ?_
    refine gM0_44 C hK hP w1411 dX12_find_156 ?_
    refine lv_sipush (v := (400 : Int32)) hx hb dX12_find_159 (by decide) ?_
    refine lv_aload_n hx hb dX12_find_162 rfl (lv_at hl 1 rfl) ?_
    refine gM0_7 (v := mo.1) C hK hP rfl w1374 dX12_find_163 ?_
    refine lv_imul hx hb dX12_find_166 ?_
    refine lv_aload_n hx hb dX12_find_167 rfl (lv_at hl 1 rfl) ?_
    refine gM0_90 C hK hP w1457 dX12_find_168 ?_
    refine lv_iconst (v := (0 : Int32)) hx hb dX12_find_171 (by decide) ?_
    obtain ⟨n2, h⟩ := grd h
    refine aM68 (f := mq.2.1) C hK hP rfl n2 dX12_find_172 ?_
    refine lv_iadd hx hb dX12_find_173 ?_
    obtain ⟨n3, h⟩ := grd h
    refine aM36 (f := me.2.2.2.1) C hK hP rfl n3 dX12_find_174 ?_
    refine lv_lload_n hx hb dX12_find_175 rfl (lv_at hl 2 rfl) ?_
    obtain ⟨q4, h5, h⟩ := bnd h
    refine cPi (run_V (rest := []) C (kX12_governs h5) caX12_governs w1926 ⟨rfl, rfl, Nat.le_of_ble_eq_true rfl, Nat.le_of_ble_eq_true rfl⟩ hK hN hP (rM0 hK hP) rfl hl.1 rfl (Nat.le_of_ble_eq_true rfl) dX12_find_176 ⟨Nat.zero_le _, Nat.zero_le _⟩) ?_
    exact bX12_find_179 C hI hK hN @hk107 h (lv_sub hl [1, 2, 3, 0] rfl) hP hS
  · rw [if_pos c1] at h
    refine lv_iconst (v := (-1 : Int32)) hx hb dX12_find_150 (by decide) ?_
    refine lv_goto (tgt := 179) hx hb dX12_find_151 (by decide) ?_
    exact bX12_find_179 C hI hK hN @hk107 h (lv_sub hl [1, 2, 3, 0] rfl) hP hS
def X12_find_107b (mo : Tmo) (my : Tmy) (me : Tme) (mg : Tmg) (mw : Tmw)  (k107 : Tmq → Int64 → Int32 → Option (Int32 × Tmq)) (mq : Tmq) (v1 : Int64) (v4 : Int32) : Option (Int32 × Tmq) := (if v4 < mq.1 then (if v4 = 0 then X12_find_143 mo my me mg mw k107 mq v1 v4 (-1 : Int32) else (if inb (v4 - (1 : Int32)) 24 = true then X12_find_143 mo my me mg mw k107 mq v1 v4 (((400 : Int32) * mo.1) + (mq.2.1 ((v4 - (1 : Int32))).toNatClampNeg)) else none)) else (if mq.1 = 0 then ((X12_symbolOf mo my mq v1).bind fun q3 => some (q3.1, q3)) else some (mq.1, mq)))
def X12_find_107 (mo : Tmo) (my : Tmy) (me : Tme) (mg : Tmg) (mw : Tmw)  (n : Nat) (st : Tmq × Int64 × Int32) : Option (Int32 × Tmq) := lp (fun rec st => X12_find_107b mo my me mg mw  (fun a0 a1 a2 => rec (a0, a1, a2)) st.1 st.2.1 st.2.2) n st
set_option maxRecDepth 20000 in
theorem bX12_find_107 (C : Cx p s m args meth c cX12_find 7 (some .int) RX12 (.code yX12_find cX12_find 7 (some .int))) (hI : Apart ad 71) (hK : va_K D vwCl (tysX cy) s) (hN : NW s)  {q : Int32 × Tmq}  : ∀ (n : Nat) {mq : Tmq} {v1 : Int64} {v4 : Int32}, X12_find_107 mo my me mg mw  n (mq, v1, v4) = some q → ∀ {ls : Array Slot}, lv_has ls 7 [(0, .ref (ad 0)), (1, .long v1), (4, .int v4)] → ∀ {H : Heap} {locs : List Loc}, va_P D vwCl (GM cy ad mt mc mb mo ms mk my mu ma me mr mp mg mw mf ml mq) H → va_S (Ac ad 71) s.heap H locs → W p l e ({ frames := 3, cells := 0, slots := 0, locals := 72 } : Room) s m args below meth c H locs 0 0 (MQ below (QR (some (.int q.1)) D (GM cy ad mt mc mb mo ms mk my mu ma me mr mp mg mw mf ml q.2) (Ac ad 71)) args s 0 0 (Ac ad 71)) (F0 m 107 ls []) := by
  obtain ⟨hx, hb, hml, hown, hts, hr, hlk⟩ := id C
  intro n
  induction n with
  | zero =>
    intro mq v1 v4 h ls hl H locs hP hS
    have h : (none : Option (Int32 × Tmq)) = some q := h
    cases h
  | succ n ih =>
    intro mq v1 v4 h ls hl H locs hP hS
    have h : X12_find_107b mo my me mg mw  (fun a0 a1 a2 => X12_find_107 mo my me mg mw  n (a0, a1, a2)) mq v1 v4 = some q := h
    unfold X12_find_107b at h
    refine lv_iload hx hb dX12_find_107 (lv_at hl 2 rfl) ?_
    refine lv_aload_n hx hb dX12_find_109 rfl (lv_at hl 0 rfl) ?_
    refine gM0_89 (v := mq.1) C hK hP rfl w1456 dX12_find_110 ?_
    refine b_icmp_ge (tgt := 293) hx hb dX12_find_113 (by decide) (fun c1 => ?_) (fun c1 => ?_)
    · rw [if_neg c1] at h
      refine lv_aload_n hx hb dX12_find_293 rfl (lv_at hl 0 rfl) ?_
      refine gM0_89 (v := mq.1) C hK hP rfl w1456 dX12_find_294 ?_
      refine lv_if_ne (tgt := 305) hx hb dX12_find_297 (by decide) (fun c2 => ?_) (fun c2 => ?_)
      · rw [if_neg c2] at h
        refine lv_aload_n hx hb dX12_find_305 rfl (lv_at hl 0 rfl) ?_
        refine gM0_89 (v := mq.1) C hK hP rfl w1456 dX12_find_306 ?_
        obtain rfl := Option.some.inj h
        exact W.iret hx hb hr (fun t ht _ => ⟨rfl, by rw [ht]; exact hP, hS.F ht⟩) hS.2.2 dX12_find_309 hlk
      · rw [if_pos c2] at h
        refine lv_aload_n hx hb dX12_find_300 rfl (lv_at hl 0 rfl) ?_
        refine lv_lload_n hx hb dX12_find_301 rfl (lv_at hl 1 rfl) ?_
        obtain ⟨q3, h4, h⟩ := bnd h
        refine cRv (run_V (rest := []) C (kX12_symbolOf hI h4) caX12_symbolOf w1930 ⟨rfl, rfl, Nat.le_of_ble_eq_true rfl, Nat.le_of_ble_eq_true rfl⟩ hK hN hP (rM0 hK hP) rfl hl.1 rfl (Nat.le_of_ble_eq_true rfl) dX12_find_302 ⟨Nat.zero_le _, Nat.zero_le _⟩) hS (fun H locs hP hS => ?_)
        have hP : va_P D vwCl (GM cy ad mt mc mb mo ms mk my mu ma me mr mp mg mw mf ml q3) H := hP
        refine lv_aload_n hx hb dX12_find_305 rfl (lv_at hl 0 rfl) ?_
        refine gM0_89 (v := q3.1) C hK hP rfl w1456 dX12_find_306 ?_
        obtain rfl := Option.some.inj h
        exact W.iret hx hb hr (fun t ht _ => ⟨rfl, by rw [ht]; exact hP, hS.F ht⟩) hS.2.2 dX12_find_309 hlk
    · rw [if_pos c1] at h
      refine lv_iload hx hb dX12_find_116 (lv_at hl 2 rfl) ?_
      refine lv_if_ne (tgt := 125) hx hb dX12_find_118 (by decide) (fun c5 => ?_) (fun c5 => ?_)
      · rw [if_neg c5] at h
        refine lv_sipush (v := (400 : Int32)) hx hb dX12_find_125 (by decide) ?_
        refine lv_aload_n hx hb dX12_find_128 rfl (lv_at hl 0 rfl) ?_
        refine gM0_7 (v := mo.1) C hK hP rfl w1374 dX12_find_129 ?_
        refine lv_imul hx hb dX12_find_132 ?_
        refine lv_aload_n hx hb dX12_find_133 rfl (lv_at hl 0 rfl) ?_
        refine gM0_90 C hK hP w1457 dX12_find_134 ?_
        refine lv_iload hx hb dX12_find_137 (lv_at hl 2 rfl) ?_
        refine lv_iconst (v := (1 : Int32)) hx hb dX12_find_139 (by decide) ?_
        refine lv_isub hx hb dX12_find_140 ?_
        obtain ⟨n6, h⟩ := grd h
        refine aM68 (f := mq.2.1) C hK hP rfl n6 dX12_find_141 ?_
        refine lv_iadd hx hb dX12_find_142 ?_
        exact bX12_find_143 C hI hK hN @ih h (lv_sub hl [0, 1, 2] rfl) hP hS
      · rw [if_pos c5] at h
        refine lv_iconst (v := (-1 : Int32)) hx hb dX12_find_121 (by decide) ?_
        refine lv_goto (tgt := 143) hx hb dX12_find_122 (by decide) ?_
        exact bX12_find_143 C hI hK hN @ih h (lv_sub hl [0, 1, 2] rfl) hP hS
def X12_find_17b (mo : Tmo) (my : Tmy) (me : Tme) (mg : Tmg) (mw : Tmw)  (k17 : Tmq → Int64 → Int32 → Option (Int32 × Tmq)) (mq : Tmq) (v1 : Int64) (v3 : Int32) : Option (Int32 × Tmq) := (if v3 = (-1 : Int32) then X12_find_107 mo my me mg mw FU (mq, v1, (0 : Int32)) else (if inb (((400 : Int32) * mo.1) + v3) 800 = true then (if (me.2.1 ((((400 : Int32) * mo.1) + v3)).toNatClampNeg) = (11 : Int64) then X12_find_94 mo my me mg mw k17 mq v1 v3 else X12_find_50 mo my me mg mw k17 FU (mq, v1, v3, mq.1)) else none))
def X12_find_17 (mo : Tmo) (my : Tmy) (me : Tme) (mg : Tmg) (mw : Tmw)  (n : Nat) (st : Tmq × Int64 × Int32) : Option (Int32 × Tmq) := lp (fun rec st => X12_find_17b mo my me mg mw  (fun a0 a1 a2 => rec (a0, a1, a2)) st.1 st.2.1 st.2.2) n st
set_option maxRecDepth 20000 in
theorem bX12_find_17 (C : Cx p s m args meth c cX12_find 7 (some .int) RX12 (.code yX12_find cX12_find 7 (some .int))) (hI : Apart ad 71) (hK : va_K D vwCl (tysX cy) s) (hN : NW s)  {q : Int32 × Tmq}  : ∀ (n : Nat) {mq : Tmq} {v1 : Int64} {v3 : Int32}, X12_find_17 mo my me mg mw  n (mq, v1, v3) = some q → ∀ {ls : Array Slot}, lv_has ls 7 [(0, .ref (ad 0)), (1, .long v1), (3, .int v3)] → ∀ {H : Heap} {locs : List Loc}, va_P D vwCl (GM cy ad mt mc mb mo ms mk my mu ma me mr mp mg mw mf ml mq) H → va_S (Ac ad 71) s.heap H locs → W p l e ({ frames := 3, cells := 0, slots := 0, locals := 72 } : Room) s m args below meth c H locs 0 0 (MQ below (QR (some (.int q.1)) D (GM cy ad mt mc mb mo ms mk my mu ma me mr mp mg mw mf ml q.2) (Ac ad 71)) args s 0 0 (Ac ad 71)) (F0 m 17 ls []) := by
  obtain ⟨hx, hb, hml, hown, hts, hr, hlk⟩ := id C
  intro n
  induction n with
  | zero =>
    intro mq v1 v3 h ls hl H locs hP hS
    have h : (none : Option (Int32 × Tmq)) = some q := h
    cases h
  | succ n ih =>
    intro mq v1 v3 h ls hl H locs hP hS
    have h : X12_find_17b mo my me mg mw  (fun a0 a1 a2 => X12_find_17 mo my me mg mw  n (a0, a1, a2)) mq v1 v3 = some q := h
    unfold X12_find_17b at h
    refine lv_iload_n hx hb dX12_find_17 rfl (lv_at hl 2 rfl) ?_
    refine lv_iconst (v := (-1 : Int32)) hx hb dX12_find_18 (by decide) ?_
    refine lv_icmp_eq (tgt := 104) hx hb dX12_find_19 (by decide) (fun c1 => ?_) (fun c1 => ?_)
    · rw [if_pos c1] at h
      refine lv_iconst (v := (0 : Int32)) hx hb dX12_find_104 (by decide) ?_
      refine lv_istore (lv' := [(4, .int (0 : Int32)), (0, .ref (ad 0)), (1, .long v1), (3, .int v3)]) hx hb dX12_find_105 hl (by decide) rfl (fun ls hl => ?_)
      exact bX12_find_107 C hI hK hN FU h (lv_sub hl [1, 2, 0] rfl) hP hS
    · rw [if_neg c1] at h
      refine lv_aload_n hx hb dX12_find_22 rfl (lv_at hl 0 rfl) ?_
      refine gM0_42 C hK hP w1409 dX12_find_23 ?_
      refine lv_sipush (v := (400 : Int32)) hx hb dX12_find_26 (by decide) ?_
      refine lv_aload_n hx hb dX12_find_29 rfl (lv_at hl 0 rfl) ?_
      refine gM0_7 (v := mo.1) C hK hP rfl w1374 dX12_find_30 ?_
      refine lv_imul hx hb dX12_find_33 ?_
      refine lv_iload_n hx hb dX12_find_34 rfl (lv_at hl 2 rfl) ?_
      refine lv_iadd hx hb dX12_find_35 ?_
      obtain ⟨n2, h⟩ := grd h
      refine aM34 (f := me.2.1) C hK hP rfl n2 dX12_find_36 ?_
      refine lv_ldc2 (v := (11 : Int64)) hx hb hown (hts _ (List.mem_cons_of_mem _ w1757)) dX12_find_37 ?_
      refine lc_eq (tgt := 94) hx hb dX12_find_40 dX12_find_41 (by decide) (fun c3 => ?_) (fun c3 => ?_)
      · rw [if_pos c3] at h
        exact bX12_find_94 C hI hK hN @ih h (lv_sub hl [0, 1, 2] rfl) hP hS
      · rw [if_neg c3] at h
        refine lv_aload_n hx hb dX12_find_44 rfl (lv_at hl 0 rfl) ?_
        refine gM0_89 (v := mq.1) C hK hP rfl w1456 dX12_find_45 ?_
        refine lv_istore (lv' := [(4, .int mq.1), (0, .ref (ad 0)), (1, .long v1), (3, .int v3)]) hx hb dX12_find_48 hl (by decide) rfl (fun ls hl => ?_)
        exact bX12_find_50 C hI hK hN @ih FU h (lv_sub hl [1, 2, 3, 0] rfl) hP hS
def X12_find (mo : Tmo) (my : Tmy) (me : Tme) (mg : Tmg) (mw : Tmw) (mq : Tmq) (v1 : Int64) : Option (Int32 × Tmq) := ((X12_holder mo me mg (-1 : Int32) v1).bind fun q1 => X12_find_17 mo my me mg mw FU (((0 : Int32), mq.2.1, mq.2.2.1, mq.2.2.2.1, (-1 : Int32), mq.2.2.2.2.2), v1, q1))
set_option maxRecDepth 20000 in
theorem bX12_find_0 (C : Cx p s m args meth c cX12_find 7 (some .int) RX12 (.code yX12_find cX12_find 7 (some .int))) (hI : Apart ad 71) (hK : va_K D vwCl (tysX cy) s) (hN : NW s)  {q : Int32 × Tmq}  {v1 : Int64} (h : X12_find mo my me mg mw mq v1 = some q) {ls : Array Slot} (hl : lv_has ls 7 [(0, .ref (ad 0)), (1, .long v1)]) {H : Heap} {locs : List Loc} (hP : va_P D vwCl (GM cy ad mt mc mb mo ms mk my mu ma me mr mp mg mw mf ml mq) H) (hS : va_S (Ac ad 71) s.heap H locs) : W p l e ({ frames := 3, cells := 0, slots := 0, locals := 72 } : Room) s m args below meth c H locs 0 0 (MQ below (QR (some (.int q.1)) D (GM cy ad mt mc mb mo ms mk my mu ma me mr mp mg mw mf ml q.2) (Ac ad 71)) args s 0 0 (Ac ad 71)) (F0 m 0 ls []) := by
  obtain ⟨hx, hb, hml, hown, hts, hr, hlk⟩ := id C
  unfold X12_find at h
  refine lv_aload_n hx hb dX12_find_0 rfl (lv_at hl 0 rfl) ?_
  refine lv_iconst (v := (0 : Int32)) hx hb dX12_find_1 (by decide) ?_
  refine pM0_89 (v := (0 : Int32)) C hI hK hP hS w1456 dX12_find_2 (fun H locs hP hS => ?_)
  have hP : va_P D vwCl (GM cy ad mt mc mb mo ms mk my mu ma me mr mp mg mw mf ml ((0 : Int32), mq.2.1, mq.2.2.1, mq.2.2.2.1, mq.2.2.2.2.1, mq.2.2.2.2.2)) H := hP
  refine lv_aload_n hx hb dX12_find_5 rfl (lv_at hl 0 rfl) ?_
  refine lv_iconst (v := (-1 : Int32)) hx hb dX12_find_6 (by decide) ?_
  refine pM0_93 (v := (-1 : Int32)) C hI hK hP hS w1460 dX12_find_7 (fun H locs hP hS => ?_)
  have hP : va_P D vwCl (GM cy ad mt mc mb mo ms mk my mu ma me mr mp mg mw mf ml ((0 : Int32), mq.2.1, mq.2.2.1, mq.2.2.2.1, (-1 : Int32), mq.2.2.2.2.2)) H := hP
  refine lv_aload_n hx hb dX12_find_10 rfl (lv_at hl 0 rfl) ?_
  refine lv_iconst (v := (-1 : Int32)) hx hb dX12_find_11 (by decide) ?_
  refine lv_lload_n hx hb dX12_find_12 rfl (lv_at hl 1 rfl) ?_
  obtain ⟨q1, h2, h⟩ := bnd h
  refine cPi (run_V (rest := []) C (kX12_holder h2) caX12_holder w1919 ⟨rfl, rfl, Nat.le_of_ble_eq_true rfl, Nat.le_of_ble_eq_true rfl⟩ hK hN hP (rM0 hK hP) rfl hl.1 rfl (Nat.le_of_ble_eq_true rfl) dX12_find_13 ⟨Nat.zero_le _, Nat.zero_le _⟩) ?_
  refine lv_istore_n (lv' := [(3, .int q1), (0, .ref (ad 0)), (1, .long v1)]) hx hb dX12_find_16 rfl hl (by decide) rfl (fun ls hl => ?_)
  exact bX12_find_17 C hI hK hN FU h (lv_sub hl [1, 2, 0] rfl) hP hS
theorem kX12_find (hI : Apart ad 71) {v1 : Int64} {q : Int32 × Tmq} (h : X12_find mo my me mg mw mq v1 = some q) : Met l yX12_find (.code yX12_find cX12_find 7 (some .int) :: WA) ({ frames := 3, cells := 0, slots := 0, locals := 72 } : Room) (va_Pc [.ref (ad 0), .long v1] (PR D cy (GM cy ad mt mc mb mo ms mk my mu ma me mr mp mg mw mf ml mq))) (QR (some (.int q.1)) D (GM cy ad mt mc mb mo ms mk my mu ma me mr mp mg mw mf ml q.2) (Ac ad 71)) 0 0 (Ac ad 71) :=
  met_of (by decide) (Nat.le_of_ble_eq_true rfl) (fun p e s m below meth c ls C hP hK hN hl => bX12_find_0 C hI hK hN h hl hP va_S.rf)
def X12_fileOf (mo : Tmo) (mu : Tmu) (me : Tme) (mq : Tmq) (v1 : Int32) : Option (Int32) := (if inb v1 24 = true then (if inb (((400 : Int32) * mo.1) + (mq.2.1 (v1).toNatClampNeg)) 800 = true then (if inb v1 24 = true then (if (mq.2.2.1 (v1).toNatClampNeg) < 0 then some (-1 : Int32) else (if inb (((20 : Int32) * mo.1) + (me.2.2.2.1 ((((400 : Int32) * mo.1) + (mq.2.1 (v1).toNatClampNeg))).toNatClampNeg)) 40 = true then (if (mq.2.2.1 (v1).toNatClampNeg) < (mu.2.2.2.2.1 ((((20 : Int32) * mo.1) + (me.2.2.2.1 ((((400 : Int32) * mo.1) + (mq.2.1 (v1).toNatClampNeg))).toNatClampNeg))).toNatClampNeg) then (if inb (((20 : Int32) * mo.1) + (me.2.2.2.1 ((((400 : Int32) * mo.1) + (mq.2.1 (v1).toNatClampNeg))).toNatClampNeg)) 40 = true then some ((((40 : Int32) * mo.1) + (mu.2.2.2.1 ((((20 : Int32) * mo.1) + (me.2.2.2.1 ((((400 : Int32) * mo.1) + (mq.2.1 (v1).toNatClampNeg))).toNatClampNeg))).toNatClampNeg)) + (mq.2.2.1 (v1).toNatClampNeg)) else none) else some (-1 : Int32)) else none)) else none) else none) else none)
set_option maxRecDepth 20000 in
theorem bX12_fileOf_0 (C : Cx p s m args meth c cX12_fileOf 4 (some .int) RX12 (.code yX12_fileOf cX12_fileOf 4 (some .int))) (hK : va_K D vwCl (tysX cy) s) (hN : NW s)  {q : Int32}  {v1 : Int32} (h : X12_fileOf mo mu me mq v1 = some q) {ls : Array Slot} (hl : lv_has ls 4 [(0, .ref (ad 0)), (1, .int v1)]) (hP : va_P D vwCl (GM cy ad mt mc mb mo ms mk my mu ma me mr mp mg mw mf ml mq) s.heap) : W p l e ({ frames := 0, cells := 0, slots := 0, locals := 0 } : Room) s m args below meth c s.heap [] 0 0 (MQ below (QP (some (.int q))) args s 0 0 (fun _ => False)) (F0 m 0 ls []) := by
  obtain ⟨hx, hb, hml, hown, hts, hr, hlk⟩ := id C
  unfold X12_fileOf at h
  refine lv_bipush (v := (20 : Int32)) hx hb dX12_fileOf_0 (by decide) ?_
  refine lv_aload_n hx hb dX12_fileOf_2 rfl (lv_at hl 0 rfl) ?_
  refine gM0_7 (v := mo.1) C hK hP rfl w1374 dX12_fileOf_3 ?_
  refine lv_imul hx hb dX12_fileOf_6 ?_
  refine lv_aload_n hx hb dX12_fileOf_7 rfl (lv_at hl 0 rfl) ?_
  refine gM0_44 C hK hP w1411 dX12_fileOf_8 ?_
  refine lv_sipush (v := (400 : Int32)) hx hb dX12_fileOf_11 (by decide) ?_
  refine lv_aload_n hx hb dX12_fileOf_14 rfl (lv_at hl 0 rfl) ?_
  refine gM0_7 (v := mo.1) C hK hP rfl w1374 dX12_fileOf_15 ?_
  refine lv_imul hx hb dX12_fileOf_18 ?_
  refine lv_aload_n hx hb dX12_fileOf_19 rfl (lv_at hl 0 rfl) ?_
  refine gM0_90 C hK hP w1457 dX12_fileOf_20 ?_
  refine lv_iload_n hx hb dX12_fileOf_23 rfl (lv_at hl 1 rfl) ?_
  obtain ⟨n1, h⟩ := grd h
  refine aM68 (f := mq.2.1) C hK hP rfl n1 dX12_fileOf_24 ?_
  refine lv_iadd hx hb dX12_fileOf_25 ?_
  obtain ⟨n2, h⟩ := grd h
  refine aM36 (f := me.2.2.2.1) C hK hP rfl n2 dX12_fileOf_26 ?_
  refine lv_iadd hx hb dX12_fileOf_27 ?_
  refine lv_istore_n (lv' := [(2, .int (((20 : Int32) * mo.1) + (me.2.2.2.1 ((((400 : Int32) * mo.1) + (mq.2.1 (v1).toNatClampNeg))).toNatClampNeg))), (0, .ref (ad 0)), (1, .int v1)]) hx hb dX12_fileOf_28 rfl hl (by decide) rfl (fun ls hl => ?_)
  refine lv_aload_n hx hb dX12_fileOf_29 rfl (lv_at hl 1 rfl) ?_
  refine gM0_91 C hK hP w1458 dX12_fileOf_30 ?_
  refine lv_iload_n hx hb dX12_fileOf_33 rfl (lv_at hl 2 rfl) ?_
  obtain ⟨n3, h⟩ := grd h
  refine aM69 (f := mq.2.2.1) C hK hP rfl n3 dX12_fileOf_34 ?_
  refine lv_istore_n (lv' := [(3, .int (mq.2.2.1 (v1).toNatClampNeg)), (2, .int (((20 : Int32) * mo.1) + (me.2.2.2.1 ((((400 : Int32) * mo.1) + (mq.2.1 (v1).toNatClampNeg))).toNatClampNeg))), (0, .ref (ad 0)), (1, .int v1)]) hx hb dX12_fileOf_35 rfl hl (by decide) rfl (fun ls hl => ?_)
  refine lv_iload_n hx hb dX12_fileOf_36 rfl (lv_at hl 0 rfl) ?_
  refine lv_if_lt (tgt := 69) hx hb dX12_fileOf_37 (by decide) (fun c4 => ?_) (fun c4 => ?_)
  · rw [if_pos c4] at h
    refine lv_iconst (v := (-1 : Int32)) hx hb dX12_fileOf_69 (by decide) ?_
    obtain rfl := Option.some.inj h
    exact W.iret hx hb hr (fun t ht _ => ⟨rfl, ht⟩) (fun _ h9 => by cases h9) dX12_fileOf_70 hlk
  · rw [if_neg c4] at h
    refine lv_iload_n hx hb dX12_fileOf_40 rfl (lv_at hl 0 rfl) ?_
    refine lv_aload_n hx hb dX12_fileOf_41 rfl (lv_at hl 2 rfl) ?_
    refine gM0_31 C hK hP w1398 dX12_fileOf_42 ?_
    refine lv_iload_n hx hb dX12_fileOf_45 rfl (lv_at hl 1 rfl) ?_
    obtain ⟨n5, h⟩ := grd h
    refine aM24 (f := mu.2.2.2.2.1) C hK hP rfl n5 dX12_fileOf_46 ?_
    refine b_icmp_ge (tgt := 69) hx hb dX12_fileOf_47 (by decide) (fun c6 => ?_) (fun c6 => ?_)
    · rw [if_neg c6] at h
      refine lv_iconst (v := (-1 : Int32)) hx hb dX12_fileOf_69 (by decide) ?_
      obtain rfl := Option.some.inj h
      exact W.iret hx hb hr (fun t ht _ => ⟨rfl, ht⟩) (fun _ h9 => by cases h9) dX12_fileOf_70 hlk
    · rw [if_pos c6] at h
      refine lv_bipush (v := (40 : Int32)) hx hb dX12_fileOf_50 (by decide) ?_
      refine lv_aload_n hx hb dX12_fileOf_52 rfl (lv_at hl 2 rfl) ?_
      refine gM0_7 (v := mo.1) C hK hP rfl w1374 dX12_fileOf_53 ?_
      refine lv_imul hx hb dX12_fileOf_56 ?_
      refine lv_aload_n hx hb dX12_fileOf_57 rfl (lv_at hl 2 rfl) ?_
      refine gM0_30 C hK hP w1397 dX12_fileOf_58 ?_
      refine lv_iload_n hx hb dX12_fileOf_61 rfl (lv_at hl 1 rfl) ?_
      obtain ⟨n7, h⟩ := grd h
      refine aM23 (f := mu.2.2.2.1) C hK hP rfl n7 dX12_fileOf_62 ?_
      refine lv_iadd hx hb dX12_fileOf_63 ?_
      refine lv_iload_n hx hb dX12_fileOf_64 rfl (lv_at hl 0 rfl) ?_
      refine lv_iadd hx hb dX12_fileOf_65 ?_
      refine lv_goto (tgt := 70) hx hb dX12_fileOf_66 (by decide) ?_
      obtain rfl := Option.some.inj h
      exact W.iret hx hb hr (fun t ht _ => ⟨rfl, ht⟩) (fun _ h9 => by cases h9) dX12_fileOf_70 hlk
theorem kX12_fileOf  {v1 : Int32} {q : Int32} (h : X12_fileOf mo mu me mq v1 = some q) : Met l yX12_fileOf (.code yX12_fileOf cX12_fileOf 4 (some .int) :: WA) ({ frames := 0, cells := 0, slots := 0, locals := 0 } : Room) (va_Pc [.ref (ad 0), .int v1] (PR D cy (GM cy ad mt mc mb mo ms mk my mu ma me mr mp mg mw mf ml mq))) (QP (some (.int q))) 0 0 (fun _ => False) :=
  met_of (by decide) (Nat.le_of_ble_eq_true rfl) (fun p e s m below meth c ls C hP hK hN hl => bX12_fileOf_0 C hK hN h hl hP)
def X12_frame (mo : Tmo) (mu : Tmu) (me : Tme) (mf : Tmf) (mq : Tmq) (v1 : Int32) (v2 : Int32) : Option (Int32) := (if v1 < 0 then some (-1 : Int32) else (if v1 < mq.1 then (if v2 = (0 : Int32) then (if inb v1 24 = true then some (mq.2.1 (v1).toNatClampNeg) else none) else (if v2 = (1 : Int32) then (if inb v1 24 = true then some (mq.2.2.1 (v1).toNatClampNeg) else none) else (if v2 = (2 : Int32) then (if inb v1 24 = true then some (mq.2.2.2.1 (v1).toNatClampNeg) else none) else (if v2 = (3 : Int32) then (if inb v1 24 = true then ((X12_signsOf mo me (mq.2.1 (v1).toNatClampNeg)).bind fun q11 => some q11) else none) else (if v2 = (4 : Int32) then ((X12_fileOf mo mu me mq v1).bind fun q14 => (if q14 = (-1 : Int32) then some (-1 : Int32) else ((X12_fileOf mo mu me mq v1).bind fun q17 => (if inb q17 80 = true then some (mf.2.2 (q17).toNatClampNeg) else none)))) else some (-1 : Int32)))))) else some (-1 : Int32)))
set_option maxRecDepth 20000 in
theorem bX12_frame_0 (C : Cx p s m args meth c cX12_frame 3 (some .int) RX12 (.code yX12_frame cX12_frame 3 (some .int))) (hK : va_K D vwCl (tysX cy) s) (hN : NW s)  {q : Int32}  {v1 : Int32} {v2 : Int32} (h : X12_frame mo mu me mf mq v1 v2 = some q) {ls : Array Slot} (hl : lv_has ls 3 [(0, .ref (ad 0)), (1, .int v1), (2, .int v2)]) (hP : va_P D vwCl (GM cy ad mt mc mb mo ms mk my mu ma me mr mp mg mw mf ml mq) s.heap) : W p l e ({ frames := 2, cells := 0, slots := 0, locals := 45 } : Room) s m args below meth c s.heap [] 0 0 (MQ below (QP (some (.int q))) args s 0 0 (fun _ => False)) (F0 m 0 ls []) := by
  obtain ⟨hx, hb, hml, hown, hts, hr, hlk⟩ := id C
  unfold X12_frame at h
  refine lv_iload_n hx hb dX12_frame_0 rfl (lv_at hl 1 rfl) ?_
  refine lv_if_lt (tgt := 12) hx hb dX12_frame_1 (by decide) (fun c1 => ?_) (fun c1 => ?_)
  · rw [if_pos c1] at h
    refine lv_iconst (v := (-1 : Int32)) hx hb dX12_frame_12 (by decide) ?_
    obtain rfl := Option.some.inj h
    exact W.iret hx hb hr (fun t ht _ => ⟨rfl, ht⟩) (fun _ h9 => by cases h9) dX12_frame_13 hlk
  · rw [if_neg c1] at h
    refine lv_iload_n hx hb dX12_frame_4 rfl (lv_at hl 1 rfl) ?_
    refine lv_aload_n hx hb dX12_frame_5 rfl (lv_at hl 0 rfl) ?_
    refine gM0_89 (v := mq.1) C hK hP rfl w1456 dX12_frame_6 ?_
    refine lv_icmp_lt (tgt := 14) hx hb dX12_frame_9 (by decide) (fun c2 => ?_) (fun c2 => ?_)
    · rw [if_pos c2] at h
      refine lv_iload_n hx hb dX12_frame_14 rfl (lv_at hl 2 rfl) ?_
      by_cases c3 : v2 = (0 : Int32)
      · rw [if_pos c3] at h
        rw [c3]
        refine lv_tableIn (off := 33) (tgt := 48) hx hb dX12_frame_15 (by decide) (by decide) (by decide) (by decide) ?_
        refine lv_aload_n hx hb dX12_frame_48 rfl (lv_at hl 0 rfl) ?_
        refine gM0_90 C hK hP w1457 dX12_frame_49 ?_
        refine lv_iload_n hx hb dX12_frame_52 rfl (lv_at hl 1 rfl) ?_
        obtain ⟨n4, h⟩ := grd h
        refine aM68 (f := mq.2.1) C hK hP rfl n4 dX12_frame_53 ?_
        obtain rfl := Option.some.inj h
        exact W.iret hx hb hr (fun t ht _ => ⟨rfl, ht⟩) (fun _ h9 => by cases h9) dX12_frame_54 hlk
      rw [if_neg c3] at h
      by_cases c5 : v2 = (1 : Int32)
      · rw [if_pos c5] at h
        rw [c5]
        refine lv_tableIn (off := 40) (tgt := 55) hx hb dX12_frame_15 (by decide) (by decide) (by decide) (by decide) ?_
        refine lv_aload_n hx hb dX12_frame_55 rfl (lv_at hl 0 rfl) ?_
        refine gM0_91 C hK hP w1458 dX12_frame_56 ?_
        refine lv_iload_n hx hb dX12_frame_59 rfl (lv_at hl 1 rfl) ?_
        obtain ⟨n6, h⟩ := grd h
        refine aM69 (f := mq.2.2.1) C hK hP rfl n6 dX12_frame_60 ?_
        obtain rfl := Option.some.inj h
        exact W.iret hx hb hr (fun t ht _ => ⟨rfl, ht⟩) (fun _ h9 => by cases h9) dX12_frame_61 hlk
      rw [if_neg c5] at h
      by_cases c7 : v2 = (2 : Int32)
      · rw [if_pos c7] at h
        rw [c7]
        refine lv_tableIn (off := 47) (tgt := 62) hx hb dX12_frame_15 (by decide) (by decide) (by decide) (by decide) ?_
        refine lv_aload_n hx hb dX12_frame_62 rfl (lv_at hl 0 rfl) ?_
        refine gM0_92 C hK hP w1459 dX12_frame_63 ?_
        refine lv_iload_n hx hb dX12_frame_66 rfl (lv_at hl 1 rfl) ?_
        obtain ⟨n8, h⟩ := grd h
        refine aM70 (f := mq.2.2.2.1) C hK hP rfl n8 dX12_frame_67 ?_
        obtain rfl := Option.some.inj h
        exact W.iret hx hb hr (fun t ht _ => ⟨rfl, ht⟩) (fun _ h9 => by cases h9) dX12_frame_68 hlk
      rw [if_neg c7] at h
      by_cases c9 : v2 = (3 : Int32)
      · rw [if_pos c9] at h
        rw [c9]
        refine lv_tableIn (off := 54) (tgt := 69) hx hb dX12_frame_15 (by decide) (by decide) (by decide) (by decide) ?_
        refine lv_aload_n hx hb dX12_frame_69 rfl (lv_at hl 0 rfl) ?_
        refine lv_aload_n hx hb dX12_frame_70 rfl (lv_at hl 0 rfl) ?_
        refine gM0_90 C hK hP w1457 dX12_frame_71 ?_
        refine lv_iload_n hx hb dX12_frame_74 rfl (lv_at hl 1 rfl) ?_
        obtain ⟨n10, h⟩ := grd h
        refine aM68 (f := mq.2.1) C hK hP rfl n10 dX12_frame_75 ?_
        obtain ⟨q11, h12, h⟩ := bnd h
        refine cPi (run_V (rest := []) C (kX12_signsOf h12) caX12_signsOf w1895 ⟨rfl, rfl, Nat.le_of_ble_eq_true rfl, Nat.le_of_ble_eq_true rfl⟩ hK hN hP (rM0 hK hP) rfl hl.1 rfl (Nat.le_of_ble_eq_true rfl) dX12_frame_76 ⟨Nat.zero_le _, Nat.zero_le _⟩) ?_
        obtain rfl := Option.some.inj h
        exact W.iret hx hb hr (fun t ht _ => ⟨rfl, ht⟩) (fun _ h9 => by cases h9) dX12_frame_79 hlk
      rw [if_neg c9] at h
      by_cases c13 : v2 = (4 : Int32)
      · rw [if_pos c13] at h
        rw [c13]
        refine lv_tableIn (off := 65) (tgt := 80) hx hb dX12_frame_15 (by decide) (by decide) (by decide) (by decide) ?_
        refine lv_aload_n hx hb dX12_frame_80 rfl (lv_at hl 0 rfl) ?_
        refine lv_iload_n hx hb dX12_frame_81 rfl (lv_at hl 1 rfl) ?_
        obtain ⟨q14, h15, h⟩ := bnd h
        refine cPi (run_V (rest := []) C (kX12_fileOf h15) caX12_fileOf w1938 ⟨rfl, rfl, Nat.le_of_ble_eq_true rfl, Nat.le_of_ble_eq_true rfl⟩ hK hN hP (rM0 hK hP) rfl hl.1 rfl (Nat.le_of_ble_eq_true rfl) dX12_frame_82 ⟨Nat.zero_le _, Nat.zero_le _⟩) ?_
        refine lv_iconst (v := (-1 : Int32)) hx hb dX12_frame_85 (by decide) ?_
        refine lv_icmp_ne (tgt := 93) hx hb dX12_frame_86 (by decide) (fun c16 => ?_) (fun c16 => ?_)
        · rw [if_neg c16] at h
          refine lv_aload_n hx hb dX12_frame_93 rfl (lv_at hl 0 rfl) ?_
          refine gM0_76 C hK hP w1443 dX12_frame_94 ?_
          refine lv_aload_n hx hb dX12_frame_97 rfl (lv_at hl 0 rfl) ?_
          refine lv_iload_n hx hb dX12_frame_98 rfl (lv_at hl 1 rfl) ?_
          obtain ⟨q17, h18, h⟩ := bnd h
          refine cPi (run_V (rest := [.ref (ad 66)]) C (kX12_fileOf h18) caX12_fileOf w1938 ⟨rfl, rfl, Nat.le_of_ble_eq_true rfl, Nat.le_of_ble_eq_true rfl⟩ hK hN hP (rM0 hK hP) rfl hl.1 rfl (Nat.le_of_ble_eq_true rfl) dX12_frame_99 ⟨Nat.zero_le _, Nat.zero_le _⟩) ?_
          obtain ⟨n19, h⟩ := grd h
          refine aM66 (f := mf.2.2) C hK hP rfl n19 dX12_frame_102 ?_
          obtain rfl := Option.some.inj h
          exact W.iret hx hb hr (fun t ht _ => ⟨rfl, ht⟩) (fun _ h9 => by cases h9) dX12_frame_103 hlk
        · rw [if_pos c16] at h
          refine lv_iconst (v := (-1 : Int32)) hx hb dX12_frame_89 (by decide) ?_
          refine lv_goto (tgt := 103) hx hb dX12_frame_90 (by decide) ?_
          obtain rfl := Option.some.inj h
          exact W.iret hx hb hr (fun t ht _ => ⟨rfl, ht⟩) (fun _ h9 => by cases h9) dX12_frame_103 hlk
      rw [if_neg c13] at h
      refine tsw_d (tgt := 104) hx hb dX12_frame_15 [(0 : Int32), (1 : Int32), (2 : Int32), (3 : Int32), (4 : Int32)] (by simp only [List.mem_cons, List.not_mem_nil, or_false]; rintro _ (rfl | rfl | rfl | rfl | rfl) <;> assumption) (by decide +kernel) (by decide) ?_
      refine lv_iconst (v := (-1 : Int32)) hx hb dX12_frame_104 (by decide) ?_
      obtain rfl := Option.some.inj h
      exact W.iret hx hb hr (fun t ht _ => ⟨rfl, ht⟩) (fun _ h9 => by cases h9) dX12_frame_105 hlk
    · rw [if_neg c2] at h
      refine lv_iconst (v := (-1 : Int32)) hx hb dX12_frame_12 (by decide) ?_
      obtain rfl := Option.some.inj h
      exact W.iret hx hb hr (fun t ht _ => ⟨rfl, ht⟩) (fun _ h9 => by cases h9) dX12_frame_13 hlk
theorem kX12_frame  {v1 : Int32} {v2 : Int32} {q : Int32} (h : X12_frame mo mu me mf mq v1 v2 = some q) : Met l yX12_frame (.code yX12_frame cX12_frame 3 (some .int) :: WA) ({ frames := 2, cells := 0, slots := 0, locals := 45 } : Room) (va_Pc [.ref (ad 0), .int v1, .int v2] (PR D cy (GM cy ad mt mc mb mo ms mk my mu ma me mr mp mg mw mf ml mq))) (QP (some (.int q))) 0 0 (fun _ => False) :=
  met_of (by decide) (Nat.le_of_ble_eq_true rfl) (fun p e s m below meth c ls C hP hK hN hl => bX12_frame_0 C hK hN h hl hP)
def X12_sign (mb : Tmb) (mo : Tmo) (v1 : Int32) (v2 : Int32) (v3 : Int32) : Option (Int32) := (if v3 < 0 then some (-1 : Int32) else (if v3 < v2 then (if inb ((((8000 : Int32) * mo.1) + v1) + v3) 16000 = true then some (mb.1 (((((8000 : Int32) * mo.1) + v1) + v3)).toNatClampNeg) else none) else some (-1 : Int32)))
set_option maxRecDepth 20000 in
theorem bX12_sign_0 (C : Cx p s m args meth c cX12_sign 4 (some .int) RX12 (.code yX12_sign cX12_sign 4 (some .int))) (hK : va_K D vwCl (tysX cy) s) (hN : NW s)  {q : Int32}  {v1 : Int32} {v2 : Int32} {v3 : Int32} (h : X12_sign mb mo v1 v2 v3 = some q) {ls : Array Slot} (hl : lv_has ls 4 [(0, .ref (ad 0)), (1, .int v1), (2, .int v2), (3, .int v3)]) (hP : va_P D vwCl (GM cy ad mt mc mb mo ms mk my mu ma me mr mp mg mw mf ml mq) s.heap) : W p l e ({ frames := 0, cells := 0, slots := 0, locals := 0 } : Room) s m args below meth c s.heap [] 0 0 (MQ below (QP (some (.int q))) args s 0 0 (fun _ => False)) (F0 m 0 ls []) := by
  obtain ⟨hx, hb, hml, hown, hts, hr, hlk⟩ := id C
  unfold X12_sign at h
  refine lv_iload_n hx hb dX12_sign_0 rfl (lv_at hl 3 rfl) ?_
  refine lv_if_lt (tgt := 29) hx hb dX12_sign_1 (by decide) (fun c1 => ?_) (fun c1 => ?_)
  · rw [if_pos c1] at h
    refine lv_iconst (v := (-1 : Int32)) hx hb dX12_sign_29 (by decide) ?_
    obtain rfl := Option.some.inj h
    exact W.iret hx hb hr (fun t ht _ => ⟨rfl, ht⟩) (fun _ h9 => by cases h9) dX12_sign_30 hlk
  · rw [if_neg c1] at h
    refine lv_iload_n hx hb dX12_sign_4 rfl (lv_at hl 3 rfl) ?_
    refine lv_iload_n hx hb dX12_sign_5 rfl (lv_at hl 2 rfl) ?_
    refine b_icmp_ge (tgt := 29) hx hb dX12_sign_6 (by decide) (fun c2 => ?_) (fun c2 => ?_)
    · rw [if_neg c2] at h
      refine lv_iconst (v := (-1 : Int32)) hx hb dX12_sign_29 (by decide) ?_
      obtain rfl := Option.some.inj h
      exact W.iret hx hb hr (fun t ht _ => ⟨rfl, ht⟩) (fun _ h9 => by cases h9) dX12_sign_30 hlk
    · rw [if_pos c2] at h
      refine lv_aload_n hx hb dX12_sign_9 rfl (lv_at hl 0 rfl) ?_
      refine gM0_8 C hK hP w1375 dX12_sign_10 ?_
      refine lv_sipush (v := (8000 : Int32)) hx hb dX12_sign_13 (by decide) ?_
      refine lv_aload_n hx hb dX12_sign_16 rfl (lv_at hl 0 rfl) ?_
      refine gM0_7 (v := mo.1) C hK hP rfl w1374 dX12_sign_17 ?_
      refine lv_imul hx hb dX12_sign_20 ?_
      refine lv_iload_n hx hb dX12_sign_21 rfl (lv_at hl 1 rfl) ?_
      refine lv_iadd hx hb dX12_sign_22 ?_
      refine lv_iload_n hx hb dX12_sign_23 rfl (lv_at hl 3 rfl) ?_
      refine lv_iadd hx hb dX12_sign_24 ?_
      obtain ⟨n3, h⟩ := grd h
      refine aM2 (f := mb.1) C hK hP rfl n3 dX12_sign_25 ?_
      refine lv_goto (tgt := 30) hx hb dX12_sign_26 (by decide) ?_
      obtain rfl := Option.some.inj h
      exact W.iret hx hb hr (fun t ht _ => ⟨rfl, ht⟩) (fun _ h9 => by cases h9) dX12_sign_30 hlk
theorem kX12_sign  {v1 : Int32} {v2 : Int32} {v3 : Int32} {q : Int32} (h : X12_sign mb mo v1 v2 v3 = some q) : Met l yX12_sign (.code yX12_sign cX12_sign 4 (some .int) :: WA) ({ frames := 0, cells := 0, slots := 0, locals := 0 } : Room) (va_Pc [.ref (ad 0), .int v1, .int v2, .int v3] (PR D cy (GM cy ad mt mc mb mo ms mk my mu ma me mr mp mg mw mf ml mq))) (QP (some (.int q))) 0 0 (fun _ => False) :=
  met_of (by decide) (Nat.le_of_ble_eq_true rfl) (fun p e s m below meth c ls C hP hK hN hl => bX12_sign_0 C hK hN h hl hP)
def X12_name_53 (mb : Tmb) (mo : Tmo) (my : Tmy) (me : Tme) (mq : Tmq)   (v1 : Int32) (v2 : Int32) : Option (Int32) := (if v1 < 0 then some (-1 : Int32) else (if v1 < mq.1 then (if inb v1 24 = true then ((X12_named mo me (mq.2.1 (v1).toNatClampNeg)).bind fun q4 => (if q4 = (-1 : Int32) then some (-1 : Int32) else (if inb (((400 : Int32) * mo.1) + q4) 800 = true then (if inb (((400 : Int32) * mo.1) + q4) 800 = true then ((X12_sign mb mo (me.2.2.2.2.2.2.1 ((((400 : Int32) * mo.1) + q4)).toNatClampNeg) (me.2.2.2.2.2.2.2.1 ((((400 : Int32) * mo.1) + q4)).toNatClampNeg) v2).bind fun q9 => some q9) else none) else none))) else none) else some (-1 : Int32)))
set_option maxRecDepth 20000 in
theorem bX12_name_53 (C : Cx p s m args meth c cX12_name 4 (some .int) RX12 (.code yX12_name cX12_name 4 (some .int))) (hK : va_K D vwCl (tysX cy) s) (hN : NW s)  {q : Int32}  {v1 : Int32} {v2 : Int32} (h : X12_name_53 mb mo my me mq v1 v2 = some q) {ls : Array Slot} (hl : lv_has ls 4 [(0, .ref (ad 0)), (1, .int v1), (2, .int v2)]) (hP : va_P D vwCl (GM cy ad mt mc mb mo ms mk my mu ma me mr mp mg mw mf ml mq) s.heap) : W p l e ({ frames := 1, cells := 0, slots := 0, locals := 23 } : Room) s m args below meth c s.heap [] 0 0 (MQ below (QP (some (.int q))) args s 0 0 (fun _ => False)) (F0 m 53 ls []) := by
  obtain ⟨hx, hb, hml, hown, hts, hr, hlk⟩ := id C
  unfold X12_name_53 at h
  refine lv_iload_n hx hb dX12_name_53 rfl (lv_at hl 1 rfl) ?_
  refine lv_if_lt (tgt := 65) hx hb dX12_name_54 (by decide) (fun c1 => ?_) (fun c1 => ?_)
  · rw [if_pos c1] at h
    refine lv_iconst (v := (-1 : Int32)) hx hb dX12_name_65 (by decide) ?_
    obtain rfl := Option.some.inj h
    exact W.iret hx hb hr (fun t ht _ => ⟨rfl, ht⟩) (fun _ h9 => by cases h9) dX12_name_66 hlk
  · rw [if_neg c1] at h
    refine lv_iload_n hx hb dX12_name_57 rfl (lv_at hl 1 rfl) ?_
    refine lv_aload_n hx hb dX12_name_58 rfl (lv_at hl 0 rfl) ?_
    refine gM0_89 (v := mq.1) C hK hP rfl w1456 dX12_name_59 ?_
    refine lv_icmp_lt (tgt := 67) hx hb dX12_name_62 (by decide) (fun c2 => ?_) (fun c2 => ?_)
    · rw [if_pos c2] at h
      refine lv_aload_n hx hb dX12_name_67 rfl (lv_at hl 0 rfl) ?_
      refine lv_aload_n hx hb dX12_name_68 rfl (lv_at hl 0 rfl) ?_
      refine gM0_90 C hK hP w1457 dX12_name_69 ?_
      refine lv_iload_n hx hb dX12_name_72 rfl (lv_at hl 1 rfl) ?_
      obtain ⟨n3, h⟩ := grd h
      refine aM68 (f := mq.2.1) C hK hP rfl n3 dX12_name_73 ?_
      obtain ⟨q4, h5, h⟩ := bnd h
      refine cPi (run_V (rest := []) C (kX12_named h5) caX12_named w1899 ⟨rfl, rfl, Nat.le_of_ble_eq_true rfl, Nat.le_of_ble_eq_true rfl⟩ hK hN hP (rM0 hK hP) rfl hl.1 rfl (Nat.le_of_ble_eq_true rfl) dX12_name_74 ⟨Nat.zero_le _, Nat.zero_le _⟩) ?_
      refine lv_istore_n (lv' := [(3, .int q4), (0, .ref (ad 0)), (1, .int v1), (2, .int v2)]) hx hb dX12_name_77 rfl hl (by decide) rfl (fun ls hl => ?_)
      refine lv_iload_n hx hb dX12_name_78 rfl (lv_at hl 0 rfl) ?_
      refine lv_iconst (v := (-1 : Int32)) hx hb dX12_name_79 (by decide) ?_
      refine lv_icmp_ne (tgt := 87) hx hb dX12_name_80 (by decide) (fun c6 => ?_) (fun c6 => ?_)
      · rw [if_neg c6] at h
        refine lv_aload_n hx hb dX12_name_87 rfl (lv_at hl 1 rfl) ?_
        refine lv_aload_n hx hb dX12_name_88 rfl (lv_at hl 1 rfl) ?_
        refine gM0_47 C hK hP w1414 dX12_name_89 ?_
        refine lv_sipush (v := (400 : Int32)) hx hb dX12_name_92 (by decide) ?_
        refine lv_aload_n hx hb dX12_name_95 rfl (lv_at hl 1 rfl) ?_
        refine gM0_7 (v := mo.1) C hK hP rfl w1374 dX12_name_96 ?_
        refine lv_imul hx hb dX12_name_99 ?_
        refine lv_iload_n hx hb dX12_name_100 rfl (lv_at hl 0 rfl) ?_
        refine lv_iadd hx hb dX12_name_101 ?_
        obtain ⟨n7, h⟩ := grd h
        refine aM39 (f := me.2.2.2.2.2.2.1) C hK hP rfl n7 dX12_name_102 ?_
        refine lv_aload_n hx hb dX12_name_103 rfl (lv_at hl 1 rfl) ?_
        refine gM0_48 C hK hP w1415 dX12_name_104 ?_
        refine lv_sipush (v := (400 : Int32)) hx hb dX12_name_107 (by decide) ?_
        refine lv_aload_n hx hb dX12_name_110 rfl (lv_at hl 1 rfl) ?_
        refine gM0_7 (v := mo.1) C hK hP rfl w1374 dX12_name_111 ?_
        refine lv_imul hx hb dX12_name_114 ?_
        refine lv_iload_n hx hb dX12_name_115 rfl (lv_at hl 0 rfl) ?_
        refine lv_iadd hx hb dX12_name_116 ?_
        obtain ⟨n8, h⟩ := grd h
        refine aM40 (f := me.2.2.2.2.2.2.2.1) C hK hP rfl n8 dX12_name_117 ?_
        refine lv_iload_n hx hb dX12_name_118 rfl (lv_at hl 3 rfl) ?_
        obtain ⟨q9, h10, h⟩ := bnd h
        refine cPi (run_V (rest := []) C (kX12_sign h10) caX12_sign w1946 ⟨rfl, rfl, Nat.le_of_ble_eq_true rfl, Nat.le_of_ble_eq_true rfl⟩ hK hN hP (rM0 hK hP) rfl hl.1 rfl (Nat.le_of_ble_eq_true rfl) dX12_name_119 ⟨Nat.zero_le _, Nat.zero_le _⟩) ?_
        obtain rfl := Option.some.inj h
        exact W.iret hx hb hr (fun t ht _ => ⟨rfl, ht⟩) (fun _ h9 => by cases h9) dX12_name_122 hlk
      · rw [if_pos c6] at h
        refine lv_iconst (v := (-1 : Int32)) hx hb dX12_name_83 (by decide) ?_
        refine lv_goto (tgt := 122) hx hb dX12_name_84 (by decide) ?_
        obtain rfl := Option.some.inj h
        exact W.iret hx hb hr (fun t ht _ => ⟨rfl, ht⟩) (fun _ h9 => by cases h9) dX12_name_122 hlk
    · rw [if_neg c2] at h
      refine lv_iconst (v := (-1 : Int32)) hx hb dX12_name_65 (by decide) ?_
      obtain rfl := Option.some.inj h
      exact W.iret hx hb hr (fun t ht _ => ⟨rfl, ht⟩) (fun _ h9 => by cases h9) dX12_name_66 hlk
def X12_name (mb : Tmb) (mo : Tmo) (my : Tmy) (me : Tme) (mq : Tmq) (v1 : Int32) (v2 : Int32) : Option (Int32) := (if v1 = (-1 : Int32) then (if mq.2.2.2.2.1 = (-1 : Int32) then X12_name_53 mb mo my me mq v1 v2 else (if inb (((100 : Int32) * mo.1) + mq.2.2.2.2.1) 200 = true then (if inb (((100 : Int32) * mo.1) + mq.2.2.2.2.1) 200 = true then ((X12_sign mb mo (my.2.2.2.1 ((((100 : Int32) * mo.1) + mq.2.2.2.2.1)).toNatClampNeg) (my.2.2.2.2 ((((100 : Int32) * mo.1) + mq.2.2.2.2.1)).toNatClampNeg) v2).bind fun q5 => some q5) else none) else none)) else X12_name_53 mb mo my me mq v1 v2)
set_option maxRecDepth 20000 in
theorem bX12_name_0 (C : Cx p s m args meth c cX12_name 4 (some .int) RX12 (.code yX12_name cX12_name 4 (some .int))) (hK : va_K D vwCl (tysX cy) s) (hN : NW s)  {q : Int32}  {v1 : Int32} {v2 : Int32} (h : X12_name mb mo my me mq v1 v2 = some q) {ls : Array Slot} (hl : lv_has ls 4 [(0, .ref (ad 0)), (1, .int v1), (2, .int v2)]) (hP : va_P D vwCl (GM cy ad mt mc mb mo ms mk my mu ma me mr mp mg mw mf ml mq) s.heap) : W p l e ({ frames := 1, cells := 0, slots := 0, locals := 23 } : Room) s m args below meth c s.heap [] 0 0 (MQ below (QP (some (.int q))) args s 0 0 (fun _ => False)) (F0 m 0 ls []) := by
  obtain ⟨hx, hb, hml, hown, hts, hr, hlk⟩ := id C
  unfold X12_name at h
  refine lv_iload_n hx hb dX12_name_0 rfl (lv_at hl 1 rfl) ?_
  refine lv_iconst (v := (-1 : Int32)) hx hb dX12_name_1 (by decide) ?_
  refine lv_icmp_ne (tgt := 53) hx hb dX12_name_2 (by decide) (fun c1 => ?_) (fun c1 => ?_)
  · rw [if_neg c1] at h
    exact bX12_name_53 C hK hN h (lv_sub hl [0, 1, 2] rfl) hP
  · rw [if_pos c1] at h
    refine lv_aload_n hx hb dX12_name_5 rfl (lv_at hl 0 rfl) ?_
    refine gM0_93 (v := mq.2.2.2.2.1) C hK hP rfl w1460 dX12_name_6 ?_
    refine lv_iconst (v := (-1 : Int32)) hx hb dX12_name_9 (by decide) ?_
    refine lv_icmp_eq (tgt := 53) hx hb dX12_name_10 (by decide) (fun c2 => ?_) (fun c2 => ?_)
    · rw [if_pos c2] at h
      exact bX12_name_53 C hK hN h (lv_sub hl [0, 1, 2] rfl) hP
    · rw [if_neg c2] at h
      refine lv_aload_n hx hb dX12_name_13 rfl (lv_at hl 0 rfl) ?_
      refine lv_aload_n hx hb dX12_name_14 rfl (lv_at hl 0 rfl) ?_
      refine gM0_26 C hK hP w1393 dX12_name_15 ?_
      refine lv_bipush (v := (100 : Int32)) hx hb dX12_name_18 (by decide) ?_
      refine lv_aload_n hx hb dX12_name_20 rfl (lv_at hl 0 rfl) ?_
      refine gM0_7 (v := mo.1) C hK hP rfl w1374 dX12_name_21 ?_
      refine lv_imul hx hb dX12_name_24 ?_
      refine lv_aload_n hx hb dX12_name_25 rfl (lv_at hl 0 rfl) ?_
      refine gM0_93 (v := mq.2.2.2.2.1) C hK hP rfl w1460 dX12_name_26 ?_
      refine lv_iadd hx hb dX12_name_29 ?_
      obtain ⟨n3, h⟩ := grd h
      refine aM19 (f := my.2.2.2.1) C hK hP rfl n3 dX12_name_30 ?_
      refine lv_aload_n hx hb dX12_name_31 rfl (lv_at hl 0 rfl) ?_
      refine gM0_27 C hK hP w1394 dX12_name_32 ?_
      refine lv_bipush (v := (100 : Int32)) hx hb dX12_name_35 (by decide) ?_
      refine lv_aload_n hx hb dX12_name_37 rfl (lv_at hl 0 rfl) ?_
      refine gM0_7 (v := mo.1) C hK hP rfl w1374 dX12_name_38 ?_
      refine lv_imul hx hb dX12_name_41 ?_
      refine lv_aload_n hx hb dX12_name_42 rfl (lv_at hl 0 rfl) ?_
      refine gM0_93 (v := mq.2.2.2.2.1) C hK hP rfl w1460 dX12_name_43 ?_
      refine lv_iadd hx hb dX12_name_46 ?_
      obtain ⟨n4, h⟩ := grd h
      refine aM20 (f := my.2.2.2.2) C hK hP rfl n4 dX12_name_47 ?_
      refine lv_iload_n hx hb dX12_name_48 rfl (lv_at hl 2 rfl) ?_
      obtain ⟨q5, h6, h⟩ := bnd h
      refine cPi (run_V (rest := []) C (kX12_sign h6) caX12_sign w1946 ⟨rfl, rfl, Nat.le_of_ble_eq_true rfl, Nat.le_of_ble_eq_true rfl⟩ hK hN hP (rM0 hK hP) rfl hl.1 rfl (Nat.le_of_ble_eq_true rfl) dX12_name_49 ⟨Nat.zero_le _, Nat.zero_le _⟩) ?_
      obtain rfl := Option.some.inj h
      exact W.iret hx hb hr (fun t ht _ => ⟨rfl, ht⟩) (fun _ h9 => by cases h9) dX12_name_52 hlk
theorem kX12_name  {v1 : Int32} {v2 : Int32} {q : Int32} (h : X12_name mb mo my me mq v1 v2 = some q) : Met l yX12_name (.code yX12_name cX12_name 4 (some .int) :: WA) ({ frames := 1, cells := 0, slots := 0, locals := 23 } : Room) (va_Pc [.ref (ad 0), .int v1, .int v2] (PR D cy (GM cy ad mt mc mb mo ms mk my mu ma me mr mp mg mw mf ml mq))) (QP (some (.int q))) 0 0 (fun _ => False) :=
  met_of (by decide) (Nat.le_of_ble_eq_true rfl) (fun p e s m below meth c ls C hP hK hN hl => bX12_name_0 C hK hN h hl hP)
def X12_file (mb : Tmb) (mo : Tmo) (mu : Tmu) (me : Tme) (mf : Tmf) (mq : Tmq) (v1 : Int32) (v2 : Int32) : Option (Int32) := (if v1 < 0 then some (-1 : Int32) else (if v1 < mq.1 then ((X12_fileOf mo mu me mq v1).bind fun q3 => (if q3 = (-1 : Int32) then some (-1 : Int32) else ((X12_fileOf mo mu me mq v1).bind fun q6 => (if inb q6 80 = true then ((X12_fileOf mo mu me mq v1).bind fun q9 => (if inb q9 80 = true then ((X12_sign mb mo (mf.2.1 (q6).toNatClampNeg) (mf.2.2 (q9).toNatClampNeg) v2).bind fun q12 => some q12) else none)) else none)))) else some (-1 : Int32)))
set_option maxRecDepth 20000 in
theorem bX12_file_0 (C : Cx p s m args meth c cX12_file 3 (some .int) RX12 (.code yX12_file cX12_file 3 (some .int))) (hK : va_K D vwCl (tysX cy) s) (hN : NW s)  {q : Int32}  {v1 : Int32} {v2 : Int32} (h : X12_file mb mo mu me mf mq v1 v2 = some q) {ls : Array Slot} (hl : lv_has ls 3 [(0, .ref (ad 0)), (1, .int v1), (2, .int v2)]) (hP : va_P D vwCl (GM cy ad mt mc mb mo ms mk my mu ma me mr mp mg mw mf ml mq) s.heap) : W p l e ({ frames := 1, cells := 0, slots := 0, locals := 23 } : Room) s m args below meth c s.heap [] 0 0 (MQ below (QP (some (.int q))) args s 0 0 (fun _ => False)) (F0 m 0 ls []) := by
  obtain ⟨hx, hb, hml, hown, hts, hr, hlk⟩ := id C
  unfold X12_file at h
  refine lv_iload_n hx hb dX12_file_0 rfl (lv_at hl 1 rfl) ?_
  refine lv_if_lt (tgt := 21) hx hb dX12_file_1 (by decide) (fun c1 => ?_) (fun c1 => ?_)
  · rw [if_pos c1] at h
    refine lv_iconst (v := (-1 : Int32)) hx hb dX12_file_21 (by decide) ?_
    obtain rfl := Option.some.inj h
    exact W.iret hx hb hr (fun t ht _ => ⟨rfl, ht⟩) (fun _ h9 => by cases h9) dX12_file_22 hlk
  · rw [if_neg c1] at h
    refine lv_iload_n hx hb dX12_file_4 rfl (lv_at hl 1 rfl) ?_
    refine lv_aload_n hx hb dX12_file_5 rfl (lv_at hl 0 rfl) ?_
    refine gM0_89 (v := mq.1) C hK hP rfl w1456 dX12_file_6 ?_
    refine b_icmp_ge (tgt := 21) hx hb dX12_file_9 (by decide) (fun c2 => ?_) (fun c2 => ?_)
    · rw [if_neg c2] at h
      refine lv_iconst (v := (-1 : Int32)) hx hb dX12_file_21 (by decide) ?_
      obtain rfl := Option.some.inj h
      exact W.iret hx hb hr (fun t ht _ => ⟨rfl, ht⟩) (fun _ h9 => by cases h9) dX12_file_22 hlk
    · rw [if_pos c2] at h
      refine lv_aload_n hx hb dX12_file_12 rfl (lv_at hl 0 rfl) ?_
      refine lv_iload_n hx hb dX12_file_13 rfl (lv_at hl 1 rfl) ?_
      obtain ⟨q3, h4, h⟩ := bnd h
      refine cPi (run_V (rest := []) C (kX12_fileOf h4) caX12_fileOf w1938 ⟨rfl, rfl, Nat.le_of_ble_eq_true rfl, Nat.le_of_ble_eq_true rfl⟩ hK hN hP (rM0 hK hP) rfl hl.1 rfl (Nat.le_of_ble_eq_true rfl) dX12_file_14 ⟨Nat.zero_le _, Nat.zero_le _⟩) ?_
      refine lv_iconst (v := (-1 : Int32)) hx hb dX12_file_17 (by decide) ?_
      refine lv_icmp_ne (tgt := 23) hx hb dX12_file_18 (by decide) (fun c5 => ?_) (fun c5 => ?_)
      · rw [if_neg c5] at h
        refine lv_aload_n hx hb dX12_file_23 rfl (lv_at hl 0 rfl) ?_
        refine lv_aload_n hx hb dX12_file_24 rfl (lv_at hl 0 rfl) ?_
        refine gM0_75 C hK hP w1442 dX12_file_25 ?_
        refine lv_aload_n hx hb dX12_file_28 rfl (lv_at hl 0 rfl) ?_
        refine lv_iload_n hx hb dX12_file_29 rfl (lv_at hl 1 rfl) ?_
        obtain ⟨q6, h7, h⟩ := bnd h
        refine cPi (run_V (rest := [.ref (ad 65), .ref (ad 0)]) C (kX12_fileOf h7) caX12_fileOf w1938 ⟨rfl, rfl, Nat.le_of_ble_eq_true rfl, Nat.le_of_ble_eq_true rfl⟩ hK hN hP (rM0 hK hP) rfl hl.1 rfl (Nat.le_of_ble_eq_true rfl) dX12_file_30 ⟨Nat.zero_le _, Nat.zero_le _⟩) ?_
        obtain ⟨n8, h⟩ := grd h
        refine aM65 (f := mf.2.1) C hK hP rfl n8 dX12_file_33 ?_
        refine lv_aload_n hx hb dX12_file_34 rfl (lv_at hl 0 rfl) ?_
        refine gM0_76 C hK hP w1443 dX12_file_35 ?_
        refine lv_aload_n hx hb dX12_file_38 rfl (lv_at hl 0 rfl) ?_
        refine lv_iload_n hx hb dX12_file_39 rfl (lv_at hl 1 rfl) ?_
        obtain ⟨q9, h10, h⟩ := bnd h
        refine cPi (run_V (rest := [.ref (ad 66), .int (mf.2.1 (q6).toNatClampNeg), .ref (ad 0)]) C (kX12_fileOf h10) caX12_fileOf w1938 ⟨rfl, rfl, Nat.le_of_ble_eq_true rfl, Nat.le_of_ble_eq_true rfl⟩ hK hN hP (rM0 hK hP) rfl hl.1 rfl (Nat.le_of_ble_eq_true rfl) dX12_file_40 ⟨Nat.zero_le _, Nat.zero_le _⟩) ?_
        obtain ⟨n11, h⟩ := grd h
        refine aM66 (f := mf.2.2) C hK hP rfl n11 dX12_file_43 ?_
        refine lv_iload_n hx hb dX12_file_44 rfl (lv_at hl 2 rfl) ?_
        obtain ⟨q12, h13, h⟩ := bnd h
        refine cPi (run_V (rest := []) C (kX12_sign h13) caX12_sign w1946 ⟨rfl, rfl, Nat.le_of_ble_eq_true rfl, Nat.le_of_ble_eq_true rfl⟩ hK hN hP (rM0 hK hP) rfl hl.1 rfl (Nat.le_of_ble_eq_true rfl) dX12_file_45 ⟨Nat.zero_le _, Nat.zero_le _⟩) ?_
        obtain rfl := Option.some.inj h
        exact W.iret hx hb hr (fun t ht _ => ⟨rfl, ht⟩) (fun _ h9 => by cases h9) dX12_file_48 hlk
      · rw [if_pos c5] at h
        refine lv_iconst (v := (-1 : Int32)) hx hb dX12_file_21 (by decide) ?_
        obtain rfl := Option.some.inj h
        exact W.iret hx hb hr (fun t ht _ => ⟨rfl, ht⟩) (fun _ h9 => by cases h9) dX12_file_22 hlk
theorem kX12_file  {v1 : Int32} {v2 : Int32} {q : Int32} (h : X12_file mb mo mu me mf mq v1 v2 = some q) : Met l yX12_file (.code yX12_file cX12_file 3 (some .int) :: WA) ({ frames := 1, cells := 0, slots := 0, locals := 23 } : Room) (va_Pc [.ref (ad 0), .int v1, .int v2] (PR D cy (GM cy ad mt mc mb mo ms mk my mu ma me mr mp mg mw mf ml mq))) (QP (some (.int q))) 0 0 (fun _ => False) :=
  met_of (by decide) (Nat.le_of_ble_eq_true rfl) (fun p e s m below meth c ls C hP hK hN hl => bX12_file_0 C hK hN h hl hP)
def X12_symbol (mo : Tmo) (my : Tmy) (mq : Tmq) (v1 : Int32) : Option (Int32) := (if mq.2.2.2.2.1 = (-1 : Int32) then some (-1 : Int32) else (if v1 = 0 then some mq.2.2.2.2.1 else (if v1 = (1 : Int32) then (if inb (((100 : Int32) * mo.1) + mq.2.2.2.2.1) 200 = true then some (my.2.2.2.2 ((((100 : Int32) * mo.1) + mq.2.2.2.2.1)).toNatClampNeg) else none) else (if v1 = (2 : Int32) then some mq.2.2.2.2.2 else some (-1 : Int32)))))
set_option maxRecDepth 20000 in
theorem bX12_symbol_0 (C : Cx p s m args meth c cX12_symbol 2 (some .int) RX12 (.code yX12_symbol cX12_symbol 2 (some .int))) (hK : va_K D vwCl (tysX cy) s) (hN : NW s)  {q : Int32}  {v1 : Int32} (h : X12_symbol mo my mq v1 = some q) {ls : Array Slot} (hl : lv_has ls 2 [(0, .ref (ad 0)), (1, .int v1)]) (hP : va_P D vwCl (GM cy ad mt mc mb mo ms mk my mu ma me mr mp mg mw mf ml mq) s.heap) : W p l e ({ frames := 0, cells := 0, slots := 0, locals := 0 } : Room) s m args below meth c s.heap [] 0 0 (MQ below (QP (some (.int q))) args s 0 0 (fun _ => False)) (F0 m 0 ls []) := by
  obtain ⟨hx, hb, hml, hown, hts, hr, hlk⟩ := id C
  unfold X12_symbol at h
  refine lv_aload_n hx hb dX12_symbol_0 rfl (lv_at hl 0 rfl) ?_
  refine gM0_93 (v := mq.2.2.2.2.1) C hK hP rfl w1460 dX12_symbol_1 ?_
  refine lv_iconst (v := (-1 : Int32)) hx hb dX12_symbol_4 (by decide) ?_
  refine lv_icmp_ne (tgt := 10) hx hb dX12_symbol_5 (by decide) (fun c1 => ?_) (fun c1 => ?_)
  · rw [if_neg c1] at h
    refine lv_iload_n hx hb dX12_symbol_10 rfl (lv_at hl 1 rfl) ?_
    refine lv_if_ne (tgt := 21) hx hb dX12_symbol_11 (by decide) (fun c2 => ?_) (fun c2 => ?_)
    · rw [if_neg c2] at h
      refine lv_iload_n hx hb dX12_symbol_21 rfl (lv_at hl 1 rfl) ?_
      refine lv_iconst (v := (1 : Int32)) hx hb dX12_symbol_22 (by decide) ?_
      refine lv_icmp_ne (tgt := 46) hx hb dX12_symbol_23 (by decide) (fun c3 => ?_) (fun c3 => ?_)
      · rw [if_neg c3] at h
        refine lv_iload_n hx hb dX12_symbol_46 rfl (lv_at hl 1 rfl) ?_
        refine lv_iconst (v := (2 : Int32)) hx hb dX12_symbol_47 (by decide) ?_
        refine lv_icmp_ne (tgt := 58) hx hb dX12_symbol_48 (by decide) (fun c4 => ?_) (fun c4 => ?_)
        · rw [if_neg c4] at h
          refine lv_iconst (v := (-1 : Int32)) hx hb dX12_symbol_58 (by decide) ?_
          obtain rfl := Option.some.inj h
          exact W.iret hx hb hr (fun t ht _ => ⟨rfl, ht⟩) (fun _ h9 => by cases h9) dX12_symbol_59 hlk
        · rw [if_pos c4] at h
          refine lv_aload_n hx hb dX12_symbol_51 rfl (lv_at hl 0 rfl) ?_
          refine gM0_94 (v := mq.2.2.2.2.2) C hK hP rfl w1461 dX12_symbol_52 ?_
          refine lv_goto (tgt := 59) hx hb dX12_symbol_55 (by decide) ?_
          obtain rfl := Option.some.inj h
          exact W.iret hx hb hr (fun t ht _ => ⟨rfl, ht⟩) (fun _ h9 => by cases h9) dX12_symbol_59 hlk
      · rw [if_pos c3] at h
        refine lv_aload_n hx hb dX12_symbol_26 rfl (lv_at hl 0 rfl) ?_
        refine gM0_27 C hK hP w1394 dX12_symbol_27 ?_
        refine lv_bipush (v := (100 : Int32)) hx hb dX12_symbol_30 (by decide) ?_
        refine lv_aload_n hx hb dX12_symbol_32 rfl (lv_at hl 0 rfl) ?_
        refine gM0_7 (v := mo.1) C hK hP rfl w1374 dX12_symbol_33 ?_
        refine lv_imul hx hb dX12_symbol_36 ?_
        refine lv_aload_n hx hb dX12_symbol_37 rfl (lv_at hl 0 rfl) ?_
        refine gM0_93 (v := mq.2.2.2.2.1) C hK hP rfl w1460 dX12_symbol_38 ?_
        refine lv_iadd hx hb dX12_symbol_41 ?_
        obtain ⟨n5, h⟩ := grd h
        refine aM20 (f := my.2.2.2.2) C hK hP rfl n5 dX12_symbol_42 ?_
        refine lv_goto (tgt := 59) hx hb dX12_symbol_43 (by decide) ?_
        obtain rfl := Option.some.inj h
        exact W.iret hx hb hr (fun t ht _ => ⟨rfl, ht⟩) (fun _ h9 => by cases h9) dX12_symbol_59 hlk
    · rw [if_pos c2] at h
      refine lv_aload_n hx hb dX12_symbol_14 rfl (lv_at hl 0 rfl) ?_
      refine gM0_93 (v := mq.2.2.2.2.1) C hK hP rfl w1460 dX12_symbol_15 ?_
      refine lv_goto (tgt := 59) hx hb dX12_symbol_18 (by decide) ?_
      obtain rfl := Option.some.inj h
      exact W.iret hx hb hr (fun t ht _ => ⟨rfl, ht⟩) (fun _ h9 => by cases h9) dX12_symbol_59 hlk
  · rw [if_pos c1] at h
    refine lv_iconst (v := (-1 : Int32)) hx hb dX12_symbol_8 (by decide) ?_
    obtain rfl := Option.some.inj h
    exact W.iret hx hb hr (fun t ht _ => ⟨rfl, ht⟩) (fun _ h9 => by cases h9) dX12_symbol_9 hlk
theorem kX12_symbol  {v1 : Int32} {q : Int32} (h : X12_symbol mo my mq v1 = some q) : Met l yX12_symbol (.code yX12_symbol cX12_symbol 2 (some .int) :: WA) ({ frames := 0, cells := 0, slots := 0, locals := 0 } : Room) (va_Pc [.ref (ad 0), .int v1] (PR D cy (GM cy ad mt mc mb mo ms mk my mu ma me mr mp mg mw mf ml mq))) (QP (some (.int q))) 0 0 (fun _ => False) :=
  met_of (by decide) (Nat.le_of_ble_eq_true rfl) (fun p e s m below meth c ls C hP hK hN hl => bX12_symbol_0 C hK hN h hl hP)
def X12_count (mt : Tmt) (mo : Tmo) (ms : Tms) (my : Tmy) (mu : Tmu) (me : Tme) (mg : Tmg) (mw : Tmw) (mf : Tmf) (v1 : Int32) : Option (Int32) := (if v1 = (0 : Int32) then some mt.2 else (if v1 = (1 : Int32) then (if inb mo.1 2 = true then some (ms.1 (mo.1).toNatClampNeg) else none) else (if v1 = (2 : Int32) then (if inb mo.1 2 = true then some (my.1 (mo.1).toNatClampNeg) else none) else (if v1 = (3 : Int32) then (if inb mo.1 2 = true then some (mu.1 (mo.1).toNatClampNeg) else none) else (if v1 = (4 : Int32) then (if inb mo.1 2 = true then some (me.1 (mo.1).toNatClampNeg) else none) else (if v1 = (5 : Int32) then (if inb mo.1 2 = true then some (mg.1 (mo.1).toNatClampNeg) else none) else (if v1 = (6 : Int32) then (if inb mo.1 2 = true then some (mw.1 (mo.1).toNatClampNeg) else none) else (if v1 = (7 : Int32) then (if inb mo.1 2 = true then some (mf.1 (mo.1).toNatClampNeg) else none) else some (-1 : Int32)))))))))
set_option maxRecDepth 20000 in
theorem bX12_count_0 (C : Cx p s m args meth c cX12_count 2 (some .int) RX12 (.code yX12_count cX12_count 2 (some .int))) (hK : va_K D vwCl (tysX cy) s) (hN : NW s)  {q : Int32}  {v1 : Int32} (h : X12_count mt mo ms my mu me mg mw mf v1 = some q) {ls : Array Slot} (hl : lv_has ls 2 [(0, .ref (ad 0)), (1, .int v1)]) (hP : va_P D vwCl (GM cy ad mt mc mb mo ms mk my mu ma me mr mp mg mw mf ml mq) s.heap) : W p l e ({ frames := 0, cells := 0, slots := 0, locals := 0 } : Room) s m args below meth c s.heap [] 0 0 (MQ below (QP (some (.int q))) args s 0 0 (fun _ => False)) (F0 m 0 ls []) := by
  obtain ⟨hx, hb, hml, hown, hts, hr, hlk⟩ := id C
  unfold X12_count at h
  refine lv_iload_n hx hb dX12_count_0 rfl (lv_at hl 1 rfl) ?_
  by_cases c1 : v1 = (0 : Int32)
  · rw [if_pos c1] at h
    rw [c1]
    refine lv_tableIn (off := 47) (tgt := 48) hx hb dX12_count_1 (by decide) (by decide) (by decide) (by decide) ?_
    refine lv_aload_n hx hb dX12_count_48 rfl (lv_at hl 0 rfl) ?_
    refine gM0_1 (v := mt.2) C hK hP rfl w1368 dX12_count_49 ?_
    obtain rfl := Option.some.inj h
    exact W.iret hx hb hr (fun t ht _ => ⟨rfl, ht⟩) (fun _ h9 => by cases h9) dX12_count_52 hlk
  rw [if_neg c1] at h
  by_cases c2 : v1 = (1 : Int32)
  · rw [if_pos c2] at h
    rw [c2]
    refine lv_tableIn (off := 52) (tgt := 53) hx hb dX12_count_1 (by decide) (by decide) (by decide) (by decide) ?_
    refine lv_aload_n hx hb dX12_count_53 rfl (lv_at hl 0 rfl) ?_
    refine gM0_10 C hK hP w1377 dX12_count_54 ?_
    refine lv_aload_n hx hb dX12_count_57 rfl (lv_at hl 0 rfl) ?_
    refine gM0_7 (v := mo.1) C hK hP rfl w1374 dX12_count_58 ?_
    obtain ⟨n3, h⟩ := grd h
    refine aM3 (f := ms.1) C hK hP rfl n3 dX12_count_61 ?_
    obtain rfl := Option.some.inj h
    exact W.iret hx hb hr (fun t ht _ => ⟨rfl, ht⟩) (fun _ h9 => by cases h9) dX12_count_62 hlk
  rw [if_neg c2] at h
  by_cases c4 : v1 = (2 : Int32)
  · rw [if_pos c4] at h
    rw [c4]
    refine lv_tableIn (off := 62) (tgt := 63) hx hb dX12_count_1 (by decide) (by decide) (by decide) (by decide) ?_
    refine lv_aload_n hx hb dX12_count_63 rfl (lv_at hl 0 rfl) ?_
    refine gM0_11 C hK hP w1378 dX12_count_64 ?_
    refine lv_aload_n hx hb dX12_count_67 rfl (lv_at hl 0 rfl) ?_
    refine gM0_7 (v := mo.1) C hK hP rfl w1374 dX12_count_68 ?_
    obtain ⟨n5, h⟩ := grd h
    refine aM4 (f := my.1) C hK hP rfl n5 dX12_count_71 ?_
    obtain rfl := Option.some.inj h
    exact W.iret hx hb hr (fun t ht _ => ⟨rfl, ht⟩) (fun _ h9 => by cases h9) dX12_count_72 hlk
  rw [if_neg c4] at h
  by_cases c6 : v1 = (3 : Int32)
  · rw [if_pos c6] at h
    rw [c6]
    refine lv_tableIn (off := 72) (tgt := 73) hx hb dX12_count_1 (by decide) (by decide) (by decide) (by decide) ?_
    refine lv_aload_n hx hb dX12_count_73 rfl (lv_at hl 0 rfl) ?_
    refine gM0_12 C hK hP w1379 dX12_count_74 ?_
    refine lv_aload_n hx hb dX12_count_77 rfl (lv_at hl 0 rfl) ?_
    refine gM0_7 (v := mo.1) C hK hP rfl w1374 dX12_count_78 ?_
    obtain ⟨n7, h⟩ := grd h
    refine aM5 (f := mu.1) C hK hP rfl n7 dX12_count_81 ?_
    obtain rfl := Option.some.inj h
    exact W.iret hx hb hr (fun t ht _ => ⟨rfl, ht⟩) (fun _ h9 => by cases h9) dX12_count_82 hlk
  rw [if_neg c6] at h
  by_cases c8 : v1 = (4 : Int32)
  · rw [if_pos c8] at h
    rw [c8]
    refine lv_tableIn (off := 82) (tgt := 83) hx hb dX12_count_1 (by decide) (by decide) (by decide) (by decide) ?_
    refine lv_aload_n hx hb dX12_count_83 rfl (lv_at hl 0 rfl) ?_
    refine gM0_13 C hK hP w1380 dX12_count_84 ?_
    refine lv_aload_n hx hb dX12_count_87 rfl (lv_at hl 0 rfl) ?_
    refine gM0_7 (v := mo.1) C hK hP rfl w1374 dX12_count_88 ?_
    obtain ⟨n9, h⟩ := grd h
    refine aM6 (f := me.1) C hK hP rfl n9 dX12_count_91 ?_
    obtain rfl := Option.some.inj h
    exact W.iret hx hb hr (fun t ht _ => ⟨rfl, ht⟩) (fun _ h9 => by cases h9) dX12_count_92 hlk
  rw [if_neg c8] at h
  by_cases c10 : v1 = (5 : Int32)
  · rw [if_pos c10] at h
    rw [c10]
    refine lv_tableIn (off := 92) (tgt := 93) hx hb dX12_count_1 (by decide) (by decide) (by decide) (by decide) ?_
    refine lv_aload_n hx hb dX12_count_93 rfl (lv_at hl 0 rfl) ?_
    refine gM0_14 C hK hP w1381 dX12_count_94 ?_
    refine lv_aload_n hx hb dX12_count_97 rfl (lv_at hl 0 rfl) ?_
    refine gM0_7 (v := mo.1) C hK hP rfl w1374 dX12_count_98 ?_
    obtain ⟨n11, h⟩ := grd h
    refine aM7 (f := mg.1) C hK hP rfl n11 dX12_count_101 ?_
    obtain rfl := Option.some.inj h
    exact W.iret hx hb hr (fun t ht _ => ⟨rfl, ht⟩) (fun _ h9 => by cases h9) dX12_count_102 hlk
  rw [if_neg c10] at h
  by_cases c12 : v1 = (6 : Int32)
  · rw [if_pos c12] at h
    rw [c12]
    refine lv_tableIn (off := 102) (tgt := 103) hx hb dX12_count_1 (by decide) (by decide) (by decide) (by decide) ?_
    refine lv_aload_n hx hb dX12_count_103 rfl (lv_at hl 0 rfl) ?_
    refine gM0_15 C hK hP w1382 dX12_count_104 ?_
    refine lv_aload_n hx hb dX12_count_107 rfl (lv_at hl 0 rfl) ?_
    refine gM0_7 (v := mo.1) C hK hP rfl w1374 dX12_count_108 ?_
    obtain ⟨n13, h⟩ := grd h
    refine aM8 (f := mw.1) C hK hP rfl n13 dX12_count_111 ?_
    obtain rfl := Option.some.inj h
    exact W.iret hx hb hr (fun t ht _ => ⟨rfl, ht⟩) (fun _ h9 => by cases h9) dX12_count_112 hlk
  rw [if_neg c12] at h
  by_cases c14 : v1 = (7 : Int32)
  · rw [if_pos c14] at h
    rw [c14]
    refine lv_tableIn (off := 112) (tgt := 113) hx hb dX12_count_1 (by decide) (by decide) (by decide) (by decide) ?_
    refine lv_aload_n hx hb dX12_count_113 rfl (lv_at hl 0 rfl) ?_
    refine gM0_16 C hK hP w1383 dX12_count_114 ?_
    refine lv_aload_n hx hb dX12_count_117 rfl (lv_at hl 0 rfl) ?_
    refine gM0_7 (v := mo.1) C hK hP rfl w1374 dX12_count_118 ?_
    obtain ⟨n15, h⟩ := grd h
    refine aM9 (f := mf.1) C hK hP rfl n15 dX12_count_121 ?_
    obtain rfl := Option.some.inj h
    exact W.iret hx hb hr (fun t ht _ => ⟨rfl, ht⟩) (fun _ h9 => by cases h9) dX12_count_122 hlk
  rw [if_neg c14] at h
  refine tsw_d (tgt := 123) hx hb dX12_count_1 [(0 : Int32), (1 : Int32), (2 : Int32), (3 : Int32), (4 : Int32), (5 : Int32), (6 : Int32), (7 : Int32)] (by simp only [List.mem_cons, List.not_mem_nil, or_false]; rintro _ (rfl | rfl | rfl | rfl | rfl | rfl | rfl | rfl) <;> assumption) (by decide +kernel) (by decide) ?_
  refine lv_iconst (v := (-1 : Int32)) hx hb dX12_count_123 (by decide) ?_
  obtain rfl := Option.some.inj h
  exact W.iret hx hb hr (fun t ht _ => ⟨rfl, ht⟩) (fun _ h9 => by cases h9) dX12_count_124 hlk
theorem kX12_count  {v1 : Int32} {q : Int32} (h : X12_count mt mo ms my mu me mg mw mf v1 = some q) : Met l yX12_count (.code yX12_count cX12_count 2 (some .int) :: WA) ({ frames := 0, cells := 0, slots := 0, locals := 0 } : Room) (va_Pc [.ref (ad 0), .int v1] (PR D cy (GM cy ad mt mc mb mo ms mk my mu ma me mr mp mg mw mf ml mq))) (QP (some (.int q))) 0 0 (fun _ => False) :=
  met_of (by decide) (Nat.le_of_ble_eq_true rfl) (fun p e s m below meth c ls C hP hK hN hl => bX12_count_0 C hK hN h hl hP)
end
