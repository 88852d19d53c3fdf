section
variable {p : Program} {l : Launch} {e : Env} {s : State} {m : MethodId} {args : Array Value} {below : List Frame} {meth : Method} {c : Code} {H : Heap} {locs : List Loc} {Q : State → Prop} {D : va_G} {cy : Nat → ClassId} {t adK adV : Nat → Nat} {x0 : Cond}
def OK_feed (I9 : TX → TM → Prop) (nm : Tnm) (tp : Ttp) (kp : Tkp) (cu : Tcu) (se : Tse) (ur : Tur) (ab : Tab) (lo : Tlo) (im : Tim) (sy : Tsy) (un : Tun) (en : Ten) (ra : Tra) (li : Tli) (i2 : Ti2) (mt : Tmt) (mc : Tmc) (mb : Tmb) (mo : Tmo) (ms : Tms) (mk : Tmk) (my : Tmy) (mu : Tmu) (ma : Tma) (me : Tme) (mr : Tmr) (mp : Tmp) (mg : Tmg) (mw : Tmw) (mf : Tmf) (ml : Tml) (mq : Tmq) : Prop := ∀ (a0 : Int32) (a1 : Int32) (a2 : Int32) (a3 : Int32) (a4 : Int32), ∃ (q : Int32 × Tnm × Ttp) (q' : Int32 × Tmt), X11_feed nm tp a0 a1 a2 a3 a4 = some q ∧ X12_feed mt a0 a1 a2 a3 a4 = some q' ∧ I9 (q.2.1, q.2.2, kp, cu, se, ur, ab, lo, im, sy, un, en, ra, li, i2) (q'.2, mc, mb, mo, ms, mk, my, mu, ma, me, mr, mp, mg, mw, mf, ml, mq)
set_option maxRecDepth 20000 in
theorem law_feed {b L i : Nat} {xs : Nat → Int32} {x3 : Int32} {r1 r2 : Nat} {I9 : TX → TM → Prop} {nm : Tnm} {tp : Ttp} {kp : Tkp} {cu : Tcu} {se : Tse} {ur : Tur} {ab : Tab} {lo : Tlo} {im : Tim} {sy : Tsy} {un : Tun} {en : Ten} {ra : Tra} {li : Tli} {i2 : Ti2} {mt : Tmt} {mc : Tmc} {mb : Tmb} {mo : Tmo} {ms : Tms} {mk : Tmk} {my : Tmy} {mu : Tmu} {ma : Tma} {me : Tme} {mr : Tmr} {mp : Tmp} {mg : Tmg} {mw : Tmw} {mf : Tmf} {ml : Tml} {mq : Tmq} (C : Cx p s m args meth c cL_law 4 (some .boolean) RL x0) (hK : va_K D vwCl (tysX cy) s) (hN : NW s) (hF : SF t adK adV (fun q => s.heap.size ≤ q) s s.heap) (hX : va_X b L xs s s.heap) (hbl : b < s.heap.size) (hiL : i + 6 ≤ L) (hL : L < 2 ^ 31) (e3 : x3 = nI i) (hW : LW D cy r1 r2 (nm, tp, kp, cu, se, ur, ab, lo, im, sy, un, en, ra, li, i2) (mt, mc, mb, mo, ms, mk, my, mu, ma, me, mr, mp, mg, mw, mf, ml, mq) s.heap H locs) (hok : OK_feed I9 nm tp kp cu se ur ab lo im sy un en ra li i2 mt mc mb mo ms mk my mu ma me mr mp mg mw mf ml mq)
    (kk : ∀ (X : TX) (M : TM) (H : Heap) (locs : List Loc) (ls : Array Slot), I9 X M → LW D cy r1 r2 X M s.heap H locs → lv_has ls 4 [(0, .ref b), (1, .ref r1), (2, .ref r2), (3, .int x3)] → W p l e room_1 s m args below meth c H locs 160 97966 Q (F0 m 613 ls []))
    {ls : Array Slot} (hl : lv_has ls 4 [(0, .ref b), (1, .ref r1), (2, .ref r2), (3, .int x3)]) : W p l e room_1 s m args below meth c H locs 160 97966 Q (F0 m 108 ls []) := by
  obtain ⟨hx, hb, hml, hown, hts, hr, hlk⟩ := id C
  obtain ⟨adX, adM, rfl, rfl, hIX, hIM, hzX, hzM, hne, hP, hPM, hS⟩ := hW
  have hP : va_P D vwCl (GX cy adX (adX 21) (adX 55) nm tp kp cu se ur ab lo im sy un en ra li i2) H := hP
  have hPM : va_P D vwCl (GM cy adM mt mc mb mo ms mk my mu ma me mr mp mg mw mf ml mq) H := hPM
  have hbA : ¬ (fun q : Nat => s.heap.size ≤ q) b := Nat.not_le.mpr hbl
  obtain ⟨q, q', hq, hq', hInv⟩ := hok (xs (x3 + (1 : Int32)).toNatClampNeg) (xs (x3 + (2 : Int32)).toNatClampNeg) (xs (x3 + (3 : Int32)).toNatClampNeg) (xs (x3 + (4 : Int32)).toNatClampNeg) (xs (x3 + (5 : Int32)).toNatClampNeg)
  refine lv_aload_n hx hb dL_law_108 rfl (lv_at hl 1 rfl) ?_
  refine lv_aload_n hx hb dL_law_109 rfl (lv_at hl 0 rfl) ?_
  refine lv_iload_n hx hb dL_law_110 rfl (lv_at hl 3 rfl) ?_
  refine lv_iconst (v := (1 : Int32)) hx hb dL_law_111 (by decide) ?_
  refine lv_iadd hx hb dL_law_112 ?_
  refine va_sld hx hb hX hbl hbA hS (scr_in (j := 1) rfl e3 hiL (by decide) hL) dL_law_113 ?_
  refine lv_aload_n hx hb dL_law_114 rfl (lv_at hl 0 rfl) ?_
  refine lv_iload_n hx hb dL_law_115 rfl (lv_at hl 3 rfl) ?_
  refine lv_iconst (v := (2 : Int32)) hx hb dL_law_116 (by decide) ?_
  refine lv_iadd hx hb dL_law_117 ?_
  refine va_sld hx hb hX hbl hbA hS (scr_in (j := 2) rfl e3 hiL (by decide) hL) dL_law_118 ?_
  refine lv_aload_n hx hb dL_law_119 rfl (lv_at hl 0 rfl) ?_
  refine lv_iload_n hx hb dL_law_120 rfl (lv_at hl 3 rfl) ?_
  refine lv_iconst (v := (3 : Int32)) hx hb dL_law_121 (by decide) ?_
  refine lv_iadd hx hb dL_law_122 ?_
  refine va_sld hx hb hX hbl hbA hS (scr_in (j := 3) rfl e3 hiL (by decide) hL) dL_law_123 ?_
  refine lv_aload_n hx hb dL_law_124 rfl (lv_at hl 0 rfl) ?_
  refine lv_iload_n hx hb dL_law_125 rfl (lv_at hl 3 rfl) ?_
  refine lv_iconst (v := (4 : Int32)) hx hb dL_law_126 (by decide) ?_
  refine lv_iadd hx hb dL_law_127 ?_
  refine va_sld hx hb hX hbl hbA hS (scr_in (j := 4) rfl e3 hiL (by decide) hL) dL_law_128 ?_
  refine lv_aload_n hx hb dL_law_129 rfl (lv_at hl 0 rfl) ?_
  refine lv_iload_n hx hb dL_law_130 rfl (lv_at hl 3 rfl) ?_
  refine lv_iconst (v := (5 : Int32)) hx hb dL_law_131 (by decide) ?_
  refine lv_iadd hx hb dL_law_132 ?_
  refine va_sld hx hb hX hbl hbA hS (scr_in (j := 5) rfl e3 hiL (by decide) hL) dL_law_133 ?_
  refine cLi (run_V (rest := []) C (kX11_feed hIX hq) caX11_feed w510 ⟨rfl, rfl, Nat.le_of_ble_eq_true rfl, Nat.le_of_ble_eq_true rfl⟩ hK hN hP (rX0 hK hP) rfl hl.1 rfl (Nat.le_of_ble_eq_true rfl) dL_law_134 ⟨Nat.le_of_ble_eq_true rfl, Nat.le_of_ble_eq_true rfl⟩) hS (Ac_le hzX) hPM (dis_of (GM_D hIM) hne) (fun H locs hP hPM hS => ?_)
  refine lv_pop hx hb dL_law_137 rfl ?_
  refine lv_aload_n hx hb dL_law_138 rfl (lv_at hl 2 rfl) ?_
  refine lv_aload_n hx hb dL_law_139 rfl (lv_at hl 0 rfl) ?_
  refine lv_iload_n hx hb dL_law_140 rfl (lv_at hl 3 rfl) ?_
  refine lv_iconst (v := (1 : Int32)) hx hb dL_law_141 (by decide) ?_
  refine lv_iadd hx hb dL_law_142 ?_
  refine va_sld hx hb hX hbl hbA hS (scr_in (j := 1) rfl e3 hiL (by decide) hL) dL_law_143 ?_
  refine lv_aload_n hx hb dL_law_144 rfl (lv_at hl 0 rfl) ?_
  refine lv_iload_n hx hb dL_law_145 rfl (lv_at hl 3 rfl) ?_
  refine lv_iconst (v := (2 : Int32)) hx hb dL_law_146 (by decide) ?_
  refine lv_iadd hx hb dL_law_147 ?_
  refine va_sld hx hb hX hbl hbA hS (scr_in (j := 2) rfl e3 hiL (by decide) hL) dL_law_148 ?_
  refine lv_aload_n hx hb dL_law_149 rfl (lv_at hl 0 rfl) ?_
  refine lv_iload_n hx hb dL_law_150 rfl (lv_at hl 3 rfl) ?_
  refine lv_iconst (v := (3 : Int32)) hx hb dL_law_151 (by decide) ?_
  refine lv_iadd hx hb dL_law_152 ?_
  refine va_sld hx hb hX hbl hbA hS (scr_in (j := 3) rfl e3 hiL (by decide) hL) dL_law_153 ?_
  refine lv_aload_n hx hb dL_law_154 rfl (lv_at hl 0 rfl) ?_
  refine lv_iload_n hx hb dL_law_155 rfl (lv_at hl 3 rfl) ?_
  refine lv_iconst (v := (4 : Int32)) hx hb dL_law_156 (by decide) ?_
  refine lv_iadd hx hb dL_law_157 ?_
  refine va_sld hx hb hX hbl hbA hS (scr_in (j := 4) rfl e3 hiL (by decide) hL) dL_law_158 ?_
  refine lv_aload_n hx hb dL_law_159 rfl (lv_at hl 0 rfl) ?_
  refine lv_iload_n hx hb dL_law_160 rfl (lv_at hl 3 rfl) ?_
  refine lv_iconst (v := (5 : Int32)) hx hb dL_law_161 (by decide) ?_
  refine lv_iadd hx hb dL_law_162 ?_
  refine va_sld hx hb hX hbl hbA hS (scr_in (j := 5) rfl e3 hiL (by decide) hL) dL_law_163 ?_
  refine cLi (run_V (rest := []) C (kX12_feed hIM hq') caX12_feed w1654 ⟨rfl, rfl, Nat.le_of_ble_eq_true rfl, Nat.le_of_ble_eq_true rfl⟩ hK hN hPM (rM0 hK hPM) rfl hl.1 rfl (Nat.le_of_ble_eq_true rfl) dL_law_164 ⟨Nat.le_of_ble_eq_true rfl, Nat.le_of_ble_eq_true rfl⟩) hS (Ac_le hzM) hP (dis_of (GX_D hIX) (fun i j hi hj e9 => hne j i hj hi e9.symm)) (fun H locs hPM hP hS => ?_)
  refine lv_pop hx hb dL_law_167 rfl ?_
  refine lv_goto (tgt := 613) hx hb dL_law_168 (by decide) ?_
  exact kk (q.2.1, q.2.2, kp, cu, se, ur, ab, lo, im, sy, un, en, ra, li, i2) (q'.2, mc, mb, mo, ms, mk, my, mu, ma, me, mr, mp, mg, mw, mf, ml, mq) H locs ls hInv ⟨adX, adM, rfl, rfl, hIX, hIM, hzX, hzM, hne, hP, hPM, hS⟩ hl
def OK_end (I9 : TX → TM → Prop) (nm : Tnm) (tp : Ttp) (kp : Tkp) (cu : Tcu) (se : Tse) (ur : Tur) (ab : Tab) (lo : Tlo) (im : Tim) (sy : Tsy) (un : Tun) (en : Ten) (ra : Tra) (li : Tli) (i2 : Ti2) (mt : Tmt) (mc : Tmc) (mb : Tmb) (mo : Tmo) (ms : Tms) (mk : Tmk) (my : Tmy) (mu : Tmu) (ma : Tma) (me : Tme) (mr : Tmr) (mp : Tmp) (mg : Tmg) (mw : Tmw) (mf : Tmf) (ml : Tml) (mq : Tmq) : Prop := ∀ (a0 : Int32), ∃ (q : Int32 × Tnm) (q' : Int32 × Tmt), X11_end nm a0 = q ∧ X12_end mt a0 = q' ∧ I9 (q.2, tp, kp, cu, se, ur, ab, lo, im, sy, un, en, ra, li, i2) (q'.2, mc, mb, mo, ms, mk, my, mu, ma, me, mr, mp, mg, mw, mf, ml, mq)
set_option maxRecDepth 20000 in
theorem law_end {b L i : Nat} {xs : Nat → Int32} {x3 : Int32} {r1 r2 : Nat} {I9 : TX → TM → Prop} {nm : Tnm} {tp : Ttp} {kp : Tkp} {cu : Tcu} {se : Tse} {ur : Tur} {ab : Tab} {lo : Tlo} {im : Tim} {sy : Tsy} {un : Tun} {en : Ten} {ra : Tra} {li : Tli} {i2 : Ti2} {mt : Tmt} {mc : Tmc} {mb : Tmb} {mo : Tmo} {ms : Tms} {mk : Tmk} {my : Tmy} {mu : Tmu} {ma : Tma} {me : Tme} {mr : Tmr} {mp : Tmp} {mg : Tmg} {mw : Tmw} {mf : Tmf} {ml : Tml} {mq : Tmq} (C : Cx p s m args meth c cL_law 4 (some .boolean) RL x0) (hK : va_K D vwCl (tysX cy) s) (hN : NW s) (hF : SF t adK adV (fun q => s.heap.size ≤ q) s s.heap) (hX : va_X b L xs s s.heap) (hbl : b < s.heap.size) (hiL : i + 6 ≤ L) (hL : L < 2 ^ 31) (e3 : x3 = nI i) (hW : LW D cy r1 r2 (nm, tp, kp, cu, se, ur, ab, lo, im, sy, un, en, ra, li, i2) (mt, mc, mb, mo, ms, mk, my, mu, ma, me, mr, mp, mg, mw, mf, ml, mq) s.heap H locs) (hok : OK_end I9 nm tp kp cu se ur ab lo im sy un en ra li i2 mt mc mb mo ms mk my mu ma me mr mp mg mw mf ml mq)
    (kk : ∀ (X : TX) (M : TM) (H : Heap) (locs : List Loc) (ls : Array Slot), I9 X M → LW D cy r1 r2 X M s.heap H locs → lv_has ls 4 [(0, .ref b), (1, .ref r1), (2, .ref r2), (3, .int x3)] → W p l e room_1 s m args below meth c H locs 160 97966 Q (F0 m 613 ls []))
    {ls : Array Slot} (hl : lv_has ls 4 [(0, .ref b), (1, .ref r1), (2, .ref r2), (3, .int x3)]) : W p l e room_1 s m args below meth c H locs 160 97966 Q (F0 m 171 ls []) := by
  obtain ⟨hx, hb, hml, hown, hts, hr, hlk⟩ := id C
  obtain ⟨adX, adM, rfl, rfl, hIX, hIM, hzX, hzM, hne, hP, hPM, hS⟩ := hW
  have hP : va_P D vwCl (GX cy adX (adX 21) (adX 55) nm tp kp cu se ur ab lo im sy un en ra li i2) H := hP
  have hPM : va_P D vwCl (GM cy adM mt mc mb mo ms mk my mu ma me mr mp mg mw mf ml mq) H := hPM
  have hbA : ¬ (fun q : Nat => s.heap.size ≤ q) b := Nat.not_le.mpr hbl
  obtain ⟨q, q', hq, hq', hInv⟩ := hok (xs (x3 + (1 : Int32)).toNatClampNeg)
  refine lv_aload_n hx hb dL_law_171 rfl (lv_at hl 1 rfl) ?_
  refine lv_aload_n hx hb dL_law_172 rfl (lv_at hl 0 rfl) ?_
  refine lv_iload_n hx hb dL_law_173 rfl (lv_at hl 3 rfl) ?_
  refine lv_iconst (v := (1 : Int32)) hx hb dL_law_174 (by decide) ?_
  refine lv_iadd hx hb dL_law_175 ?_
  refine va_sld hx hb hX hbl hbA hS (scr_in (j := 1) rfl e3 hiL (by decide) hL) dL_law_176 ?_
  refine cLi (run_V (rest := []) C (kX11_end hIX hq) caX11_end w518 ⟨rfl, rfl, Nat.le_of_ble_eq_true rfl, Nat.le_of_ble_eq_true rfl⟩ hK hN hP (rX0 hK hP) rfl hl.1 rfl (Nat.le_of_ble_eq_true rfl) dL_law_177 ⟨Nat.le_of_ble_eq_true rfl, Nat.le_of_ble_eq_true rfl⟩) hS (Ac_le hzX) hPM (dis_of (GM_D hIM) hne) (fun H locs hP hPM hS => ?_)
  refine lv_pop hx hb dL_law_180 rfl ?_
  refine lv_aload_n hx hb dL_law_181 rfl (lv_at hl 2 rfl) ?_
  refine lv_aload_n hx hb dL_law_182 rfl (lv_at hl 0 rfl) ?_
  refine lv_iload_n hx hb dL_law_183 rfl (lv_at hl 3 rfl) ?_
  refine lv_iconst (v := (1 : Int32)) hx hb dL_law_184 (by decide) ?_
  refine lv_iadd hx hb dL_law_185 ?_
  refine va_sld hx hb hX hbl hbA hS (scr_in (j := 1) rfl e3 hiL (by decide) hL) dL_law_186 ?_
  refine cLi (run_V (rest := []) C (kX12_end hIM hq') caX12_end w1658 ⟨rfl, rfl, Nat.le_of_ble_eq_true rfl, Nat.le_of_ble_eq_true rfl⟩ hK hN hPM (rM0 hK hPM) rfl hl.1 rfl (Nat.le_of_ble_eq_true rfl) dL_law_187 ⟨Nat.le_of_ble_eq_true rfl, Nat.le_of_ble_eq_true rfl⟩) hS (Ac_le hzM) hP (dis_of (GX_D hIX) (fun i j hi hj e9 => hne j i hj hi e9.symm)) (fun H locs hPM hP hS => ?_)
  refine lv_pop hx hb dL_law_190 rfl ?_
  refine lv_goto (tgt := 613) hx hb dL_law_191 (by decide) ?_
  exact kk (q.2, tp, kp, cu, se, ur, ab, lo, im, sy, un, en, ra, li, i2) (q'.2, mc, mb, mo, ms, mk, my, mu, ma, me, mr, mp, mg, mw, mf, ml, mq) H locs ls hInv ⟨adX, adM, rfl, rfl, hIX, hIM, hzX, hzM, hne, hP, hPM, hS⟩ hl
def OK_poke (I9 : TX → TM → Prop) (nm : Tnm) (tp : Ttp) (kp : Tkp) (cu : Tcu) (se : Tse) (ur : Tur) (ab : Tab) (lo : Tlo) (im : Tim) (sy : Tsy) (un : Tun) (en : Ten) (ra : Tra) (li : Tli) (i2 : Ti2) (mt : Tmt) (mc : Tmc) (mb : Tmb) (mo : Tmo) (ms : Tms) (mk : Tmk) (my : Tmy) (mu : Tmu) (ma : Tma) (me : Tme) (mr : Tmr) (mp : Tmp) (mg : Tmg) (mw : Tmw) (mf : Tmf) (ml : Tml) (mq : Tmq) : Prop := ∀ (a0 : Int32) (a1 : Int32), ∃ (q : Int32 × Ttp) (q' : Int32 × Tmt), X11_poke nm tp a0 a1 = some q ∧ X12_poke mt a0 a1 = some q' ∧ q.1 = q'.1 ∧ I9 (nm, q.2, kp, cu, se, ur, ab, lo, im, sy, un, en, ra, li, i2) (q'.2, mc, mb, mo, ms, mk, my, mu, ma, me, mr, mp, mg, mw, mf, ml, mq)
set_option maxRecDepth 20000 in
theorem law_poke {b L i : Nat} {xs : Nat → Int32} {x3 : Int32} {r1 r2 : Nat} {I9 : TX → TM → Prop} {nm : Tnm} {tp : Ttp} {kp : Tkp} {cu : Tcu} {se : Tse} {ur : Tur} {ab : Tab} {lo : Tlo} {im : Tim} {sy : Tsy} {un : Tun} {en : Ten} {ra : Tra} {li : Tli} {i2 : Ti2} {mt : Tmt} {mc : Tmc} {mb : Tmb} {mo : Tmo} {ms : Tms} {mk : Tmk} {my : Tmy} {mu : Tmu} {ma : Tma} {me : Tme} {mr : Tmr} {mp : Tmp} {mg : Tmg} {mw : Tmw} {mf : Tmf} {ml : Tml} {mq : Tmq} (C : Cx p s m args meth c cL_law 4 (some .boolean) RL x0) (hK : va_K D vwCl (tysX cy) s) (hN : NW s) (hF : SF t adK adV (fun q => s.heap.size ≤ q) s s.heap) (hX : va_X b L xs s s.heap) (hbl : b < s.heap.size) (hiL : i + 6 ≤ L) (hL : L < 2 ^ 31) (e3 : x3 = nI i) (hW : LW D cy r1 r2 (nm, tp, kp, cu, se, ur, ab, lo, im, sy, un, en, ra, li, i2) (mt, mc, mb, mo, ms, mk, my, mu, ma, me, mr, mp, mg, mw, mf, ml, mq) s.heap H locs) (hok : OK_poke I9 nm tp kp cu se ur ab lo im sy un en ra li i2 mt mc mb mo ms mk my mu ma me mr mp mg mw mf ml mq)
    (kk : ∀ (X : TX) (M : TM) (H : Heap) (locs : List Loc) (ls : Array Slot), I9 X M → LW D cy r1 r2 X M s.heap H locs → lv_has ls 4 [(0, .ref b), (1, .ref r1), (2, .ref r2), (3, .int x3)] → W p l e room_1 s m args below meth c H locs 160 97966 Q (F0 m 613 ls []))
    {ls : Array Slot} (hl : lv_has ls 4 [(0, .ref b), (1, .ref r1), (2, .ref r2), (3, .int x3)]) : W p l e room_1 s m args below meth c H locs 160 97966 Q (F0 m 194 ls []) := by
  obtain ⟨hx, hb, hml, hown, hts, hr, hlk⟩ := id C
  obtain ⟨adX, adM, rfl, rfl, hIX, hIM, hzX, hzM, hne, hP, hPM, hS⟩ := hW
  have hP : va_P D vwCl (GX cy adX (adX 21) (adX 55) nm tp kp cu se ur ab lo im sy un en ra li i2) H := hP
  have hPM : va_P D vwCl (GM cy adM mt mc mb mo ms mk my mu ma me mr mp mg mw mf ml mq) H := hPM
  have hbA : ¬ (fun q : Nat => s.heap.size ≤ q) b := Nat.not_le.mpr hbl
  obtain ⟨q, q', hq, hq', heq, hInv⟩ := hok (xs (x3 + (1 : Int32)).toNatClampNeg) (xs (x3 + (2 : Int32)).toNatClampNeg)
  refine lv_aload_n hx hb dL_law_194 rfl (lv_at hl 1 rfl) ?_
  refine lv_aload_n hx hb dL_law_195 rfl (lv_at hl 0 rfl) ?_
  refine lv_iload_n hx hb dL_law_196 rfl (lv_at hl 3 rfl) ?_
  refine lv_iconst (v := (1 : Int32)) hx hb dL_law_197 (by decide) ?_
  refine lv_iadd hx hb dL_law_198 ?_
  refine va_sld hx hb hX hbl hbA hS (scr_in (j := 1) rfl e3 hiL (by decide) hL) dL_law_199 ?_
  refine lv_aload_n hx hb dL_law_200 rfl (lv_at hl 0 rfl) ?_
  refine lv_iload_n hx hb dL_law_201 rfl (lv_at hl 3 rfl) ?_
  refine lv_iconst (v := (2 : Int32)) hx hb dL_law_202 (by decide) ?_
  refine lv_iadd hx hb dL_law_203 ?_
  refine va_sld hx hb hX hbl hbA hS (scr_in (j := 2) rfl e3 hiL (by decide) hL) dL_law_204 ?_
  refine cLi (run_V (rest := []) C (kX11_poke hIX hq) caX11_poke w522 ⟨rfl, rfl, Nat.le_of_ble_eq_true rfl, Nat.le_of_ble_eq_true rfl⟩ hK hN hP (rX0 hK hP) rfl hl.1 rfl (Nat.le_of_ble_eq_true rfl) dL_law_205 ⟨Nat.le_of_ble_eq_true rfl, Nat.le_of_ble_eq_true rfl⟩) hS (Ac_le hzX) hPM (dis_of (GM_D hIM) hne) (fun H locs hP hPM hS => ?_)
  refine lv_aload_n hx hb dL_law_208 rfl (lv_at hl 2 rfl) ?_
  refine lv_aload_n hx hb dL_law_209 rfl (lv_at hl 0 rfl) ?_
  refine lv_iload_n hx hb dL_law_210 rfl (lv_at hl 3 rfl) ?_
  refine lv_iconst (v := (1 : Int32)) hx hb dL_law_211 (by decide) ?_
  refine lv_iadd hx hb dL_law_212 ?_
  refine va_sld hx hb hX hbl hbA hS (scr_in (j := 1) rfl e3 hiL (by decide) hL) dL_law_213 ?_
  refine lv_aload_n hx hb dL_law_214 rfl (lv_at hl 0 rfl) ?_
  refine lv_iload_n hx hb dL_law_215 rfl (lv_at hl 3 rfl) ?_
  refine lv_iconst (v := (2 : Int32)) hx hb dL_law_216 (by decide) ?_
  refine lv_iadd hx hb dL_law_217 ?_
  refine va_sld hx hb hX hbl hbA hS (scr_in (j := 2) rfl e3 hiL (by decide) hL) dL_law_218 ?_
  refine cLi (run_V (rest := [.int q.1]) C (kX12_poke hIM hq') caX12_poke w1662 ⟨rfl, rfl, Nat.le_of_ble_eq_true rfl, Nat.le_of_ble_eq_true rfl⟩ hK hN hPM (rM0 hK hPM) rfl hl.1 rfl (Nat.le_of_ble_eq_true rfl) dL_law_219 ⟨Nat.le_of_ble_eq_true rfl, Nat.le_of_ble_eq_true rfl⟩) hS (Ac_le hzM) hP (dis_of (GX_D hIX) (fun i j hi hj e9 => hne j i hj hi e9.symm)) (fun H locs hPM hP hS => ?_)
  refine lv_icmp_eq (tgt := 613) hx hb dL_law_222 (by decide) (fun c1 => ?_) (fun c1 => absurd heq c1)
  exact kk (nm, q.2, kp, cu, se, ur, ab, lo, im, sy, un, en, ra, li, i2) (q'.2, mc, mb, mo, ms, mk, my, mu, ma, me, mr, mp, mg, mw, mf, ml, mq) H locs ls hInv ⟨adX, adM, rfl, rfl, hIX, hIM, hzX, hzM, hne, hP, hPM, hS⟩ hl
def OK_load (I9 : TX → TM → Prop) (nm : Tnm) (tp : Ttp) (kp : Tkp) (cu : Tcu) (se : Tse) (ur : Tur) (ab : Tab) (lo : Tlo) (im : Tim) (sy : Tsy) (un : Tun) (en : Ten) (ra : Tra) (li : Tli) (i2 : Ti2) (mt : Tmt) (mc : Tmc) (mb : Tmb) (mo : Tmo) (ms : Tms) (mk : Tmk) (my : Tmy) (mu : Tmu) (ma : Tma) (me : Tme) (mr : Tmr) (mp : Tmp) (mg : Tmg) (mw : Tmw) (mf : Tmf) (ml : Tml) (mq : Tmq) : Prop := ∃ (q : Int32 × Tkp × Tcu × Tse × Tur × Tab × Tlo × Tim × Tsy × Tun × Ten × Tra × Tli) (q' : Int32 × Tmc × Tmb × Tmo × Tms × Tmy × Tmu × Tma × Tme × Tmr × Tmp × Tmg × Tmw × Tmf × Tml × Tmq), X11_load nm tp kp cu se ur ab lo i2.1 i2.2.1 i2.2.2.1 i2.2.2.2.1 i2.2.2.2.2.1 i2.2.2.2.2.2 = some q ∧ X12_load mt mc mb mo ms mk my mu ma me mr mp mg mw mf ml mq = some q' ∧ ((q.2.2.1.2.2.2.1 = 0 → I9 (nm, tp, q.2.1, q.2.2.1, q.2.2.2.1, q.2.2.2.2.1, q.2.2.2.2.2.1, q.2.2.2.2.2.2.1, q.2.2.2.2.2.2.2.1, q.2.2.2.2.2.2.2.2.1, q.2.2.2.2.2.2.2.2.2.1, q.2.2.2.2.2.2.2.2.2.2.1, q.2.2.2.2.2.2.2.2.2.2.2.1, q.2.2.2.2.2.2.2.2.2.2.2.2, (im, sy, un, en, ra, li)) (mt, q'.2.1, q'.2.2.1, q'.2.2.2.1, q'.2.2.2.2.1, mk, q'.2.2.2.2.2.1, q'.2.2.2.2.2.2.1, q'.2.2.2.2.2.2.2.1, q'.2.2.2.2.2.2.2.2.1, q'.2.2.2.2.2.2.2.2.2.1, q'.2.2.2.2.2.2.2.2.2.2.1, q'.2.2.2.2.2.2.2.2.2.2.2.1, q'.2.2.2.2.2.2.2.2.2.2.2.2.1, q'.2.2.2.2.2.2.2.2.2.2.2.2.2.1, q'.2.2.2.2.2.2.2.2.2.2.2.2.2.2.1, q'.2.2.2.2.2.2.2.2.2.2.2.2.2.2.2)) ∧ (¬ q.2.2.1.2.2.2.1 = 0 → I9 (nm, tp, q.2.1, q.2.2.1, q.2.2.2.1, q.2.2.2.2.1, q.2.2.2.2.2.1, q.2.2.2.2.2.2.1, im, sy, un, en, ra, li, (q.2.2.2.2.2.2.2.1, q.2.2.2.2.2.2.2.2.1, q.2.2.2.2.2.2.2.2.2.1, q.2.2.2.2.2.2.2.2.2.2.1, q.2.2.2.2.2.2.2.2.2.2.2.1, q.2.2.2.2.2.2.2.2.2.2.2.2)) (mt, q'.2.1, q'.2.2.1, q'.2.2.2.1, q'.2.2.2.2.1, mk, q'.2.2.2.2.2.1, q'.2.2.2.2.2.2.1, q'.2.2.2.2.2.2.2.1, q'.2.2.2.2.2.2.2.2.1, q'.2.2.2.2.2.2.2.2.2.1, q'.2.2.2.2.2.2.2.2.2.2.1, q'.2.2.2.2.2.2.2.2.2.2.2.1, q'.2.2.2.2.2.2.2.2.2.2.2.2.1, q'.2.2.2.2.2.2.2.2.2.2.2.2.2.1, q'.2.2.2.2.2.2.2.2.2.2.2.2.2.2.1, q'.2.2.2.2.2.2.2.2.2.2.2.2.2.2.2)))
set_option maxRecDepth 20000 in
theorem law_load {b L i : Nat} {xs : Nat → Int32} {x3 : Int32} {r1 r2 : Nat} {I9 : TX → TM → Prop} {nm : Tnm} {tp : Ttp} {kp : Tkp} {cu : Tcu} {se : Tse} {ur : Tur} {ab : Tab} {lo : Tlo} {im : Tim} {sy : Tsy} {un : Tun} {en : Ten} {ra : Tra} {li : Tli} {i2 : Ti2} {mt : Tmt} {mc : Tmc} {mb : Tmb} {mo : Tmo} {ms : Tms} {mk : Tmk} {my : Tmy} {mu : Tmu} {ma : Tma} {me : Tme} {mr : Tmr} {mp : Tmp} {mg : Tmg} {mw : Tmw} {mf : Tmf} {ml : Tml} {mq : Tmq} (C : Cx p s m args meth c cL_law 4 (some .boolean) RL x0) (hK : va_K D vwCl (tysX cy) s) (hN : NW s) (hF : SF t adK adV (fun q => s.heap.size ≤ q) s s.heap) (hX : va_X b L xs s s.heap) (hbl : b < s.heap.size) (hiL : i + 6 ≤ L) (hL : L < 2 ^ 31) (e3 : x3 = nI i) (hW : LW D cy r1 r2 (nm, tp, kp, cu, se, ur, ab, lo, im, sy, un, en, ra, li, i2) (mt, mc, mb, mo, ms, mk, my, mu, ma, me, mr, mp, mg, mw, mf, ml, mq) s.heap H locs) (hok : OK_load I9 nm tp kp cu se ur ab lo im sy un en ra li i2 mt mc mb mo ms mk my mu ma me mr mp mg mw mf ml mq)
    (kk : ∀ (X : TX) (M : TM) (H : Heap) (locs : List Loc) (ls : Array Slot), I9 X M → LW D cy r1 r2 X M s.heap H locs → lv_has ls 4 [(0, .ref b), (1, .ref r1), (2, .ref r2), (3, .int x3)] → W p l e room_1 s m args below meth c H locs 160 97966 Q (F0 m 613 ls []))
    {ls : Array Slot} (hl : lv_has ls 4 [(0, .ref b), (1, .ref r1), (2, .ref r2), (3, .int x3)]) : W p l e room_1 s m args below meth c H locs 160 97966 Q (F0 m 227 ls []) := by
  obtain ⟨hx, hb, hml, hown, hts, hr, hlk⟩ := id C
  obtain ⟨adX, adM, rfl, rfl, hIX, hIM, hzX, hzM, hne, hP, hPM, hS⟩ := hW
  have hP : va_P D vwCl (GX cy adX (adX 21) (adX 55) nm tp kp cu se ur ab lo im sy un en ra li i2) H := hP
  have hPM : va_P D vwCl (GM cy adM mt mc mb mo ms mk my mu ma me mr mp mg mw mf ml mq) H := hPM
  have hbA : ¬ (fun q : Nat => s.heap.size ≤ q) b := Nat.not_le.mpr hbl
  obtain ⟨q, q', hq, hq', hInv⟩ := hok 
  refine lv_aload_n hx hb dL_law_227 rfl (lv_at hl 1 rfl) ?_
  have hP2 : va_P D vwCl (GX cy (fun k => adX (sw k)) ((fun k => adX (sw k)) 55) ((fun k => adX (sw k)) 21) nm tp kp cu se ur ab lo i2.1 i2.2.1 i2.2.2.1 i2.2.2.2.1 i2.2.2.2.2.1 i2.2.2.2.2.2 (im, sy, un, en, ra, li)) H := hP.sub swL rfl
  have hI2 := hIX.sw
  have hs2 : ∀ q, Ac (fun k => adX (sw k)) 89 q → (fun q => s.heap.size ≤ q) q := fun q h9 => Ac_le hzX q (Ac_sw h9)
  have hd2 := fun (k : Nat) (q : Nat × va_E) (h9 : (GM cy adM mt mc mb mo ms mk my mu ma me mr mp mg mw mf ml mq)[k]? = some q) (h8 : Ac (fun k => adX (sw k)) 89 q.1) => dis_of (GM_D hIM) hne k q h9 (Ac_sw h8)
  refine cLi (run_Vg (b := adX 0) (As := []) (rest := []) C (kX11_load (t := t) (adK := adK) (adV := adV) (i2 := (im, sy, un, en, ra, li)) hI2 hq) caX11_load w526 ⟨rfl, rfl, Nat.le_of_ble_eq_true rfl, Nat.le_of_ble_eq_true rfl⟩ PS.blind (fun U hU hW => ⟨rfl, ⟨by rw [hU]; exact hP2, va_K.moved hW.alike hK, hN.warm hW⟩, by rw [hU]; exact ((hF.kept hS.2.1).narrow hs2).warm hW⟩) (rX0 (ad := fun k => adX (sw k)) hK hP2) rfl hl.1 rfl (Nat.le_of_ble_eq_true rfl) dL_law_228 ⟨Nat.le_of_ble_eq_true rfl, Nat.le_of_ble_eq_true rfl⟩) hS hs2 hPM hd2 (fun H locs hP hPM hS => ?_)
  refine lv_pop hx hb dL_law_231 rfl ?_
  refine lv_aload_n hx hb dL_law_232 rfl (lv_at hl 2 rfl) ?_
  refine cLi (run_V (rest := []) C (kX12_load hIM hq') caX12_load w1666 ⟨rfl, rfl, Nat.le_of_ble_eq_true rfl, Nat.le_of_ble_eq_true rfl⟩ hK hN hPM (rM0 hK hPM) rfl hl.1 rfl (Nat.le_of_ble_eq_true rfl) dL_law_233 ⟨Nat.le_of_ble_eq_true rfl, Nat.le_of_ble_eq_true rfl⟩) hS (Ac_le hzM) hP (fun k q h9 h8 => dis_of (GX_D hI2) (fun i j hi hj e9 => hne (sw j) i (sw_lt hj) hi e9.symm) k q h9 h8) (fun H locs hPM hP hS => ?_)
  refine lv_pop hx hb dL_law_236 rfl ?_
  refine lv_goto (tgt := 613) hx hb dL_law_237 (by decide) ?_
  by_cases hf : q.2.2.1.2.2.2.1 = 0
  · have e1 : tkL (fun k => adX (sw k)) q.2.2.1.2.2.2.1 = (fun k => adX (sw k)) 21 := if_pos hf
    have e2 : spL (fun k => adX (sw k)) q.2.2.1.2.2.2.1 = (fun k => adX (sw k)) 55 := if_pos hf
    rw [e1, e2] at hP
    exact kk (nm, tp, q.2.1, q.2.2.1, q.2.2.2.1, q.2.2.2.2.1, q.2.2.2.2.2.1, q.2.2.2.2.2.2.1, q.2.2.2.2.2.2.2.1, q.2.2.2.2.2.2.2.2.1, q.2.2.2.2.2.2.2.2.2.1, q.2.2.2.2.2.2.2.2.2.2.1, q.2.2.2.2.2.2.2.2.2.2.2.1, q.2.2.2.2.2.2.2.2.2.2.2.2, (im, sy, un, en, ra, li)) (mt, q'.2.1, q'.2.2.1, q'.2.2.2.1, q'.2.2.2.2.1, mk, q'.2.2.2.2.2.1, q'.2.2.2.2.2.2.1, q'.2.2.2.2.2.2.2.1, q'.2.2.2.2.2.2.2.2.1, q'.2.2.2.2.2.2.2.2.2.1, q'.2.2.2.2.2.2.2.2.2.2.1, q'.2.2.2.2.2.2.2.2.2.2.2.1, q'.2.2.2.2.2.2.2.2.2.2.2.2.1, q'.2.2.2.2.2.2.2.2.2.2.2.2.2.1, q'.2.2.2.2.2.2.2.2.2.2.2.2.2.2.1, q'.2.2.2.2.2.2.2.2.2.2.2.2.2.2.2) H locs ls (hInv.1 hf) ⟨fun k => adX (sw k), adM, rfl, rfl, hI2, hIM, fun k hk => hzX _ (sw_lt hk), hzM, fun i j hi hj => hne _ _ (sw_lt hi) hj, hP, hPM, hS⟩ hl
  · have e1 : tkL (fun k => adX (sw k)) q.2.2.1.2.2.2.1 = (fun k => adX (sw k)) 55 := if_neg hf
    have e2 : spL (fun k => adX (sw k)) q.2.2.1.2.2.2.1 = (fun k => adX (sw k)) 21 := if_neg hf
    rw [e1, e2] at hP
    exact kk (nm, tp, q.2.1, q.2.2.1, q.2.2.2.1, q.2.2.2.2.1, q.2.2.2.2.2.1, q.2.2.2.2.2.2.1, im, sy, un, en, ra, li, (q.2.2.2.2.2.2.2.1, q.2.2.2.2.2.2.2.2.1, q.2.2.2.2.2.2.2.2.2.1, q.2.2.2.2.2.2.2.2.2.2.1, q.2.2.2.2.2.2.2.2.2.2.2.1, q.2.2.2.2.2.2.2.2.2.2.2.2)) (mt, q'.2.1, q'.2.2.1, q'.2.2.2.1, q'.2.2.2.2.1, mk, q'.2.2.2.2.2.1, q'.2.2.2.2.2.2.1, q'.2.2.2.2.2.2.2.1, q'.2.2.2.2.2.2.2.2.1, q'.2.2.2.2.2.2.2.2.2.1, q'.2.2.2.2.2.2.2.2.2.2.1, q'.2.2.2.2.2.2.2.2.2.2.2.1, q'.2.2.2.2.2.2.2.2.2.2.2.2.1, q'.2.2.2.2.2.2.2.2.2.2.2.2.2.1, q'.2.2.2.2.2.2.2.2.2.2.2.2.2.2.1, q'.2.2.2.2.2.2.2.2.2.2.2.2.2.2.2) H locs ls (hInv.2 hf) ⟨adX, adM, rfl, rfl, hIX, hIM, hzX, hzM, hne, hP.sub swL rfl, hPM, hS⟩ hl
def OK_fault (I9 : TX → TM → Prop) (nm : Tnm) (tp : Ttp) (kp : Tkp) (cu : Tcu) (se : Tse) (ur : Tur) (ab : Tab) (lo : Tlo) (im : Tim) (sy : Tsy) (un : Tun) (en : Ten) (ra : Tra) (li : Tli) (i2 : Ti2) (mt : Tmt) (mc : Tmc) (mb : Tmb) (mo : Tmo) (ms : Tms) (mk : Tmk) (my : Tmy) (mu : Tmu) (ma : Tma) (me : Tme) (mr : Tmr) (mp : Tmp) (mg : Tmg) (mw : Tmw) (mf : Tmf) (ml : Tml) (mq : Tmq) : Prop := ∀ (a0 : Int32), ∃ (q : Int32) (q' : Int32), X11_fault cu a0 = q ∧ X12_fault mo a0 = q' ∧ I9 (nm, tp, kp, cu, se, ur, ab, lo, im, sy, un, en, ra, li, i2) (mt, mc, mb, mo, ms, mk, my, mu, ma, me, mr, mp, mg, mw, mf, ml, mq)
set_option maxRecDepth 20000 in
theorem law_fault {b L i : Nat} {xs : Nat → Int32} {x3 : Int32} {r1 r2 : Nat} {I9 : TX → TM → Prop} {nm : Tnm} {tp : Ttp} {kp : Tkp} {cu : Tcu} {se : Tse} {ur : Tur} {ab : Tab} {lo : Tlo} {im : Tim} {sy : Tsy} {un : Tun} {en : Ten} {ra : Tra} {li : Tli} {i2 : Ti2} {mt : Tmt} {mc : Tmc} {mb : Tmb} {mo : Tmo} {ms : Tms} {mk : Tmk} {my : Tmy} {mu : Tmu} {ma : Tma} {me : Tme} {mr : Tmr} {mp : Tmp} {mg : Tmg} {mw : Tmw} {mf : Tmf} {ml : Tml} {mq : Tmq} (C : Cx p s m args meth c cL_law 4 (some .boolean) RL x0) (hK : va_K D vwCl (tysX cy) s) (hN : NW s) (hF : SF t adK adV (fun q => s.heap.size ≤ q) s s.heap) (hX : va_X b L xs s s.heap) (hbl : b < s.heap.size) (hiL : i + 6 ≤ L) (hL : L < 2 ^ 31) (e3 : x3 = nI i) (hW : LW D cy r1 r2 (nm, tp, kp, cu, se, ur, ab, lo, im, sy, un, en, ra, li, i2) (mt, mc, mb, mo, ms, mk, my, mu, ma, me, mr, mp, mg, mw, mf, ml, mq) s.heap H locs) (hok : OK_fault I9 nm tp kp cu se ur ab lo im sy un en ra li i2 mt mc mb mo ms mk my mu ma me mr mp mg mw mf ml mq)
    (kk : ∀ (X : TX) (M : TM) (H : Heap) (locs : List Loc) (ls : Array Slot), I9 X M → LW D cy r1 r2 X M s.heap H locs → lv_has ls 4 [(0, .ref b), (1, .ref r1), (2, .ref r2), (3, .int x3)] → W p l e room_1 s m args below meth c H locs 160 97966 Q (F0 m 613 ls []))
    {ls : Array Slot} (hl : lv_has ls 4 [(0, .ref b), (1, .ref r1), (2, .ref r2), (3, .int x3)]) : W p l e room_1 s m args below meth c H locs 160 97966 Q (F0 m 240 ls []) := by
  obtain ⟨hx, hb, hml, hown, hts, hr, hlk⟩ := id C
  obtain ⟨adX, adM, rfl, rfl, hIX, hIM, hzX, hzM, hne, hP, hPM, hS⟩ := hW
  have hP : va_P D vwCl (GX cy adX (adX 21) (adX 55) nm tp kp cu se ur ab lo im sy un en ra li i2) H := hP
  have hPM : va_P D vwCl (GM cy adM mt mc mb mo ms mk my mu ma me mr mp mg mw mf ml mq) H := hPM
  have hbA : ¬ (fun q : Nat => s.heap.size ≤ q) b := Nat.not_le.mpr hbl
  obtain ⟨q, q', hq, hq', hInv⟩ := hok (xs (x3 + (1 : Int32)).toNatClampNeg)
  refine lv_aload_n hx hb dL_law_240 rfl (lv_at hl 1 rfl) ?_
  refine lv_aload_n hx hb dL_law_241 rfl (lv_at hl 0 rfl) ?_
  refine lv_iload_n hx hb dL_law_242 rfl (lv_at hl 3 rfl) ?_
  refine lv_iconst (v := (1 : Int32)) hx hb dL_law_243 (by decide) ?_
  refine lv_iadd hx hb dL_law_244 ?_
  refine va_sld hx hb hX hbl hbA hS (scr_in (j := 1) rfl e3 hiL (by decide) hL) dL_law_245 ?_
  refine cPi (run_V (rest := []) C (kX11_fault hq) caX11_fault w1124 ⟨rfl, rfl, Nat.le_of_ble_eq_true rfl, Nat.le_of_ble_eq_true rfl⟩ hK hN hP (rX0 hK hP) rfl hl.1 rfl (Nat.le_of_ble_eq_true rfl) dL_law_246 ⟨Nat.le_of_ble_eq_true rfl, Nat.le_of_ble_eq_true rfl⟩) ?_
  refine lv_pop hx hb dL_law_249 rfl ?_
  refine lv_aload_n hx hb dL_law_250 rfl (lv_at hl 2 rfl) ?_
  refine lv_aload_n hx hb dL_law_251 rfl (lv_at hl 0 rfl) ?_
  refine lv_iload_n hx hb dL_law_252 rfl (lv_at hl 3 rfl) ?_
  refine lv_iconst (v := (1 : Int32)) hx hb dL_law_253 (by decide) ?_
  refine lv_iadd hx hb dL_law_254 ?_
  refine va_sld hx hb hX hbl hbA hS (scr_in (j := 1) rfl e3 hiL (by decide) hL) dL_law_255 ?_
  refine cPi (run_V (rest := []) C (kX12_fault hq') caX12_fault w1879 ⟨rfl, rfl, Nat.le_of_ble_eq_true rfl, Nat.le_of_ble_eq_true rfl⟩ hK hN hPM (rM0 hK hPM) rfl hl.1 rfl (Nat.le_of_ble_eq_true rfl) dL_law_256 ⟨Nat.le_of_ble_eq_true rfl, Nat.le_of_ble_eq_true rfl⟩) ?_
  refine lv_pop hx hb dL_law_259 rfl ?_
  refine lv_goto (tgt := 613) hx hb dL_law_260 (by decide) ?_
  exact kk (nm, tp, kp, cu, se, ur, ab, lo, im, sy, un, en, ra, li, i2) (mt, mc, mb, mo, ms, mk, my, mu, ma, me, mr, mp, mg, mw, mf, ml, mq) H locs ls hInv ⟨adX, adM, rfl, rfl, hIX, hIM, hzX, hzM, hne, hP, hPM, hS⟩ hl
def OK_entry (I9 : TX → TM → Prop) (nm : Tnm) (tp : Ttp) (kp : Tkp) (cu : Tcu) (se : Tse) (ur : Tur) (ab : Tab) (lo : Tlo) (im : Tim) (sy : Tsy) (un : Tun) (en : Ten) (ra : Tra) (li : Tli) (i2 : Ti2) (mt : Tmt) (mc : Tmc) (mb : Tmb) (mo : Tmo) (ms : Tms) (mk : Tmk) (my : Tmy) (mu : Tmu) (ma : Tma) (me : Tme) (mr : Tmr) (mp : Tmp) (mg : Tmg) (mw : Tmw) (mf : Tmf) (ml : Tml) (mq : Tmq) : Prop := ∀ (a0 : Int32) (a1 : Int32), ∃ (q : Int32) (q' : Int32), X11_entry en a0 a1 = some q ∧ X12_entry mo me mg a0 a1 = some q' ∧ I9 (nm, tp, kp, cu, se, ur, ab, lo, im, sy, un, en, ra, li, i2) (mt, mc, mb, mo, ms, mk, my, mu, ma, me, mr, mp, mg, mw, mf, ml, mq)
set_option maxRecDepth 20000 in
theorem law_entry {b L i : Nat} {xs : Nat → Int32} {x3 : Int32} {r1 r2 : Nat} {I9 : TX → TM → Prop} {nm : Tnm} {tp : Ttp} {kp : Tkp} {cu : Tcu} {se : Tse} {ur : Tur} {ab : Tab} {lo : Tlo} {im : Tim} {sy : Tsy} {un : Tun} {en : Ten} {ra : Tra} {li : Tli} {i2 : Ti2} {mt : Tmt} {mc : Tmc} {mb : Tmb} {mo : Tmo} {ms : Tms} {mk : Tmk} {my : Tmy} {mu : Tmu} {ma : Tma} {me : Tme} {mr : Tmr} {mp : Tmp} {mg : Tmg} {mw : Tmw} {mf : Tmf} {ml : Tml} {mq : Tmq} (C : Cx p s m args meth c cL_law 4 (some .boolean) RL x0) (hK : va_K D vwCl (tysX cy) s) (hN : NW s) (hF : SF t adK adV (fun q => s.heap.size ≤ q) s s.heap) (hX : va_X b L xs s s.heap) (hbl : b < s.heap.size) (hiL : i + 6 ≤ L) (hL : L < 2 ^ 31) (e3 : x3 = nI i) (hW : LW D cy r1 r2 (nm, tp, kp, cu, se, ur, ab, lo, im, sy, un, en, ra, li, i2) (mt, mc, mb, mo, ms, mk, my, mu, ma, me, mr, mp, mg, mw, mf, ml, mq) s.heap H locs) (hok : OK_entry I9 nm tp kp cu se ur ab lo im sy un en ra li i2 mt mc mb mo ms mk my mu ma me mr mp mg mw mf ml mq)
    (kk : ∀ (X : TX) (M : TM) (H : Heap) (locs : List Loc) (ls : Array Slot), I9 X M → LW D cy r1 r2 X M s.heap H locs → lv_has ls 4 [(0, .ref b), (1, .ref r1), (2, .ref r2), (3, .int x3)] → W p l e room_1 s m args below meth c H locs 160 97966 Q (F0 m 613 ls []))
    {ls : Array Slot} (hl : lv_has ls 4 [(0, .ref b), (1, .ref r1), (2, .ref r2), (3, .int x3)]) : W p l e room_1 s m args below meth c H locs 160 97966 Q (F0 m 263 ls []) := by
  obtain ⟨hx, hb, hml, hown, hts, hr, hlk⟩ := id C
  obtain ⟨adX, adM, rfl, rfl, hIX, hIM, hzX, hzM, hne, hP, hPM, hS⟩ := hW
  have hP : va_P D vwCl (GX cy adX (adX 21) (adX 55) nm tp kp cu se ur ab lo im sy un en ra li i2) H := hP
  have hPM : va_P D vwCl (GM cy adM mt mc mb mo ms mk my mu ma me mr mp mg mw mf ml mq) H := hPM
  have hbA : ¬ (fun q : Nat => s.heap.size ≤ q) b := Nat.not_le.mpr hbl
  obtain ⟨q, q', hq, hq', hInv⟩ := hok (xs (x3 + (1 : Int32)).toNatClampNeg) (xs (x3 + (2 : Int32)).toNatClampNeg)
  refine lv_aload_n hx hb dL_law_263 rfl (lv_at hl 1 rfl) ?_
  refine lv_aload_n hx hb dL_law_264 rfl (lv_at hl 0 rfl) ?_
  refine lv_iload_n hx hb dL_law_265 rfl (lv_at hl 3 rfl) ?_
  refine lv_iconst (v := (1 : Int32)) hx hb dL_law_266 (by decide) ?_
  refine lv_iadd hx hb dL_law_267 ?_
  refine va_sld hx hb hX hbl hbA hS (scr_in (j := 1) rfl e3 hiL (by decide) hL) dL_law_268 ?_
  refine lv_aload_n hx hb dL_law_269 rfl (lv_at hl 0 rfl) ?_
  refine lv_iload_n hx hb dL_law_270 rfl (lv_at hl 3 rfl) ?_
  refine lv_iconst (v := (2 : Int32)) hx hb dL_law_271 (by decide) ?_
  refine lv_iadd hx hb dL_law_272 ?_
  refine va_sld hx hb hX hbl hbA hS (scr_in (j := 2) rfl e3 hiL (by decide) hL) dL_law_273 ?_
  refine cPi (run_V (rest := []) C (kX11_entry hq) caX11_entry w1136 ⟨rfl, rfl, Nat.le_of_ble_eq_true rfl, Nat.le_of_ble_eq_true rfl⟩ hK hN hP (rX0 hK hP) rfl hl.1 rfl (Nat.le_of_ble_eq_true rfl) dL_law_274 ⟨Nat.le_of_ble_eq_true rfl, Nat.le_of_ble_eq_true rfl⟩) ?_
  refine lv_pop hx hb dL_law_277 rfl ?_
  refine lv_aload_n hx hb dL_law_278 rfl (lv_at hl 2 rfl) ?_
  refine lv_aload_n hx hb dL_law_279 rfl (lv_at hl 0 rfl) ?_
  refine lv_iload_n hx hb dL_law_280 rfl (lv_at hl 3 rfl) ?_
  refine lv_iconst (v := (1 : Int32)) hx hb dL_law_281 (by decide) ?_
  refine lv_iadd hx hb dL_law_282 ?_
  refine va_sld hx hb hX hbl hbA hS (scr_in (j := 1) rfl e3 hiL (by decide) hL) dL_law_283 ?_
  refine lv_aload_n hx hb dL_law_284 rfl (lv_at hl 0 rfl) ?_
  refine lv_iload_n hx hb dL_law_285 rfl (lv_at hl 3 rfl) ?_
  refine lv_iconst (v := (2 : Int32)) hx hb dL_law_286 (by decide) ?_
  refine lv_iadd hx hb dL_law_287 ?_
  refine va_sld hx hb hX hbl hbA hS (scr_in (j := 2) rfl e3 hiL (by decide) hL) dL_law_288 ?_
  refine cPi (run_V (rest := []) C (kX12_entry hq') caX12_entry w1883 ⟨rfl, rfl, Nat.le_of_ble_eq_true rfl, Nat.le_of_ble_eq_true rfl⟩ hK hN hPM (rM0 hK hPM) rfl hl.1 rfl (Nat.le_of_ble_eq_true rfl) dL_law_289 ⟨Nat.le_of_ble_eq_true rfl, Nat.le_of_ble_eq_true rfl⟩) ?_
  refine lv_pop hx hb dL_law_292 rfl ?_
  refine lv_goto (tgt := 613) hx hb dL_law_293 (by decide) ?_
  exact kk (nm, tp, kp, cu, se, ur, ab, lo, im, sy, un, en, ra, li, i2) (mt, mc, mb, mo, ms, mk, my, mu, ma, me, mr, mp, mg, mw, mf, ml, mq) H locs ls hInv ⟨adX, adM, rfl, rfl, hIX, hIM, hzX, hzM, hne, hP, hPM, hS⟩ hl
def OK_holds (I9 : TX → TM → Prop) (nm : Tnm) (tp : Ttp) (kp : Tkp) (cu : Tcu) (se : Tse) (ur : Tur) (ab : Tab) (lo : Tlo) (im : Tim) (sy : Tsy) (un : Tun) (en : Ten) (ra : Tra) (li : Tli) (i2 : Ti2) (mt : Tmt) (mc : Tmc) (mb : Tmb) (mo : Tmo) (ms : Tms) (mk : Tmk) (my : Tmy) (mu : Tmu) (ma : Tma) (me : Tme) (mr : Tmr) (mp : Tmp) (mg : Tmg) (mw : Tmw) (mf : Tmf) (ml : Tml) (mq : Tmq) : Prop := ∀ (a0 : Int32) (a1 : Int64), ∃ (q : Int32) (q' : Int32), X11_holds en ra a0 a1 = some q ∧ X12_holds mo me mg a0 a1 = some q' ∧ I9 (nm, tp, kp, cu, se, ur, ab, lo, im, sy, un, en, ra, li, i2) (mt, mc, mb, mo, ms, mk, my, mu, ma, me, mr, mp, mg, mw, mf, ml, mq)
set_option maxRecDepth 20000 in
theorem law_holds {b L i : Nat} {xs : Nat → Int32} {x3 : Int32} {r1 r2 : Nat} {I9 : TX → TM → Prop} {nm : Tnm} {tp : Ttp} {kp : Tkp} {cu : Tcu} {se : Tse} {ur : Tur} {ab : Tab} {lo : Tlo} {im : Tim} {sy : Tsy} {un : Tun} {en : Ten} {ra : Tra} {li : Tli} {i2 : Ti2} {mt : Tmt} {mc : Tmc} {mb : Tmb} {mo : Tmo} {ms : Tms} {mk : Tmk} {my : Tmy} {mu : Tmu} {ma : Tma} {me : Tme} {mr : Tmr} {mp : Tmp} {mg : Tmg} {mw : Tmw} {mf : Tmf} {ml : Tml} {mq : Tmq} (C : Cx p s m args meth c cL_law 4 (some .boolean) RL x0) (hK : va_K D vwCl (tysX cy) s) (hN : NW s) (hF : SF t adK adV (fun q => s.heap.size ≤ q) s s.heap) (hX : va_X b L xs s s.heap) (hbl : b < s.heap.size) (hiL : i + 6 ≤ L) (hL : L < 2 ^ 31) (e3 : x3 = nI i) (hW : LW D cy r1 r2 (nm, tp, kp, cu, se, ur, ab, lo, im, sy, un, en, ra, li, i2) (mt, mc, mb, mo, ms, mk, my, mu, ma, me, mr, mp, mg, mw, mf, ml, mq) s.heap H locs) (hok : OK_holds I9 nm tp kp cu se ur ab lo im sy un en ra li i2 mt mc mb mo ms mk my mu ma me mr mp mg mw mf ml mq)
    (kk : ∀ (X : TX) (M : TM) (H : Heap) (locs : List Loc) (ls : Array Slot), I9 X M → LW D cy r1 r2 X M s.heap H locs → lv_has ls 4 [(0, .ref b), (1, .ref r1), (2, .ref r2), (3, .int x3)] → W p l e room_1 s m args below meth c H locs 160 97966 Q (F0 m 613 ls []))
    {ls : Array Slot} (hl : lv_has ls 4 [(0, .ref b), (1, .ref r1), (2, .ref r2), (3, .int x3)]) : W p l e room_1 s m args below meth c H locs 160 97966 Q (F0 m 296 ls []) := by
  obtain ⟨hx, hb, hml, hown, hts, hr, hlk⟩ := id C
  obtain ⟨adX, adM, rfl, rfl, hIX, hIM, hzX, hzM, hne, hP, hPM, hS⟩ := hW
  have hP : va_P D vwCl (GX cy adX (adX 21) (adX 55) nm tp kp cu se ur ab lo im sy un en ra li i2) H := hP
  have hPM : va_P D vwCl (GM cy adM mt mc mb mo ms mk my mu ma me mr mp mg mw mf ml mq) H := hPM
  have hbA : ¬ (fun q : Nat => s.heap.size ≤ q) b := Nat.not_le.mpr hbl
  obtain ⟨q, q', hq, hq', hInv⟩ := hok (xs (x3 + (1 : Int32)).toNatClampNeg) (((((xs (x3 + (2 : Int32)).toNatClampNeg)).toInt64) <<< (((32 : Int32)).toInt64 &&& 63)) ||| ((((xs (x3 + (3 : Int32)).toNatClampNeg)).toInt64) &&& (4294967295 : Int64)))
  refine lv_aload_n hx hb dL_law_296 rfl (lv_at hl 1 rfl) ?_
  refine lv_aload_n hx hb dL_law_297 rfl (lv_at hl 0 rfl) ?_
  refine lv_iload_n hx hb dL_law_298 rfl (lv_at hl 3 rfl) ?_
  refine lv_iconst (v := (1 : Int32)) hx hb dL_law_299 (by decide) ?_
  refine lv_iadd hx hb dL_law_300 ?_
  refine va_sld hx hb hX hbl hbA hS (scr_in (j := 1) rfl e3 hiL (by decide) hL) dL_law_301 ?_
  refine lv_aload_n hx hb dL_law_302 rfl (lv_at hl 0 rfl) ?_
  refine lv_iload_n hx hb dL_law_303 rfl (lv_at hl 3 rfl) ?_
  refine lv_iconst (v := (2 : Int32)) hx hb dL_law_304 (by decide) ?_
  refine lv_iadd hx hb dL_law_305 ?_
  refine va_sld hx hb hX hbl hbA hS (scr_in (j := 2) rfl e3 hiL (by decide) hL) dL_law_306 ?_
  refine lv_i2l (v := ((xs (x3 + (2 : Int32)).toNatClampNeg)).toInt64) hx hb dL_law_307 rfl ?_
  refine lv_bipush (v := (32 : Int32)) hx hb dL_law_308 (by decide) ?_
  refine lv_lshl (v := ((((xs (x3 + (2 : Int32)).toNatClampNeg)).toInt64) <<< (((32 : Int32)).toInt64 &&& 63))) hx hb dL_law_310 rfl ?_
  refine lv_aload_n hx hb dL_law_311 rfl (lv_at hl 0 rfl) ?_
  refine lv_iload_n hx hb dL_law_312 rfl (lv_at hl 3 rfl) ?_
  refine lv_iconst (v := (3 : Int32)) hx hb dL_law_313 (by decide) ?_
  refine lv_iadd hx hb dL_law_314 ?_
  refine va_sld hx hb hX hbl hbA hS (scr_in (j := 3) rfl e3 hiL (by decide) hL) dL_law_315 ?_
  refine lv_i2l (v := ((xs (x3 + (3 : Int32)).toNatClampNeg)).toInt64) hx hb dL_law_316 rfl ?_
  refine lv_ldc2 (v := (4294967295 : Int64)) hx hb hown (hts _ (List.mem_cons_of_mem _ w1962)) dL_law_317 ?_
  refine lv_land hx hb dL_law_320 ?_
  refine lv_lor hx hb dL_law_321 ?_
  refine cPi (run_V (rest := []) C (kX11_holds hq) caX11_holds w1169 ⟨rfl, rfl, Nat.le_of_ble_eq_true rfl, Nat.le_of_ble_eq_true rfl⟩ hK hN hP (rX0 hK hP) rfl hl.1 rfl (Nat.le_of_ble_eq_true rfl) dL_law_322 ⟨Nat.le_of_ble_eq_true rfl, Nat.le_of_ble_eq_true rfl⟩) ?_
  refine lv_pop hx hb dL_law_325 rfl ?_
  refine lv_aload_n hx hb dL_law_326 rfl (lv_at hl 2 rfl) ?_
  refine lv_aload_n hx hb dL_law_327 rfl (lv_at hl 0 rfl) ?_
  refine lv_iload_n hx hb dL_law_328 rfl (lv_at hl 3 rfl) ?_
  refine lv_iconst (v := (1 : Int32)) hx hb dL_law_329 (by decide) ?_
  refine lv_iadd hx hb dL_law_330 ?_
  refine va_sld hx hb hX hbl hbA hS (scr_in (j := 1) rfl e3 hiL (by decide) hL) dL_law_331 ?_
  refine lv_aload_n hx hb dL_law_332 rfl (lv_at hl 0 rfl) ?_
  refine lv_iload_n hx hb dL_law_333 rfl (lv_at hl 3 rfl) ?_
  refine lv_iconst (v := (2 : Int32)) hx hb dL_law_334 (by decide) ?_
  refine lv_iadd hx hb dL_law_335 ?_
  refine va_sld hx hb hX hbl hbA hS (scr_in (j := 2) rfl e3 hiL (by decide) hL) dL_law_336 ?_
  refine lv_i2l (v := ((xs (x3 + (2 : Int32)).toNatClampNeg)).toInt64) hx hb dL_law_337 rfl ?_
  refine lv_bipush (v := (32 : Int32)) hx hb dL_law_338 (by decide) ?_
  refine lv_lshl (v := ((((xs (x3 + (2 : Int32)).toNatClampNeg)).toInt64) <<< (((32 : Int32)).toInt64 &&& 63))) hx hb dL_law_340 rfl ?_
  refine lv_aload_n hx hb dL_law_341 rfl (lv_at hl 0 rfl) ?_
  refine lv_iload_n hx hb dL_law_342 rfl (lv_at hl 3 rfl) ?_
  refine lv_iconst (v := (3 : Int32)) hx hb dL_law_343 (by decide) ?_
  refine lv_iadd hx hb dL_law_344 ?_
  refine va_sld hx hb hX hbl hbA hS (scr_in (j := 3) rfl e3 hiL (by decide) hL) dL_law_345 ?_
  refine lv_i2l (v := ((xs (x3 + (3 : Int32)).toNatClampNeg)).toInt64) hx hb dL_law_346 rfl ?_
  refine lv_ldc2 (v := (4294967295 : Int64)) hx hb hown (hts _ (List.mem_cons_of_mem _ w1962)) dL_law_347 ?_
  refine lv_land hx hb dL_law_350 ?_
  refine lv_lor hx hb dL_law_351 ?_
  refine cPi (run_V (rest := []) C (kX12_holds hq') caX12_holds w1903 ⟨rfl, rfl, Nat.le_of_ble_eq_true rfl, Nat.le_of_ble_eq_true rfl⟩ hK hN hPM (rM0 hK hPM) rfl hl.1 rfl (Nat.le_of_ble_eq_true rfl) dL_law_352 ⟨Nat.le_of_ble_eq_true rfl, Nat.le_of_ble_eq_true rfl⟩) ?_
  refine lv_pop hx hb dL_law_355 rfl ?_
  refine lv_goto (tgt := 613) hx hb dL_law_356 (by decide) ?_
  exact kk (nm, tp, kp, cu, se, ur, ab, lo, im, sy, un, en, ra, li, i2) (mt, mc, mb, mo, ms, mk, my, mu, ma, me, mr, mp, mg, mw, mf, ml, mq) H locs ls hInv ⟨adX, adM, rfl, rfl, hIX, hIM, hzX, hzM, hne, hP, hPM, hS⟩ hl
def OK_row (I9 : TX → TM → Prop) (nm : Tnm) (tp : Ttp) (kp : Tkp) (cu : Tcu) (se : Tse) (ur : Tur) (ab : Tab) (lo : Tlo) (im : Tim) (sy : Tsy) (un : Tun) (en : Ten) (ra : Tra) (li : Tli) (i2 : Ti2) (mt : Tmt) (mc : Tmc) (mb : Tmb) (mo : Tmo) (ms : Tms) (mk : Tmk) (my : Tmy) (mu : Tmu) (ma : Tma) (me : Tme) (mr : Tmr) (mp : Tmp) (mg : Tmg) (mw : Tmw) (mf : Tmf) (ml : Tml) (mq : Tmq) : Prop := ∀ (a0 : Int32) (a1 : Int32), ∃ (q : Int32) (q' : Int32), X11_row li a0 a1 = q ∧ X12_row mo mw a0 a1 = some q' ∧ I9 (nm, tp, kp, cu, se, ur, ab, lo, im, sy, un, en, ra, li, i2) (mt, mc, mb, mo, ms, mk, my, mu, ma, me, mr, mp, mg, mw, mf, ml, mq)
set_option maxRecDepth 20000 in
theorem law_row {b L i : Nat} {xs : Nat → Int32} {x3 : Int32} {r1 r2 : Nat} {I9 : TX → TM → Prop} {nm : Tnm} {tp : Ttp} {kp : Tkp} {cu : Tcu} {se : Tse} {ur : Tur} {ab : Tab} {lo : Tlo} {im : Tim} {sy : Tsy} {un : Tun} {en : Ten} {ra : Tra} {li : Tli} {i2 : Ti2} {mt : Tmt} {mc : Tmc} {mb : Tmb} {mo : Tmo} {ms : Tms} {mk : Tmk} {my : Tmy} {mu : Tmu} {ma : Tma} {me : Tme} {mr : Tmr} {mp : Tmp} {mg : Tmg} {mw : Tmw} {mf : Tmf} {ml : Tml} {mq : Tmq} (C : Cx p s m args meth c cL_law 4 (some .boolean) RL x0) (hK : va_K D vwCl (tysX cy) s) (hN : NW s) (hF : SF t adK adV (fun q => s.heap.size ≤ q) s s.heap) (hX : va_X b L xs s s.heap) (hbl : b < s.heap.size) (hiL : i + 6 ≤ L) (hL : L < 2 ^ 31) (e3 : x3 = nI i) (hW : LW D cy r1 r2 (nm, tp, kp, cu, se, ur, ab, lo, im, sy, un, en, ra, li, i2) (mt, mc, mb, mo, ms, mk, my, mu, ma, me, mr, mp, mg, mw, mf, ml, mq) s.heap H locs) (hok : OK_row I9 nm tp kp cu se ur ab lo im sy un en ra li i2 mt mc mb mo ms mk my mu ma me mr mp mg mw mf ml mq)
    (kk : ∀ (X : TX) (M : TM) (H : Heap) (locs : List Loc) (ls : Array Slot), I9 X M → LW D cy r1 r2 X M s.heap H locs → lv_has ls 4 [(0, .ref b), (1, .ref r1), (2, .ref r2), (3, .int x3)] → W p l e room_1 s m args below meth c H locs 160 97966 Q (F0 m 613 ls []))
    {ls : Array Slot} (hl : lv_has ls 4 [(0, .ref b), (1, .ref r1), (2, .ref r2), (3, .int x3)]) : W p l e room_1 s m args below meth c H locs 160 97966 Q (F0 m 359 ls []) := by
  obtain ⟨hx, hb, hml, hown, hts, hr, hlk⟩ := id C
  obtain ⟨adX, adM, rfl, rfl, hIX, hIM, hzX, hzM, hne, hP, hPM, hS⟩ := hW
  have hP : va_P D vwCl (GX cy adX (adX 21) (adX 55) nm tp kp cu se ur ab lo im sy un en ra li i2) H := hP
  have hPM : va_P D vwCl (GM cy adM mt mc mb mo ms mk my mu ma me mr mp mg mw mf ml mq) H := hPM
  have hbA : ¬ (fun q : Nat => s.heap.size ≤ q) b := Nat.not_le.mpr hbl
  obtain ⟨q, q', hq, hq', hInv⟩ := hok (xs (x3 + (1 : Int32)).toNatClampNeg) (xs (x3 + (2 : Int32)).toNatClampNeg)
  refine lv_aload_n hx hb dL_law_359 rfl (lv_at hl 1 rfl) ?_
  refine lv_aload_n hx hb dL_law_360 rfl (lv_at hl 0 rfl) ?_
  refine lv_iload_n hx hb dL_law_361 rfl (lv_at hl 3 rfl) ?_
  refine lv_iconst (v := (1 : Int32)) hx hb dL_law_362 (by decide) ?_
  refine lv_iadd hx hb dL_law_363 ?_
  refine va_sld hx hb hX hbl hbA hS (scr_in (j := 1) rfl e3 hiL (by decide) hL) dL_law_364 ?_
  refine lv_aload_n hx hb dL_law_365 rfl (lv_at hl 0 rfl) ?_
  refine lv_iload_n hx hb dL_law_366 rfl (lv_at hl 3 rfl) ?_
  refine lv_iconst (v := (2 : Int32)) hx hb dL_law_367 (by decide) ?_
  refine lv_iadd hx hb dL_law_368 ?_
  refine va_sld hx hb hX hbl hbA hS (scr_in (j := 2) rfl e3 hiL (by decide) hL) dL_law_369 ?_
  refine cPi (run_V (rest := []) C (kX11_row hq) caX11_row w1188 ⟨rfl, rfl, Nat.le_of_ble_eq_true rfl, Nat.le_of_ble_eq_true rfl⟩ hK hN hP (rX0 hK hP) rfl hl.1 rfl (Nat.le_of_ble_eq_true rfl) dL_law_370 ⟨Nat.le_of_ble_eq_true rfl, Nat.le_of_ble_eq_true rfl⟩) ?_
  refine lv_pop hx hb dL_law_373 rfl ?_
  refine lv_aload_n hx hb dL_law_374 rfl (lv_at hl 2 rfl) ?_
  refine lv_aload_n hx hb dL_law_375 rfl (lv_at hl 0 rfl) ?_
  refine lv_iload_n hx hb dL_law_376 rfl (lv_at hl 3 rfl) ?_
  refine lv_iconst (v := (1 : Int32)) hx hb dL_law_377 (by decide) ?_
  refine lv_iadd hx hb dL_law_378 ?_
  refine va_sld hx hb hX hbl hbA hS (scr_in (j := 1) rfl e3 hiL (by decide) hL) dL_law_379 ?_
  refine lv_aload_n hx hb dL_law_380 rfl (lv_at hl 0 rfl) ?_
  refine lv_iload_n hx hb dL_law_381 rfl (lv_at hl 3 rfl) ?_
  refine lv_iconst (v := (2 : Int32)) hx hb dL_law_382 (by decide) ?_
  refine lv_iadd hx hb dL_law_383 ?_
  refine va_sld hx hb hX hbl hbA hS (scr_in (j := 2) rfl e3 hiL (by decide) hL) dL_law_384 ?_
  refine cPi (run_V (rest := []) C (kX12_row hq') caX12_row w1907 ⟨rfl, rfl, Nat.le_of_ble_eq_true rfl, Nat.le_of_ble_eq_true rfl⟩ hK hN hPM (rM0 hK hPM) rfl hl.1 rfl (Nat.le_of_ble_eq_true rfl) dL_law_385 ⟨Nat.le_of_ble_eq_true rfl, Nat.le_of_ble_eq_true rfl⟩) ?_
  refine lv_pop hx hb dL_law_388 rfl ?_
  refine lv_goto (tgt := 613) hx hb dL_law_389 (by decide) ?_
  exact kk (nm, tp, kp, cu, se, ur, ab, lo, im, sy, un, en, ra, li, i2) (mt, mc, mb, mo, ms, mk, my, mu, ma, me, mr, mp, mg, mw, mf, ml, mq) H locs ls hInv ⟨adX, adM, rfl, rfl, hIX, hIM, hzX, hzM, hne, hP, hPM, hS⟩ hl
def OK_rowAt (I9 : TX → TM → Prop) (nm : Tnm) (tp : Ttp) (kp : Tkp) (cu : Tcu) (se : Tse) (ur : Tur) (ab : Tab) (lo : Tlo) (im : Tim) (sy : Tsy) (un : Tun) (en : Ten) (ra : Tra) (li : Tli) (i2 : Ti2) (mt : Tmt) (mc : Tmc) (mb : Tmb) (mo : Tmo) (ms : Tms) (mk : Tmk) (my : Tmy) (mu : Tmu) (ma : Tma) (me : Tme) (mr : Tmr) (mp : Tmp) (mg : Tmg) (mw : Tmw) (mf : Tmf) (ml : Tml) (mq : Tmq) : Prop := ∀ (a0 : Int32), ∃ (q : Int64) (q' : Int64), X11_rowAt li a0 = q ∧ X12_rowAt mo mw a0 = some q' ∧ I9 (nm, tp, kp, cu, se, ur, ab, lo, im, sy, un, en, ra, li, i2) (mt, mc, mb, mo, ms, mk, my, mu, ma, me, mr, mp, mg, mw, mf, ml, mq)
set_option maxRecDepth 20000 in
theorem law_rowAt {b L i : Nat} {xs : Nat → Int32} {x3 : Int32} {r1 r2 : Nat} {I9 : TX → TM → Prop} {nm : Tnm} {tp : Ttp} {kp : Tkp} {cu : Tcu} {se : Tse} {ur : Tur} {ab : Tab} {lo : Tlo} {im : Tim} {sy : Tsy} {un : Tun} {en : Ten} {ra : Tra} {li : Tli} {i2 : Ti2} {mt : Tmt} {mc : Tmc} {mb : Tmb} {mo : Tmo} {ms : Tms} {mk : Tmk} {my : Tmy} {mu : Tmu} {ma : Tma} {me : Tme} {mr : Tmr} {mp : Tmp} {mg : Tmg} {mw : Tmw} {mf : Tmf} {ml : Tml} {mq : Tmq} (C : Cx p s m args meth c cL_law 4 (some .boolean) RL x0) (hK : va_K D vwCl (tysX cy) s) (hN : NW s) (hF : SF t adK adV (fun q => s.heap.size ≤ q) s s.heap) (hX : va_X b L xs s s.heap) (hbl : b < s.heap.size) (hiL : i + 6 ≤ L) (hL : L < 2 ^ 31) (e3 : x3 = nI i) (hW : LW D cy r1 r2 (nm, tp, kp, cu, se, ur, ab, lo, im, sy, un, en, ra, li, i2) (mt, mc, mb, mo, ms, mk, my, mu, ma, me, mr, mp, mg, mw, mf, ml, mq) s.heap H locs) (hok : OK_rowAt I9 nm tp kp cu se ur ab lo im sy un en ra li i2 mt mc mb mo ms mk my mu ma me mr mp mg mw mf ml mq)
    (kk : ∀ (X : TX) (M : TM) (H : Heap) (locs : List Loc) (ls : Array Slot), I9 X M → LW D cy r1 r2 X M s.heap H locs → lv_has ls 4 [(0, .ref b), (1, .ref r1), (2, .ref r2), (3, .int x3)] → W p l e room_1 s m args below meth c H locs 160 97966 Q (F0 m 613 ls []))
    {ls : Array Slot} (hl : lv_has ls 4 [(0, .ref b), (1, .ref r1), (2, .ref r2), (3, .int x3)]) : W p l e room_1 s m args below meth c H locs 160 97966 Q (F0 m 392 ls []) := by
  obtain ⟨hx, hb, hml, hown, hts, hr, hlk⟩ := id C
  obtain ⟨adX, adM, rfl, rfl, hIX, hIM, hzX, hzM, hne, hP, hPM, hS⟩ := hW
  have hP : va_P D vwCl (GX cy adX (adX 21) (adX 55) nm tp kp cu se ur ab lo im sy un en ra li i2) H := hP
  have hPM : va_P D vwCl (GM cy adM mt mc mb mo ms mk my mu ma me mr mp mg mw mf ml mq) H := hPM
  have hbA : ¬ (fun q : Nat => s.heap.size ≤ q) b := Nat.not_le.mpr hbl
  obtain ⟨q, q', hq, hq', hInv⟩ := hok (xs (x3 + (1 : Int32)).toNatClampNeg)
  refine lv_aload_n hx hb dL_law_392 rfl (lv_at hl 1 rfl) ?_
  refine lv_aload_n hx hb dL_law_393 rfl (lv_at hl 0 rfl) ?_
  refine lv_iload_n hx hb dL_law_394 rfl (lv_at hl 3 rfl) ?_
  refine lv_iconst (v := (1 : Int32)) hx hb dL_law_395 (by decide) ?_
  refine lv_iadd hx hb dL_law_396 ?_
  refine va_sld hx hb hX hbl hbA hS (scr_in (j := 1) rfl e3 hiL (by decide) hL) dL_law_397 ?_
  refine cPl (run_V (rest := []) C (kX11_rowAt hq) caX11_rowAt w1212 ⟨rfl, rfl, Nat.le_of_ble_eq_true rfl, Nat.le_of_ble_eq_true rfl⟩ hK hN hP (rX0 hK hP) rfl hl.1 rfl (Nat.le_of_ble_eq_true rfl) dL_law_398 ⟨Nat.le_of_ble_eq_true rfl, Nat.le_of_ble_eq_true rfl⟩) ?_
  refine lv_pop2_2 hx hb dL_law_401 rfl ?_
  refine lv_aload_n hx hb dL_law_402 rfl (lv_at hl 2 rfl) ?_
  refine lv_aload_n hx hb dL_law_403 rfl (lv_at hl 0 rfl) ?_
  refine lv_iload_n hx hb dL_law_404 rfl (lv_at hl 3 rfl) ?_
  refine lv_iconst (v := (1 : Int32)) hx hb dL_law_405 (by decide) ?_
  refine lv_iadd hx hb dL_law_406 ?_
  refine va_sld hx hb hX hbl hbA hS (scr_in (j := 1) rfl e3 hiL (by decide) hL) dL_law_407 ?_
  refine cPl (run_V (rest := []) C (kX12_rowAt hq') caX12_rowAt w1911 ⟨rfl, rfl, Nat.le_of_ble_eq_true rfl, Nat.le_of_ble_eq_true rfl⟩ hK hN hPM (rM0 hK hPM) rfl hl.1 rfl (Nat.le_of_ble_eq_true rfl) dL_law_408 ⟨Nat.le_of_ble_eq_true rfl, Nat.le_of_ble_eq_true rfl⟩) ?_
  refine lv_pop2_2 hx hb dL_law_411 rfl ?_
  refine lv_goto (tgt := 613) hx hb dL_law_412 (by decide) ?_
  exact kk (nm, tp, kp, cu, se, ur, ab, lo, im, sy, un, en, ra, li, i2) (mt, mc, mb, mo, ms, mk, my, mu, ma, me, mr, mp, mg, mw, mf, ml, mq) H locs ls hInv ⟨adX, adM, rfl, rfl, hIX, hIM, hzX, hzM, hne, hP, hPM, hS⟩ hl
def OK_find (I9 : TX → TM → Prop) (nm : Tnm) (tp : Ttp) (kp : Tkp) (cu : Tcu) (se : Tse) (ur : Tur) (ab : Tab) (lo : Tlo) (im : Tim) (sy : Tsy) (un : Tun) (en : Ten) (ra : Tra) (li : Tli) (i2 : Ti2) (mt : Tmt) (mc : Tmc) (mb : Tmb) (mo : Tmo) (ms : Tms) (mk : Tmk) (my : Tmy) (mu : Tmu) (ma : Tma) (me : Tme) (mr : Tmr) (mp : Tmp) (mg : Tmg) (mw : Tmw) (mf : Tmf) (ml : Tml) (mq : Tmq) : Prop := ∀ (a0 : Int64), ∃ (q : Int32 × Tlo) (q' : Int32 × Tmq), X11_find lo sy en ra li a0 = some q ∧ X12_find mo my me mg mw mq a0 = some q' ∧ I9 (nm, tp, kp, cu, se, ur, ab, q.2, im, sy, un, en, ra, li, i2) (mt, mc, mb, mo, ms, mk, my, mu, ma, me, mr, mp, mg, mw, mf, ml, q'.2)
set_option maxRecDepth 20000 in
theorem law_find {b L i : Nat} {xs : Nat → Int32} {x3 : Int32} {r1 r2 : Nat} {I9 : TX → TM → Prop} {nm : Tnm} {tp : Ttp} {kp : Tkp} {cu : Tcu} {se : Tse} {ur : Tur} {ab : Tab} {lo : Tlo} {im : Tim} {sy : Tsy} {un : Tun} {en : Ten} {ra : Tra} {li : Tli} {i2 : Ti2} {mt : Tmt} {mc : Tmc} {mb : Tmb} {mo : Tmo} {ms : Tms} {mk : Tmk} {my : Tmy} {mu : Tmu} {ma : Tma} {me : Tme} {mr : Tmr} {mp : Tmp} {mg : Tmg} {mw : Tmw} {mf : Tmf} {ml : Tml} {mq : Tmq} (C : Cx p s m args meth c cL_law 4 (some .boolean) RL x0) (hK : va_K D vwCl (tysX cy) s) (hN : NW s) (hF : SF t adK adV (fun q => s.heap.size ≤ q) s s.heap) (hX : va_X b L xs s s.heap) (hbl : b < s.heap.size) (hiL : i + 6 ≤ L) (hL : L < 2 ^ 31) (e3 : x3 = nI i) (hW : LW D cy r1 r2 (nm, tp, kp, cu, se, ur, ab, lo, im, sy, un, en, ra, li, i2) (mt, mc, mb, mo, ms, mk, my, mu, ma, me, mr, mp, mg, mw, mf, ml, mq) s.heap H locs) (hok : OK_find I9 nm tp kp cu se ur ab lo im sy un en ra li i2 mt mc mb mo ms mk my mu ma me mr mp mg mw mf ml mq)
    (kk : ∀ (X : TX) (M : TM) (H : Heap) (locs : List Loc) (ls : Array Slot), I9 X M → LW D cy r1 r2 X M s.heap H locs → lv_has ls 4 [(0, .ref b), (1, .ref r1), (2, .ref r2), (3, .int x3)] → W p l e room_1 s m args below meth c H locs 160 97966 Q (F0 m 613 ls []))
    {ls : Array Slot} (hl : lv_has ls 4 [(0, .ref b), (1, .ref r1), (2, .ref r2), (3, .int x3)]) : W p l e room_1 s m args below meth c H locs 160 97966 Q (F0 m 415 ls []) := by
  obtain ⟨hx, hb, hml, hown, hts, hr, hlk⟩ := id C
  obtain ⟨adX, adM, rfl, rfl, hIX, hIM, hzX, hzM, hne, hP, hPM, hS⟩ := hW
  have hP : va_P D vwCl (GX cy adX (adX 21) (adX 55) nm tp kp cu se ur ab lo im sy un en ra li i2) H := hP
  have hPM : va_P D vwCl (GM cy adM mt mc mb mo ms mk my mu ma me mr mp mg mw mf ml mq) H := hPM
  have hbA : ¬ (fun q : Nat => s.heap.size ≤ q) b := Nat.not_le.mpr hbl
  obtain ⟨q, q', hq, hq', hInv⟩ := hok (((((xs (x3 + (1 : Int32)).toNatClampNeg)).toInt64) <<< (((32 : Int32)).toInt64 &&& 63)) ||| ((((xs (x3 + (2 : Int32)).toNatClampNeg)).toInt64) &&& (4294967295 : Int64)))
  refine lv_aload_n hx hb dL_law_415 rfl (lv_at hl 1 rfl) ?_
  refine lv_aload_n hx hb dL_law_416 rfl (lv_at hl 0 rfl) ?_
  refine lv_iload_n hx hb dL_law_417 rfl (lv_at hl 3 rfl) ?_
  refine lv_iconst (v := (1 : Int32)) hx hb dL_law_418 (by decide) ?_
  refine lv_iadd hx hb dL_law_419 ?_
  refine va_sld hx hb hX hbl hbA hS (scr_in (j := 1) rfl e3 hiL (by decide) hL) dL_law_420 ?_
  refine lv_i2l (v := ((xs (x3 + (1 : Int32)).toNatClampNeg)).toInt64) hx hb dL_law_421 rfl ?_
  refine lv_bipush (v := (32 : Int32)) hx hb dL_law_422 (by decide) ?_
  refine lv_lshl (v := ((((xs (x3 + (1 : Int32)).toNatClampNeg)).toInt64) <<< (((32 : Int32)).toInt64 &&& 63))) hx hb dL_law_424 rfl ?_
  refine lv_aload_n hx hb dL_law_425 rfl (lv_at hl 0 rfl) ?_
  refine lv_iload_n hx hb dL_law_426 rfl (lv_at hl 3 rfl) ?_
  refine lv_iconst (v := (2 : Int32)) hx hb dL_law_427 (by decide) ?_
  refine lv_iadd hx hb dL_law_428 ?_
  refine va_sld hx hb hX hbl hbA hS (scr_in (j := 2) rfl e3 hiL (by decide) hL) dL_law_429 ?_
  refine lv_i2l (v := ((xs (x3 + (2 : Int32)).toNatClampNeg)).toInt64) hx hb dL_law_430 rfl ?_
  refine lv_ldc2 (v := (4294967295 : Int64)) hx hb hown (hts _ (List.mem_cons_of_mem _ w1962)) dL_law_431 ?_
  refine lv_land hx hb dL_law_434 ?_
  refine lv_lor hx hb dL_law_435 ?_
  refine cLi (run_V (rest := []) C (kX11_find hIX hq) caX11_find w1220 ⟨rfl, rfl, Nat.le_of_ble_eq_true rfl, Nat.le_of_ble_eq_true rfl⟩ hK hN hP (rX0 hK hP) rfl hl.1 rfl (Nat.le_of_ble_eq_true rfl) dL_law_436 ⟨Nat.le_of_ble_eq_true rfl, Nat.le_of_ble_eq_true rfl⟩) hS (Ac_le hzX) hPM (dis_of (GM_D hIM) hne) (fun H locs hP hPM hS => ?_)
  refine lv_pop hx hb dL_law_439 rfl ?_
  refine lv_aload_n hx hb dL_law_440 rfl (lv_at hl 2 rfl) ?_
  refine lv_aload_n hx hb dL_law_441 rfl (lv_at hl 0 rfl) ?_
  refine lv_iload_n hx hb dL_law_442 rfl (lv_at hl 3 rfl) ?_
  refine lv_iconst (v := (1 : Int32)) hx hb dL_law_443 (by decide) ?_
  refine lv_iadd hx hb dL_law_444 ?_
  refine va_sld hx hb hX hbl hbA hS (scr_in (j := 1) rfl e3 hiL (by decide) hL) dL_law_445 ?_
  refine lv_i2l (v := ((xs (x3 + (1 : Int32)).toNatClampNeg)).toInt64) hx hb dL_law_446 rfl ?_
  refine lv_bipush (v := (32 : Int32)) hx hb dL_law_447 (by decide) ?_
  refine lv_lshl (v := ((((xs (x3 + (1 : Int32)).toNatClampNeg)).toInt64) <<< (((32 : Int32)).toInt64 &&& 63))) hx hb dL_law_449 rfl ?_
  refine lv_aload_n hx hb dL_law_450 rfl (lv_at hl 0 rfl) ?_
  refine lv_iload_n hx hb dL_law_451 rfl (lv_at hl 3 rfl) ?_
  refine lv_iconst (v := (2 : Int32)) hx hb dL_law_452 (by decide) ?_
  refine lv_iadd hx hb dL_law_453 ?_
  refine va_sld hx hb hX hbl hbA hS (scr_in (j := 2) rfl e3 hiL (by decide) hL) dL_law_454 ?_
  refine lv_i2l (v := ((xs (x3 + (2 : Int32)).toNatClampNeg)).toInt64) hx hb dL_law_455 rfl ?_
  refine lv_ldc2 (v := (4294967295 : Int64)) hx hb hown (hts _ (List.mem_cons_of_mem _ w1962)) dL_law_456 ?_
  refine lv_land hx hb dL_law_459 ?_
  refine lv_lor hx hb dL_law_460 ?_
  refine cLi (run_V (rest := []) C (kX12_find hIM hq') caX12_find w1915 ⟨rfl, rfl, Nat.le_of_ble_eq_true rfl, Nat.le_of_ble_eq_true rfl⟩ hK hN hPM (rM0 hK hPM) rfl hl.1 rfl (Nat.le_of_ble_eq_true rfl) dL_law_461 ⟨Nat.le_of_ble_eq_true rfl, Nat.le_of_ble_eq_true rfl⟩) hS (Ac_le hzM) hP (dis_of (GX_D hIX) (fun i j hi hj e9 => hne j i hj hi e9.symm)) (fun H locs hPM hP hS => ?_)
  refine lv_pop hx hb dL_law_464 rfl ?_
  refine lv_goto (tgt := 613) hx hb dL_law_465 (by decide) ?_
  exact kk (nm, tp, kp, cu, se, ur, ab, q.2, im, sy, un, en, ra, li, i2) (mt, mc, mb, mo, ms, mk, my, mu, ma, me, mr, mp, mg, mw, mf, ml, q'.2) H locs ls hInv ⟨adX, adM, rfl, rfl, hIX, hIM, hzX, hzM, hne, hP, hPM, hS⟩ hl
def OK_frame (I9 : TX → TM → Prop) (nm : Tnm) (tp : Ttp) (kp : Tkp) (cu : Tcu) (se : Tse) (ur : Tur) (ab : Tab) (lo : Tlo) (im : Tim) (sy : Tsy) (un : Tun) (en : Ten) (ra : Tra) (li : Tli) (i2 : Ti2) (mt : Tmt) (mc : Tmc) (mb : Tmb) (mo : Tmo) (ms : Tms) (mk : Tmk) (my : Tmy) (mu : Tmu) (ma : Tma) (me : Tme) (mr : Tmr) (mp : Tmp) (mg : Tmg) (mw : Tmw) (mf : Tmf) (ml : Tml) (mq : Tmq) : Prop := ∀ (a0 : Int32) (a1 : Int32), ∃ (q : Int32) (q' : Int32), X11_frame lo un en li a0 a1 = some q ∧ X12_frame mo mu me mf mq a0 a1 = some q' ∧ I9 (nm, tp, kp, cu, se, ur, ab, lo, im, sy, un, en, ra, li, i2) (mt, mc, mb, mo, ms, mk, my, mu, ma, me, mr, mp, mg, mw, mf, ml, mq)
set_option maxRecDepth 20000 in
theorem law_frame {b L i : Nat} {xs : Nat → Int32} {x3 : Int32} {r1 r2 : Nat} {I9 : TX → TM → Prop} {nm : Tnm} {tp : Ttp} {kp : Tkp} {cu : Tcu} {se : Tse} {ur : Tur} {ab : Tab} {lo : Tlo} {im : Tim} {sy : Tsy} {un : Tun} {en : Ten} {ra : Tra} {li : Tli} {i2 : Ti2} {mt : Tmt} {mc : Tmc} {mb : Tmb} {mo : Tmo} {ms : Tms} {mk : Tmk} {my : Tmy} {mu : Tmu} {ma : Tma} {me : Tme} {mr : Tmr} {mp : Tmp} {mg : Tmg} {mw : Tmw} {mf : Tmf} {ml : Tml} {mq : Tmq} (C : Cx p s m args meth c cL_law 4 (some .boolean) RL x0) (hK : va_K D vwCl (tysX cy) s) (hN : NW s) (hF : SF t adK adV (fun q => s.heap.size ≤ q) s s.heap) (hX : va_X b L xs s s.heap) (hbl : b < s.heap.size) (hiL : i + 6 ≤ L) (hL : L < 2 ^ 31) (e3 : x3 = nI i) (hW : LW D cy r1 r2 (nm, tp, kp, cu, se, ur, ab, lo, im, sy, un, en, ra, li, i2) (mt, mc, mb, mo, ms, mk, my, mu, ma, me, mr, mp, mg, mw, mf, ml, mq) s.heap H locs) (hok : OK_frame I9 nm tp kp cu se ur ab lo im sy un en ra li i2 mt mc mb mo ms mk my mu ma me mr mp mg mw mf ml mq)
    (kk : ∀ (X : TX) (M : TM) (H : Heap) (locs : List Loc) (ls : Array Slot), I9 X M → LW D cy r1 r2 X M s.heap H locs → lv_has ls 4 [(0, .ref b), (1, .ref r1), (2, .ref r2), (3, .int x3)] → W p l e room_1 s m args below meth c H locs 160 97966 Q (F0 m 613 ls []))
    {ls : Array Slot} (hl : lv_has ls 4 [(0, .ref b), (1, .ref r1), (2, .ref r2), (3, .int x3)]) : W p l e room_1 s m args below meth c H locs 160 97966 Q (F0 m 468 ls []) := by
  obtain ⟨hx, hb, hml, hown, hts, hr, hlk⟩ := id C
  obtain ⟨adX, adM, rfl, rfl, hIX, hIM, hzX, hzM, hne, hP, hPM, hS⟩ := hW
  have hP : va_P D vwCl (GX cy adX (adX 21) (adX 55) nm tp kp cu se ur ab lo im sy un en ra li i2) H := hP
  have hPM : va_P D vwCl (GM cy adM mt mc mb mo ms mk my mu ma me mr mp mg mw mf ml mq) H := hPM
  have hbA : ¬ (fun q : Nat => s.heap.size ≤ q) b := Nat.not_le.mpr hbl
  obtain ⟨q, q', hq, hq', hInv⟩ := hok (xs (x3 + (1 : Int32)).toNatClampNeg) (xs (x3 + (2 : Int32)).toNatClampNeg)
  refine lv_aload_n hx hb dL_law_468 rfl (lv_at hl 1 rfl) ?_
  refine lv_aload_n hx hb dL_law_469 rfl (lv_at hl 0 rfl) ?_
  refine lv_iload_n hx hb dL_law_470 rfl (lv_at hl 3 rfl) ?_
  refine lv_iconst (v := (1 : Int32)) hx hb dL_law_471 (by decide) ?_
  refine lv_iadd hx hb dL_law_472 ?_
  refine va_sld hx hb hX hbl hbA hS (scr_in (j := 1) rfl e3 hiL (by decide) hL) dL_law_473 ?_
  refine lv_aload_n hx hb dL_law_474 rfl (lv_at hl 0 rfl) ?_
  refine lv_iload_n hx hb dL_law_475 rfl (lv_at hl 3 rfl) ?_
  refine lv_iconst (v := (2 : Int32)) hx hb dL_law_476 (by decide) ?_
  refine lv_iadd hx hb dL_law_477 ?_
  refine va_sld hx hb hX hbl hbA hS (scr_in (j := 2) rfl e3 hiL (by decide) hL) dL_law_478 ?_
  refine cPi (run_V (rest := []) C (kX11_frame hq) caX11_frame w1273 ⟨rfl, rfl, Nat.le_of_ble_eq_true rfl, Nat.le_of_ble_eq_true rfl⟩ hK hN hP (rX0 hK hP) rfl hl.1 rfl (Nat.le_of_ble_eq_true rfl) dL_law_479 ⟨Nat.le_of_ble_eq_true rfl, Nat.le_of_ble_eq_true rfl⟩) ?_
  refine lv_pop hx hb dL_law_482 rfl ?_
  refine lv_aload_n hx hb dL_law_483 rfl (lv_at hl 2 rfl) ?_
  refine lv_aload_n hx hb dL_law_484 rfl (lv_at hl 0 rfl) ?_
  refine lv_iload_n hx hb dL_law_485 rfl (lv_at hl 3 rfl) ?_
  refine lv_iconst (v := (1 : Int32)) hx hb dL_law_486 (by decide) ?_
  refine lv_iadd hx hb dL_law_487 ?_
  refine va_sld hx hb hX hbl hbA hS (scr_in (j := 1) rfl e3 hiL (by decide) hL) dL_law_488 ?_
  refine lv_aload_n hx hb dL_law_489 rfl (lv_at hl 0 rfl) ?_
  refine lv_iload_n hx hb dL_law_490 rfl (lv_at hl 3 rfl) ?_
  refine lv_iconst (v := (2 : Int32)) hx hb dL_law_491 (by decide) ?_
  refine lv_iadd hx hb dL_law_492 ?_
  refine va_sld hx hb hX hbl hbA hS (scr_in (j := 2) rfl e3 hiL (by decide) hL) dL_law_493 ?_
  refine cPi (run_V (rest := []) C (kX12_frame hq') caX12_frame w1934 ⟨rfl, rfl, Nat.le_of_ble_eq_true rfl, Nat.le_of_ble_eq_true rfl⟩ hK hN hPM (rM0 hK hPM) rfl hl.1 rfl (Nat.le_of_ble_eq_true rfl) dL_law_494 ⟨Nat.le_of_ble_eq_true rfl, Nat.le_of_ble_eq_true rfl⟩) ?_
  refine lv_pop hx hb dL_law_497 rfl ?_
  refine lv_goto (tgt := 613) hx hb dL_law_498 (by decide) ?_
  exact kk (nm, tp, kp, cu, se, ur, ab, lo, im, sy, un, en, ra, li, i2) (mt, mc, mb, mo, ms, mk, my, mu, ma, me, mr, mp, mg, mw, mf, ml, mq) H locs ls hInv ⟨adX, adM, rfl, rfl, hIX, hIM, hzX, hzM, hne, hP, hPM, hS⟩ hl
def OK_name (I9 : TX → TM → Prop) (nm : Tnm) (tp : Ttp) (kp : Tkp) (cu : Tcu) (se : Tse) (ur : Tur) (ab : Tab) (lo : Tlo) (im : Tim) (sy : Tsy) (un : Tun) (en : Ten) (ra : Tra) (li : Tli) (i2 : Ti2) (mt : Tmt) (mc : Tmc) (mb : Tmb) (mo : Tmo) (ms : Tms) (mk : Tmk) (my : Tmy) (mu : Tmu) (ma : Tma) (me : Tme) (mr : Tmr) (mp : Tmp) (mg : Tmg) (mw : Tmw) (mf : Tmf) (ml : Tml) (mq : Tmq) : Prop := ∀ (a0 : Int32) (a1 : Int32), ∃ (q : Int32) (q' : Int32), X11_name kp lo sy en a0 a1 = some q ∧ X12_name mb mo my me mq a0 a1 = some q' ∧ I9 (nm, tp, kp, cu, se, ur, ab, lo, im, sy, un, en, ra, li, i2) (mt, mc, mb, mo, ms, mk, my, mu, ma, me, mr, mp, mg, mw, mf, ml, mq)
set_option maxRecDepth 20000 in
theorem law_name {b L i : Nat} {xs : Nat → Int32} {x3 : Int32} {r1 r2 : Nat} {I9 : TX → TM → Prop} {nm : Tnm} {tp : Ttp} {kp : Tkp} {cu : Tcu} {se : Tse} {ur : Tur} {ab : Tab} {lo : Tlo} {im : Tim} {sy : Tsy} {un : Tun} {en : Ten} {ra : Tra} {li : Tli} {i2 : Ti2} {mt : Tmt} {mc : Tmc} {mb : Tmb} {mo : Tmo} {ms : Tms} {mk : Tmk} {my : Tmy} {mu : Tmu} {ma : Tma} {me : Tme} {mr : Tmr} {mp : Tmp} {mg : Tmg} {mw : Tmw} {mf : Tmf} {ml : Tml} {mq : Tmq} (C : Cx p s m args meth c cL_law 4 (some .boolean) RL x0) (hK : va_K D vwCl (tysX cy) s) (hN : NW s) (hF : SF t adK adV (fun q => s.heap.size ≤ q) s s.heap) (hX : va_X b L xs s s.heap) (hbl : b < s.heap.size) (hiL : i + 6 ≤ L) (hL : L < 2 ^ 31) (e3 : x3 = nI i) (hW : LW D cy r1 r2 (nm, tp, kp, cu, se, ur, ab, lo, im, sy, un, en, ra, li, i2) (mt, mc, mb, mo, ms, mk, my, mu, ma, me, mr, mp, mg, mw, mf, ml, mq) s.heap H locs) (hok : OK_name I9 nm tp kp cu se ur ab lo im sy un en ra li i2 mt mc mb mo ms mk my mu ma me mr mp mg mw mf ml mq)
    (kk : ∀ (X : TX) (M : TM) (H : Heap) (locs : List Loc) (ls : Array Slot), I9 X M → LW D cy r1 r2 X M s.heap H locs → lv_has ls 4 [(0, .ref b), (1, .ref r1), (2, .ref r2), (3, .int x3)] → W p l e room_1 s m args below meth c H locs 160 97966 Q (F0 m 613 ls []))
    {ls : Array Slot} (hl : lv_has ls 4 [(0, .ref b), (1, .ref r1), (2, .ref r2), (3, .int x3)]) : W p l e room_1 s m args below meth c H locs 160 97966 Q (F0 m 501 ls []) := by
  obtain ⟨hx, hb, hml, hown, hts, hr, hlk⟩ := id C
  obtain ⟨adX, adM, rfl, rfl, hIX, hIM, hzX, hzM, hne, hP, hPM, hS⟩ := hW
  have hP : va_P D vwCl (GX cy adX (adX 21) (adX 55) nm tp kp cu se ur ab lo im sy un en ra li i2) H := hP
  have hPM : va_P D vwCl (GM cy adM mt mc mb mo ms mk my mu ma me mr mp mg mw mf ml mq) H := hPM
  have hbA : ¬ (fun q : Nat => s.heap.size ≤ q) b := Nat.not_le.mpr hbl
  obtain ⟨q, q', hq, hq', hInv⟩ := hok (xs (x3 + (1 : Int32)).toNatClampNeg) (xs (x3 + (2 : Int32)).toNatClampNeg)
  refine lv_aload_n hx hb dL_law_501 rfl (lv_at hl 1 rfl) ?_
  refine lv_aload_n hx hb dL_law_502 rfl (lv_at hl 0 rfl) ?_
  refine lv_iload_n hx hb dL_law_503 rfl (lv_at hl 3 rfl) ?_
  refine lv_iconst (v := (1 : Int32)) hx hb dL_law_504 (by decide) ?_
  refine lv_iadd hx hb dL_law_505 ?_
  refine va_sld hx hb hX hbl hbA hS (scr_in (j := 1) rfl e3 hiL (by decide) hL) dL_law_506 ?_
  refine lv_aload_n hx hb dL_law_507 rfl (lv_at hl 0 rfl) ?_
  refine lv_iload_n hx hb dL_law_508 rfl (lv_at hl 3 rfl) ?_
  refine lv_iconst (v := (2 : Int32)) hx hb dL_law_509 (by decide) ?_
  refine lv_iadd hx hb dL_law_510 ?_
  refine va_sld hx hb hX hbl hbA hS (scr_in (j := 2) rfl e3 hiL (by decide) hL) dL_law_511 ?_
  refine cPi (run_V (rest := []) C (kX11_name hq) caX11_name w1302 ⟨rfl, rfl, Nat.le_of_ble_eq_true rfl, Nat.le_of_ble_eq_true rfl⟩ hK hN hP (rX0 hK hP) rfl hl.1 rfl (Nat.le_of_ble_eq_true rfl) dL_law_512 ⟨Nat.le_of_ble_eq_true rfl, Nat.le_of_ble_eq_true rfl⟩) ?_
  refine lv_pop hx hb dL_law_515 rfl ?_
  refine lv_aload_n hx hb dL_law_516 rfl (lv_at hl 2 rfl) ?_
  refine lv_aload_n hx hb dL_law_517 rfl (lv_at hl 0 rfl) ?_
  refine lv_iload_n hx hb dL_law_518 rfl (lv_at hl 3 rfl) ?_
  refine lv_iconst (v := (1 : Int32)) hx hb dL_law_519 (by decide) ?_
  refine lv_iadd hx hb dL_law_520 ?_
  refine va_sld hx hb hX hbl hbA hS (scr_in (j := 1) rfl e3 hiL (by decide) hL) dL_law_521 ?_
  refine lv_aload_n hx hb dL_law_522 rfl (lv_at hl 0 rfl) ?_
  refine lv_iload_n hx hb dL_law_523 rfl (lv_at hl 3 rfl) ?_
  refine lv_iconst (v := (2 : Int32)) hx hb dL_law_524 (by decide) ?_
  refine lv_iadd hx hb dL_law_525 ?_
  refine va_sld hx hb hX hbl hbA hS (scr_in (j := 2) rfl e3 hiL (by decide) hL) dL_law_526 ?_
  refine cPi (run_V (rest := []) C (kX12_name hq') caX12_name w1942 ⟨rfl, rfl, Nat.le_of_ble_eq_true rfl, Nat.le_of_ble_eq_true rfl⟩ hK hN hPM (rM0 hK hPM) rfl hl.1 rfl (Nat.le_of_ble_eq_true rfl) dL_law_527 ⟨Nat.le_of_ble_eq_true rfl, Nat.le_of_ble_eq_true rfl⟩) ?_
  refine lv_pop hx hb dL_law_530 rfl ?_
  refine lv_goto (tgt := 613) hx hb dL_law_531 (by decide) ?_
  exact kk (nm, tp, kp, cu, se, ur, ab, lo, im, sy, un, en, ra, li, i2) (mt, mc, mb, mo, ms, mk, my, mu, ma, me, mr, mp, mg, mw, mf, ml, mq) H locs ls hInv ⟨adX, adM, rfl, rfl, hIX, hIM, hzX, hzM, hne, hP, hPM, hS⟩ hl
def OK_file (I9 : TX → TM → Prop) (nm : Tnm) (tp : Ttp) (kp : Tkp) (cu : Tcu) (se : Tse) (ur : Tur) (ab : Tab) (lo : Tlo) (im : Tim) (sy : Tsy) (un : Tun) (en : Ten) (ra : Tra) (li : Tli) (i2 : Ti2) (mt : Tmt) (mc : Tmc) (mb : Tmb) (mo : Tmo) (ms : Tms) (mk : Tmk) (my : Tmy) (mu : Tmu) (ma : Tma) (me : Tme) (mr : Tmr) (mp : Tmp) (mg : Tmg) (mw : Tmw) (mf : Tmf) (ml : Tml) (mq : Tmq) : Prop := ∀ (a0 : Int32) (a1 : Int32), ∃ (q : Int32) (q' : Int32), X11_file kp lo un en li a0 a1 = some q ∧ X12_file mb mo mu me mf mq a0 a1 = some q' ∧ I9 (nm, tp, kp, cu, se, ur, ab, lo, im, sy, un, en, ra, li, i2) (mt, mc, mb, mo, ms, mk, my, mu, ma, me, mr, mp, mg, mw, mf, ml, mq)
set_option maxRecDepth 20000 in
theorem law_file {b L i : Nat} {xs : Nat → Int32} {x3 : Int32} {r1 r2 : Nat} {I9 : TX → TM → Prop} {nm : Tnm} {tp : Ttp} {kp : Tkp} {cu : Tcu} {se : Tse} {ur : Tur} {ab : Tab} {lo : Tlo} {im : Tim} {sy : Tsy} {un : Tun} {en : Ten} {ra : Tra} {li : Tli} {i2 : Ti2} {mt : Tmt} {mc : Tmc} {mb : Tmb} {mo : Tmo} {ms : Tms} {mk : Tmk} {my : Tmy} {mu : Tmu} {ma : Tma} {me : Tme} {mr : Tmr} {mp : Tmp} {mg : Tmg} {mw : Tmw} {mf : Tmf} {ml : Tml} {mq : Tmq} (C : Cx p s m args meth c cL_law 4 (some .boolean) RL x0) (hK : va_K D vwCl (tysX cy) s) (hN : NW s) (hF : SF t adK adV (fun q => s.heap.size ≤ q) s s.heap) (hX : va_X b L xs s s.heap) (hbl : b < s.heap.size) (hiL : i + 6 ≤ L) (hL : L < 2 ^ 31) (e3 : x3 = nI i) (hW : LW D cy r1 r2 (nm, tp, kp, cu, se, ur, ab, lo, im, sy, un, en, ra, li, i2) (mt, mc, mb, mo, ms, mk, my, mu, ma, me, mr, mp, mg, mw, mf, ml, mq) s.heap H locs) (hok : OK_file I9 nm tp kp cu se ur ab lo im sy un en ra li i2 mt mc mb mo ms mk my mu ma me mr mp mg mw mf ml mq)
    (kk : ∀ (X : TX) (M : TM) (H : Heap) (locs : List Loc) (ls : Array Slot), I9 X M → LW D cy r1 r2 X M s.heap H locs → lv_has ls 4 [(0, .ref b), (1, .ref r1), (2, .ref r2), (3, .int x3)] → W p l e room_1 s m args below meth c H locs 160 97966 Q (F0 m 613 ls []))
    {ls : Array Slot} (hl : lv_has ls 4 [(0, .ref b), (1, .ref r1), (2, .ref r2), (3, .int x3)]) : W p l e room_1 s m args below meth c H locs 160 97966 Q (F0 m 534 ls []) := by
  obtain ⟨hx, hb, hml, hown, hts, hr, hlk⟩ := id C
  obtain ⟨adX, adM, rfl, rfl, hIX, hIM, hzX, hzM, hne, hP, hPM, hS⟩ := hW
  have hP : va_P D vwCl (GX cy adX (adX 21) (adX 55) nm tp kp cu se ur ab lo im sy un en ra li i2) H := hP
  have hPM : va_P D vwCl (GM cy adM mt mc mb mo ms mk my mu ma me mr mp mg mw mf ml mq) H := hPM
  have hbA : ¬ (fun q : Nat => s.heap.size ≤ q) b := Nat.not_le.mpr hbl
  obtain ⟨q, q', hq, hq', hInv⟩ := hok (xs (x3 + (1 : Int32)).toNatClampNeg) (xs (x3 + (2 : Int32)).toNatClampNeg)
  refine lv_aload_n hx hb dL_law_534 rfl (lv_at hl 1 rfl) ?_
  refine lv_aload_n hx hb dL_law_535 rfl (lv_at hl 0 rfl) ?_
  refine lv_iload_n hx hb dL_law_536 rfl (lv_at hl 3 rfl) ?_
  refine lv_iconst (v := (1 : Int32)) hx hb dL_law_537 (by decide) ?_
  refine lv_iadd hx hb dL_law_538 ?_
  refine va_sld hx hb hX hbl hbA hS (scr_in (j := 1) rfl e3 hiL (by decide) hL) dL_law_539 ?_
  refine lv_aload_n hx hb dL_law_540 rfl (lv_at hl 0 rfl) ?_
  refine lv_iload_n hx hb dL_law_541 rfl (lv_at hl 3 rfl) ?_
  refine lv_iconst (v := (2 : Int32)) hx hb dL_law_542 (by decide) ?_
  refine lv_iadd hx hb dL_law_543 ?_
  refine va_sld hx hb hX hbl hbA hS (scr_in (j := 2) rfl e3 hiL (by decide) hL) dL_law_544 ?_
  refine cPi (run_V (rest := []) C (kX11_file hq) caX11_file w1327 ⟨rfl, rfl, Nat.le_of_ble_eq_true rfl, Nat.le_of_ble_eq_true rfl⟩ hK hN hP (rX0 hK hP) rfl hl.1 rfl (Nat.le_of_ble_eq_true rfl) dL_law_545 ⟨Nat.le_of_ble_eq_true rfl, Nat.le_of_ble_eq_true rfl⟩) ?_
  refine lv_pop hx hb dL_law_548 rfl ?_
  refine lv_aload_n hx hb dL_law_549 rfl (lv_at hl 2 rfl) ?_
  refine lv_aload_n hx hb dL_law_550 rfl (lv_at hl 0 rfl) ?_
  refine lv_iload_n hx hb dL_law_551 rfl (lv_at hl 3 rfl) ?_
  refine lv_iconst (v := (1 : Int32)) hx hb dL_law_552 (by decide) ?_
  refine lv_iadd hx hb dL_law_553 ?_
  refine va_sld hx hb hX hbl hbA hS (scr_in (j := 1) rfl e3 hiL (by decide) hL) dL_law_554 ?_
  refine lv_aload_n hx hb dL_law_555 rfl (lv_at hl 0 rfl) ?_
  refine lv_iload_n hx hb dL_law_556 rfl (lv_at hl 3 rfl) ?_
  refine lv_iconst (v := (2 : Int32)) hx hb dL_law_557 (by decide) ?_
  refine lv_iadd hx hb dL_law_558 ?_
  refine va_sld hx hb hX hbl hbA hS (scr_in (j := 2) rfl e3 hiL (by decide) hL) dL_law_559 ?_
  refine cPi (run_V (rest := []) C (kX12_file hq') caX12_file w1950 ⟨rfl, rfl, Nat.le_of_ble_eq_true rfl, Nat.le_of_ble_eq_true rfl⟩ hK hN hPM (rM0 hK hPM) rfl hl.1 rfl (Nat.le_of_ble_eq_true rfl) dL_law_560 ⟨Nat.le_of_ble_eq_true rfl, Nat.le_of_ble_eq_true rfl⟩) ?_
  refine lv_pop hx hb dL_law_563 rfl ?_
  refine lv_goto (tgt := 613) hx hb dL_law_564 (by decide) ?_
  exact kk (nm, tp, kp, cu, se, ur, ab, lo, im, sy, un, en, ra, li, i2) (mt, mc, mb, mo, ms, mk, my, mu, ma, me, mr, mp, mg, mw, mf, ml, mq) H locs ls hInv ⟨adX, adM, rfl, rfl, hIX, hIM, hzX, hzM, hne, hP, hPM, hS⟩ hl
def OK_symbol (I9 : TX → TM → Prop) (nm : Tnm) (tp : Ttp) (kp : Tkp) (cu : Tcu) (se : Tse) (ur : Tur) (ab : Tab) (lo : Tlo) (im : Tim) (sy : Tsy) (un : Tun) (en : Ten) (ra : Tra) (li : Tli) (i2 : Ti2) (mt : Tmt) (mc : Tmc) (mb : Tmb) (mo : Tmo) (ms : Tms) (mk : Tmk) (my : Tmy) (mu : Tmu) (ma : Tma) (me : Tme) (mr : Tmr) (mp : Tmp) (mg : Tmg) (mw : Tmw) (mf : Tmf) (ml : Tml) (mq : Tmq) : Prop := ∀ (a0 : Int32), ∃ (q : Int32) (q' : Int32), X11_symbol lo sy a0 = q ∧ X12_symbol mo my mq a0 = some q' ∧ I9 (nm, tp, kp, cu, se, ur, ab, lo, im, sy, un, en, ra, li, i2) (mt, mc, mb, mo, ms, mk, my, mu, ma, me, mr, mp, mg, mw, mf, ml, mq)
set_option maxRecDepth 20000 in
theorem law_symbol {b L i : Nat} {xs : Nat → Int32} {x3 : Int32} {r1 r2 : Nat} {I9 : TX → TM → Prop} {nm : Tnm} {tp : Ttp} {kp : Tkp} {cu : Tcu} {se : Tse} {ur : Tur} {ab : Tab} {lo : Tlo} {im : Tim} {sy : Tsy} {un : Tun} {en : Ten} {ra : Tra} {li : Tli} {i2 : Ti2} {mt : Tmt} {mc : Tmc} {mb : Tmb} {mo : Tmo} {ms : Tms} {mk : Tmk} {my : Tmy} {mu : Tmu} {ma : Tma} {me : Tme} {mr : Tmr} {mp : Tmp} {mg : Tmg} {mw : Tmw} {mf : Tmf} {ml : Tml} {mq : Tmq} (C : Cx p s m args meth c cL_law 4 (some .boolean) RL x0) (hK : va_K D vwCl (tysX cy) s) (hN : NW s) (hF : SF t adK adV (fun q => s.heap.size ≤ q) s s.heap) (hX : va_X b L xs s s.heap) (hbl : b < s.heap.size) (hiL : i + 6 ≤ L) (hL : L < 2 ^ 31) (e3 : x3 = nI i) (hW : LW D cy r1 r2 (nm, tp, kp, cu, se, ur, ab, lo, im, sy, un, en, ra, li, i2) (mt, mc, mb, mo, ms, mk, my, mu, ma, me, mr, mp, mg, mw, mf, ml, mq) s.heap H locs) (hok : OK_symbol I9 nm tp kp cu se ur ab lo im sy un en ra li i2 mt mc mb mo ms mk my mu ma me mr mp mg mw mf ml mq)
    (kk : ∀ (X : TX) (M : TM) (H : Heap) (locs : List Loc) (ls : Array Slot), I9 X M → LW D cy r1 r2 X M s.heap H locs → lv_has ls 4 [(0, .ref b), (1, .ref r1), (2, .ref r2), (3, .int x3)] → W p l e room_1 s m args below meth c H locs 160 97966 Q (F0 m 613 ls []))
    {ls : Array Slot} (hl : lv_has ls 4 [(0, .ref b), (1, .ref r1), (2, .ref r2), (3, .int x3)]) : W p l e room_1 s m args below meth c H locs 160 97966 Q (F0 m 567 ls []) := by
  obtain ⟨hx, hb, hml, hown, hts, hr, hlk⟩ := id C
  obtain ⟨adX, adM, rfl, rfl, hIX, hIM, hzX, hzM, hne, hP, hPM, hS⟩ := hW
  have hP : va_P D vwCl (GX cy adX (adX 21) (adX 55) nm tp kp cu se ur ab lo im sy un en ra li i2) H := hP
  have hPM : va_P D vwCl (GM cy adM mt mc mb mo ms mk my mu ma me mr mp mg mw mf ml mq) H := hPM
  have hbA : ¬ (fun q : Nat => s.heap.size ≤ q) b := Nat.not_le.mpr hbl
  obtain ⟨q, q', hq, hq', hInv⟩ := hok (xs (x3 + (1 : Int32)).toNatClampNeg)
  refine lv_aload_n hx hb dL_law_567 rfl (lv_at hl 1 rfl) ?_
  refine lv_aload_n hx hb dL_law_568 rfl (lv_at hl 0 rfl) ?_
  refine lv_iload_n hx hb dL_law_569 rfl (lv_at hl 3 rfl) ?_
  refine lv_iconst (v := (1 : Int32)) hx hb dL_law_570 (by decide) ?_
  refine lv_iadd hx hb dL_law_571 ?_
  refine va_sld hx hb hX hbl hbA hS (scr_in (j := 1) rfl e3 hiL (by decide) hL) dL_law_572 ?_
  refine cPi (run_V (rest := []) C (kX11_symbol hq) caX11_symbol w1335 ⟨rfl, rfl, Nat.le_of_ble_eq_true rfl, Nat.le_of_ble_eq_true rfl⟩ hK hN hP (rX0 hK hP) rfl hl.1 rfl (Nat.le_of_ble_eq_true rfl) dL_law_573 ⟨Nat.le_of_ble_eq_true rfl, Nat.le_of_ble_eq_true rfl⟩) ?_
  refine lv_pop hx hb dL_law_576 rfl ?_
  refine lv_aload_n hx hb dL_law_577 rfl (lv_at hl 2 rfl) ?_
  refine lv_aload_n hx hb dL_law_578 rfl (lv_at hl 0 rfl) ?_
  refine lv_iload_n hx hb dL_law_579 rfl (lv_at hl 3 rfl) ?_
  refine lv_iconst (v := (1 : Int32)) hx hb dL_law_580 (by decide) ?_
  refine lv_iadd hx hb dL_law_581 ?_
  refine va_sld hx hb hX hbl hbA hS (scr_in (j := 1) rfl e3 hiL (by decide) hL) dL_law_582 ?_
  refine cPi (run_V (rest := []) C (kX12_symbol hq') caX12_symbol w1954 ⟨rfl, rfl, Nat.le_of_ble_eq_true rfl, Nat.le_of_ble_eq_true rfl⟩ hK hN hPM (rM0 hK hPM) rfl hl.1 rfl (Nat.le_of_ble_eq_true rfl) dL_law_583 ⟨Nat.le_of_ble_eq_true rfl, Nat.le_of_ble_eq_true rfl⟩) ?_
  refine lv_pop hx hb dL_law_586 rfl ?_
  refine lv_goto (tgt := 613) hx hb dL_law_587 (by decide) ?_
  exact kk (nm, tp, kp, cu, se, ur, ab, lo, im, sy, un, en, ra, li, i2) (mt, mc, mb, mo, ms, mk, my, mu, ma, me, mr, mp, mg, mw, mf, ml, mq) H locs ls hInv ⟨adX, adM, rfl, rfl, hIX, hIM, hzX, hzM, hne, hP, hPM, hS⟩ hl
def OK_count (I9 : TX → TM → Prop) (nm : Tnm) (tp : Ttp) (kp : Tkp) (cu : Tcu) (se : Tse) (ur : Tur) (ab : Tab) (lo : Tlo) (im : Tim) (sy : Tsy) (un : Tun) (en : Ten) (ra : Tra) (li : Tli) (i2 : Ti2) (mt : Tmt) (mc : Tmc) (mb : Tmb) (mo : Tmo) (ms : Tms) (mk : Tmk) (my : Tmy) (mu : Tmu) (ma : Tma) (me : Tme) (mr : Tmr) (mp : Tmp) (mg : Tmg) (mw : Tmw) (mf : Tmf) (ml : Tml) (mq : Tmq) : Prop := ∀ (a0 : Int32), ∃ (q : Int32) (q' : Int32), X11_count nm im sy un en ra li a0 = q ∧ X12_count mt mo ms my mu me mg mw mf a0 = some q' ∧ I9 (nm, tp, kp, cu, se, ur, ab, lo, im, sy, un, en, ra, li, i2) (mt, mc, mb, mo, ms, mk, my, mu, ma, me, mr, mp, mg, mw, mf, ml, mq)
set_option maxRecDepth 20000 in
theorem law_count {b L i : Nat} {xs : Nat → Int32} {x3 : Int32} {r1 r2 : Nat} {I9 : TX → TM → Prop} {nm : Tnm} {tp : Ttp} {kp : Tkp} {cu : Tcu} {se : Tse} {ur : Tur} {ab : Tab} {lo : Tlo} {im : Tim} {sy : Tsy} {un : Tun} {en : Ten} {ra : Tra} {li : Tli} {i2 : Ti2} {mt : Tmt} {mc : Tmc} {mb : Tmb} {mo : Tmo} {ms : Tms} {mk : Tmk} {my : Tmy} {mu : Tmu} {ma : Tma} {me : Tme} {mr : Tmr} {mp : Tmp} {mg : Tmg} {mw : Tmw} {mf : Tmf} {ml : Tml} {mq : Tmq} (C : Cx p s m args meth c cL_law 4 (some .boolean) RL x0) (hK : va_K D vwCl (tysX cy) s) (hN : NW s) (hF : SF t adK adV (fun q => s.heap.size ≤ q) s s.heap) (hX : va_X b L xs s s.heap) (hbl : b < s.heap.size) (hiL : i + 6 ≤ L) (hL : L < 2 ^ 31) (e3 : x3 = nI i) (hW : LW D cy r1 r2 (nm, tp, kp, cu, se, ur, ab, lo, im, sy, un, en, ra, li, i2) (mt, mc, mb, mo, ms, mk, my, mu, ma, me, mr, mp, mg, mw, mf, ml, mq) s.heap H locs) (hok : OK_count I9 nm tp kp cu se ur ab lo im sy un en ra li i2 mt mc mb mo ms mk my mu ma me mr mp mg mw mf ml mq)
    (kk : ∀ (X : TX) (M : TM) (H : Heap) (locs : List Loc) (ls : Array Slot), I9 X M → LW D cy r1 r2 X M s.heap H locs → lv_has ls 4 [(0, .ref b), (1, .ref r1), (2, .ref r2), (3, .int x3)] → W p l e room_1 s m args below meth c H locs 160 97966 Q (F0 m 613 ls []))
    {ls : Array Slot} (hl : lv_has ls 4 [(0, .ref b), (1, .ref r1), (2, .ref r2), (3, .int x3)]) : W p l e room_1 s m args below meth c H locs 160 97966 Q (F0 m 590 ls []) := by
  obtain ⟨hx, hb, hml, hown, hts, hr, hlk⟩ := id C
  obtain ⟨adX, adM, rfl, rfl, hIX, hIM, hzX, hzM, hne, hP, hPM, hS⟩ := hW
  have hP : va_P D vwCl (GX cy adX (adX 21) (adX 55) nm tp kp cu se ur ab lo im sy un en ra li i2) H := hP
  have hPM : va_P D vwCl (GM cy adM mt mc mb mo ms mk my mu ma me mr mp mg mw mf ml mq) H := hPM
  have hbA : ¬ (fun q : Nat => s.heap.size ≤ q) b := Nat.not_le.mpr hbl
  obtain ⟨q, q', hq, hq', hInv⟩ := hok (xs (x3 + (1 : Int32)).toNatClampNeg)
  refine lv_aload_n hx hb dL_law_590 rfl (lv_at hl 1 rfl) ?_
  refine lv_aload_n hx hb dL_law_591 rfl (lv_at hl 0 rfl) ?_
  refine lv_iload_n hx hb dL_law_592 rfl (lv_at hl 3 rfl) ?_
  refine lv_iconst (v := (1 : Int32)) hx hb dL_law_593 (by decide) ?_
  refine lv_iadd hx hb dL_law_594 ?_
  refine va_sld hx hb hX hbl hbA hS (scr_in (j := 1) rfl e3 hiL (by decide) hL) dL_law_595 ?_
  refine cPi (run_V (rest := []) C (kX11_count hq) caX11_count w1343 ⟨rfl, rfl, Nat.le_of_ble_eq_true rfl, Nat.le_of_ble_eq_true rfl⟩ hK hN hP (rX0 hK hP) rfl hl.1 rfl (Nat.le_of_ble_eq_true rfl) dL_law_596 ⟨Nat.le_of_ble_eq_true rfl, Nat.le_of_ble_eq_true rfl⟩) ?_
  refine lv_pop hx hb dL_law_599 rfl ?_
  refine lv_aload_n hx hb dL_law_600 rfl (lv_at hl 2 rfl) ?_
  refine lv_aload_n hx hb dL_law_601 rfl (lv_at hl 0 rfl) ?_
  refine lv_iload_n hx hb dL_law_602 rfl (lv_at hl 3 rfl) ?_
  refine lv_iconst (v := (1 : Int32)) hx hb dL_law_603 (by decide) ?_
  refine lv_iadd hx hb dL_law_604 ?_
  refine va_sld hx hb hX hbl hbA hS (scr_in (j := 1) rfl e3 hiL (by decide) hL) dL_law_605 ?_
  refine cPi (run_V (rest := []) C (kX12_count hq') caX12_count w1958 ⟨rfl, rfl, Nat.le_of_ble_eq_true rfl, Nat.le_of_ble_eq_true rfl⟩ hK hN hPM (rM0 hK hPM) rfl hl.1 rfl (Nat.le_of_ble_eq_true rfl) dL_law_606 ⟨Nat.le_of_ble_eq_true rfl, Nat.le_of_ble_eq_true rfl⟩) ?_
  refine lv_pop hx hb dL_law_609 rfl ?_
  refine lv_goto (tgt := 613) hx hb dL_law_610 (by decide) ?_
  exact kk (nm, tp, kp, cu, se, ur, ab, lo, im, sy, un, en, ra, li, i2) (mt, mc, mb, mo, ms, mk, my, mu, ma, me, mr, mp, mg, mw, mf, ml, mq) H locs ls hInv ⟨adX, adM, rfl, rfl, hIX, hIM, hzX, hzM, hne, hP, hPM, hS⟩ hl
end
