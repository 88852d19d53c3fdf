section
variable {t adK adV : Nat → Nat} {k : Nat}
variable {p : Program} {l : Launch} {e : Env} {s : State} {m : MethodId} {args : Array Value} {below : List Frame} {meth : Method} {c : Code} {D : va_G} {cy : Nat → ClassId} {ad : Nat → Nat}
variable {mt : Tmt} {mc : Tmc} {mb : Tmb} {mo : Tmo} {ms : Tms} {mk : Tmk} {my : Tmy} {mu : Tmu} {ma : Tma} {me : Tme} {mr : Tmr} {mp : Tmp} {mg : Tmg} {mw : Tmw} {mf : Tmf} {ml : Tml} {mq : Tmq}
def X12_matters_152 (mb : Tmb)  (mu : Tmu) (me : Tme) (v1 : Int32) (v5 : Int64) (z0 : Int32) (z1 : Int32) : Option (Tmu × Tme) := (if inb z1 400 = true then (if inb v1 400 = true then some (mu, (me.1, me.2.1, me.2.2.1, me.2.2.2.1, me.2.2.2.2.1, me.2.2.2.2.2.1, me.2.2.2.2.2.2.1, me.2.2.2.2.2.2.2.1, me.2.2.2.2.2.2.2.2.1, me.2.2.2.2.2.2.2.2.2.1, me.2.2.2.2.2.2.2.2.2.2.1, me.2.2.2.2.2.2.2.2.2.2.2.1, me.2.2.2.2.2.2.2.2.2.2.2.2.1, me.2.2.2.2.2.2.2.2.2.2.2.2.2.1, (upd me.2.2.2.2.2.2.2.2.2.2.2.2.2.2.1 (z1).toNatClampNeg (vp_nar .boolean z0)), me.2.2.2.2.2.2.2.2.2.2.2.2.2.2.2.1, me.2.2.2.2.2.2.2.2.2.2.2.2.2.2.2.2.1, (vp_updL me.2.2.2.2.2.2.2.2.2.2.2.2.2.2.2.2.2.1 (v1).toNatClampNeg v5), me.2.2.2.2.2.2.2.2.2.2.2.2.2.2.2.2.2.2)) else none) else none)
set_option maxRecDepth 20000 in
theorem bX12_matters_152 (C : Cx p s m args meth c cX12_matters 9 none RX12 (.code yX12_matters cX12_matters 9 none)) (hI : Apart ad 71) (hK : va_K D vwCl (tysX cy) s) (hN : NW s)  {q : Tmu × Tme}  {v1 : Int32} {v5 : Int64} {z0 : Int32} {z1 : Int32} (h : X12_matters_152 mb mu me v1 v5 z0 z1 = some q) {ls : Array Slot} (hl : lv_has ls 9 [(0, .ref (ad 0)), (1, .int v1), (5, .long v5)]) {H : Heap} {locs : List Loc} (hP : va_P D vwCl (GM cy ad mt mc mb mo ms mk my mu ma me mr mp mg mw mf ml mq) H) (hS : va_S (Ac ad 71) s.heap H locs) : W p l e ({ frames := 0, cells := 0, slots := 0, locals := 0 } : Room) s m args below meth c H locs 0 0 (MQ below (QR none D (GM cy ad mt mc mb mo ms mk my q.1 ma q.2 mr mp mg mw mf ml mq) (Ac ad 71)) args s 0 0 (Ac ad 71)) (F0 m 152 ls [.int z0, .int z1, .ref (ad 47)]) := by
  obtain ⟨hx, hb, hml, hown, hts, hr, hlk⟩ := id C
  unfold X12_matters_152 at h
  obtain ⟨n1, h⟩ := grd h
  refine sM47 (f := me.2.2.2.2.2.2.2.2.2.2.2.2.2.2.1) C hI hK hP hS rfl n1 dX12_matters_152 (fun H locs hP hS => ?_)
  have hP : va_P D vwCl (GM cy ad mt mc mb mo ms mk my mu ma (me.1, me.2.1, me.2.2.1, me.2.2.2.1, me.2.2.2.2.1, me.2.2.2.2.2.1, me.2.2.2.2.2.2.1, me.2.2.2.2.2.2.2.1, me.2.2.2.2.2.2.2.2.1, me.2.2.2.2.2.2.2.2.2.1, me.2.2.2.2.2.2.2.2.2.2.1, me.2.2.2.2.2.2.2.2.2.2.2.1, me.2.2.2.2.2.2.2.2.2.2.2.2.1, me.2.2.2.2.2.2.2.2.2.2.2.2.2.1, (upd me.2.2.2.2.2.2.2.2.2.2.2.2.2.2.1 (z1).toNatClampNeg (vp_nar .boolean z0)), me.2.2.2.2.2.2.2.2.2.2.2.2.2.2.2.1, me.2.2.2.2.2.2.2.2.2.2.2.2.2.2.2.2.1, me.2.2.2.2.2.2.2.2.2.2.2.2.2.2.2.2.2.1, me.2.2.2.2.2.2.2.2.2.2.2.2.2.2.2.2.2.2) mr mp mg mw mf ml mq) H := hP
  refine lv_aload_n hx hb dX12_matters_153 rfl (lv_at hl 0 rfl) ?_
  refine gM0_58 C hK hP w1425 dX12_matters_154 ?_
  refine lv_iload_n hx hb dX12_matters_157 rfl (lv_at hl 1 rfl) ?_
  refine lv_lload hx hb dX12_matters_158 (lv_at hl 2 rfl) ?_
  obtain ⟨n2, h⟩ := grd h
  refine sM50 (f := me.2.2.2.2.2.2.2.2.2.2.2.2.2.2.2.2.2.1) C hI hK hP hS rfl n2 dX12_matters_160 (fun H locs hP hS => ?_)
  have hP : va_P D vwCl (GM cy ad mt mc mb mo ms mk my mu ma (me.1, me.2.1, me.2.2.1, me.2.2.2.1, me.2.2.2.2.1, me.2.2.2.2.2.1, me.2.2.2.2.2.2.1, me.2.2.2.2.2.2.2.1, me.2.2.2.2.2.2.2.2.1, me.2.2.2.2.2.2.2.2.2.1, me.2.2.2.2.2.2.2.2.2.2.1, me.2.2.2.2.2.2.2.2.2.2.2.1, me.2.2.2.2.2.2.2.2.2.2.2.2.1, me.2.2.2.2.2.2.2.2.2.2.2.2.2.1, (upd me.2.2.2.2.2.2.2.2.2.2.2.2.2.2.1 (z1).toNatClampNeg (vp_nar .boolean z0)), me.2.2.2.2.2.2.2.2.2.2.2.2.2.2.2.1, me.2.2.2.2.2.2.2.2.2.2.2.2.2.2.2.2.1, (vp_updL me.2.2.2.2.2.2.2.2.2.2.2.2.2.2.2.2.2.1 (v1).toNatClampNeg v5), me.2.2.2.2.2.2.2.2.2.2.2.2.2.2.2.2.2.2) mr mp mg mw mf ml mq) H := hP
  refine lv_goto (tgt := 383) hx hb dX12_matters_161 (by decide) ?_
  obtain rfl := Option.some.inj h
  exact W.vret hx hb hr (fun t ht _ => ⟨rfl, by rw [ht]; exact hP, hS.F ht⟩) hS.2.2 dX12_matters_383 hlk
def X12_matters_294 (mb : Tmb)  (mu : Tmu) (me : Tme) (v1 : Int32) (v2 : Int64) (v4 : Int32) (v5 : Int64) : Option (Tmu × Tme) := (if v2 = (16 : Int64) then (if v4 = (23 : Int32) then (if inb mb.2.1 2 = true then (if inb (((20 : Int32) * mb.2.1) + (mu.1 (mb.2.1).toNatClampNeg)) 40 = true then (if v1 = (mu.2.2.1 ((((20 : Int32) * mb.2.1) + (mu.1 (mb.2.1).toNatClampNeg))).toNatClampNeg) then (if inb mb.2.1 2 = true then (if inb (mu.1 (mb.2.1).toNatClampNeg) 20 = true then (if (mu.2.2.2.2.2.1 ((mu.1 (mb.2.1).toNatClampNeg)).toNatClampNeg) = 0 then (if inb mb.2.1 2 = true then (if inb (mu.1 (mb.2.1).toNatClampNeg) 20 = true then (if inb mb.2.1 2 = true then (if inb (mu.1 (mb.2.1).toNatClampNeg) 20 = true then some ((mu.1, mu.2.1, mu.2.2.1, mu.2.2.2.1, mu.2.2.2.2.1, (upd mu.2.2.2.2.2.1 ((mu.1 (mb.2.1).toNatClampNeg)).toNatClampNeg (vp_nar .boolean (1 : Int32))), (vp_updL mu.2.2.2.2.2.2 ((mu.1 (mb.2.1).toNatClampNeg)).toNatClampNeg v5)), me) else none) else none) else none) else none) else some (mu, me)) else none) else none) else some (mu, me)) else none) else none) else some (mu, me)) else some (mu, me))
set_option maxRecDepth 20000 in
theorem bX12_matters_294 (C : Cx p s m args meth c cX12_matters 9 none RX12 (.code yX12_matters cX12_matters 9 none)) (hI : Apart ad 71) (hK : va_K D vwCl (tysX cy) s) (hN : NW s)  {q : Tmu × Tme}  {v1 : Int32} {v2 : Int64} {v4 : Int32} {v5 : Int64} (h : X12_matters_294 mb mu me v1 v2 v4 v5 = some q) {ls : Array Slot} (hl : lv_has ls 9 [(0, .ref (ad 0)), (1, .int v1), (2, .long v2), (4, .int v4), (5, .long v5)]) {H : Heap} {locs : List Loc} (hP : va_P D vwCl (GM cy ad mt mc mb mo ms mk my mu ma me mr mp mg mw mf ml mq) H) (hS : va_S (Ac ad 71) s.heap H locs) : W p l e ({ frames := 0, cells := 0, slots := 0, locals := 0 } : Room) s m args below meth c H locs 0 0 (MQ below (QR none D (GM cy ad mt mc mb mo ms mk my q.1 ma q.2 mr mp mg mw mf ml mq) (Ac ad 71)) args s 0 0 (Ac ad 71)) (F0 m 294 ls []) := by
  obtain ⟨hx, hb, hml, hown, hts, hr, hlk⟩ := id C
  unfold X12_matters_294 at h
  refine lv_lload_n hx hb dX12_matters_294 rfl (lv_at hl 2 rfl) ?_
  refine lv_ldc2 (v := (16 : Int64)) hx hb hown (hts _ (List.mem_cons_of_mem _ w1812)) dX12_matters_295 ?_
  refine lc_ne (tgt := 383) hx hb dX12_matters_298 dX12_matters_299 (by decide) (fun c1 => ?_) (fun c1 => ?_)
  · rw [if_neg c1] at h
    obtain rfl := Option.some.inj h
    exact W.vret hx hb hr (fun t ht _ => ⟨rfl, by rw [ht]; exact hP, hS.F ht⟩) hS.2.2 dX12_matters_383 hlk
  · rw [if_pos c1] at h
    refine lv_iload hx hb dX12_matters_302 (lv_at hl 3 rfl) ?_
    refine lv_bipush (v := (23 : Int32)) hx hb dX12_matters_304 (by decide) ?_
    refine lv_icmp_ne (tgt := 383) hx hb dX12_matters_306 (by decide) (fun c2 => ?_) (fun c2 => ?_)
    · rw [if_neg c2] at h
      obtain rfl := Option.some.inj h
      exact W.vret hx hb hr (fun t ht _ => ⟨rfl, by rw [ht]; exact hP, hS.F ht⟩) hS.2.2 dX12_matters_383 hlk
    · rw [if_pos c2] at h
      refine lv_iload_n hx hb dX12_matters_309 rfl (lv_at hl 1 rfl) ?_
      refine lv_aload_n hx hb dX12_matters_310 rfl (lv_at hl 0 rfl) ?_
      refine gM0_29 C hK hP w1396 dX12_matters_311 ?_
      refine lv_bipush (v := (20 : Int32)) hx hb dX12_matters_314 (by decide) ?_
      refine lv_aload_n hx hb dX12_matters_316 rfl (lv_at hl 0 rfl) ?_
      refine gM0_6 (v := mb.2.1) C hK hP rfl w1373 dX12_matters_317 ?_
      refine lv_imul hx hb dX12_matters_320 ?_
      refine lv_aload_n hx hb dX12_matters_321 rfl (lv_at hl 0 rfl) ?_
      refine gM0_12 C hK hP w1379 dX12_matters_322 ?_
      refine lv_aload_n hx hb dX12_matters_325 rfl (lv_at hl 0 rfl) ?_
      refine gM0_6 (v := mb.2.1) C hK hP rfl w1373 dX12_matters_326 ?_
      obtain ⟨n3, h⟩ := grd h
      refine aM5 (f := mu.1) C hK hP rfl n3 dX12_matters_329 ?_
      refine lv_iadd hx hb dX12_matters_330 ?_
      obtain ⟨n4, h⟩ := grd h
      refine aM22 (f := mu.2.2.1) C hK hP rfl n4 dX12_matters_331 ?_
      refine lv_icmp_ne (tgt := 383) hx hb dX12_matters_332 (by decide) (fun c5 => ?_) (fun c5 => ?_)
      · rw [if_neg c5] at h
        obtain rfl := Option.some.inj h
        exact W.vret hx hb hr (fun t ht _ => ⟨rfl, by rw [ht]; exact hP, hS.F ht⟩) hS.2.2 dX12_matters_383 hlk
      · rw [if_pos c5] at h
        refine lv_aload_n hx hb dX12_matters_335 rfl (lv_at hl 0 rfl) ?_
        refine gM0_32 C hK hP w1399 dX12_matters_336 ?_
        refine lv_aload_n hx hb dX12_matters_339 rfl (lv_at hl 0 rfl) ?_
        refine gM0_12 C hK hP w1379 dX12_matters_340 ?_
        refine lv_aload_n hx hb dX12_matters_343 rfl (lv_at hl 0 rfl) ?_
        refine gM0_6 (v := mb.2.1) C hK hP rfl w1373 dX12_matters_344 ?_
        obtain ⟨n6, h⟩ := grd h
        refine aM5 (f := mu.1) C hK hP rfl n6 dX12_matters_347 ?_
        obtain ⟨n7, h⟩ := grd h
        refine aM25 (f := mu.2.2.2.2.2.1) C hK hP rfl n7 dX12_matters_348 ?_
        refine lv_if_ne (tgt := 383) hx hb dX12_matters_349 (by decide) (fun c8 => ?_) (fun c8 => ?_)
        · rw [if_neg c8] at h
          obtain rfl := Option.some.inj h
          exact W.vret hx hb hr (fun t ht _ => ⟨rfl, by rw [ht]; exact hP, hS.F ht⟩) hS.2.2 dX12_matters_383 hlk
        · rw [if_pos c8] at h
          refine lv_aload_n hx hb dX12_matters_352 rfl (lv_at hl 0 rfl) ?_
          refine gM0_32 C hK hP w1399 dX12_matters_353 ?_
          refine lv_aload_n hx hb dX12_matters_356 rfl (lv_at hl 0 rfl) ?_
          refine gM0_12 C hK hP w1379 dX12_matters_357 ?_
          refine lv_aload_n hx hb dX12_matters_360 rfl (lv_at hl 0 rfl) ?_
          refine gM0_6 (v := mb.2.1) C hK hP rfl w1373 dX12_matters_361 ?_
          obtain ⟨n9, h⟩ := grd h
          refine aM5 (f := mu.1) C hK hP rfl n9 dX12_matters_364 ?_
          refine lv_iconst (v := (1 : Int32)) hx hb dX12_matters_365 (by decide) ?_
          obtain ⟨n10, h⟩ := grd h
          refine sM25 (f := mu.2.2.2.2.2.1) C hI hK hP hS rfl n10 dX12_matters_366 (fun H locs hP hS => ?_)
          have hP : va_P D vwCl (GM cy ad mt mc mb mo ms mk my (mu.1, mu.2.1, mu.2.2.1, mu.2.2.2.1, mu.2.2.2.2.1, (upd mu.2.2.2.2.2.1 ((mu.1 (mb.2.1).toNatClampNeg)).toNatClampNeg (vp_nar .boolean (1 : Int32))), mu.2.2.2.2.2.2) ma me mr mp mg mw mf ml mq) H := hP
          refine lv_aload_n hx hb dX12_matters_367 rfl (lv_at hl 0 rfl) ?_
          refine gM0_33 C hK hP w1400 dX12_matters_368 ?_
          refine lv_aload_n hx hb dX12_matters_371 rfl (lv_at hl 0 rfl) ?_
          refine gM0_12 C hK hP w1379 dX12_matters_372 ?_
          refine lv_aload_n hx hb dX12_matters_375 rfl (lv_at hl 0 rfl) ?_
          refine gM0_6 (v := mb.2.1) C hK hP rfl w1373 dX12_matters_376 ?_
          obtain ⟨n11, h⟩ := grd h
          refine aM5 (f := mu.1) C hK hP rfl n11 dX12_matters_379 ?_
          refine lv_lload hx hb dX12_matters_380 (lv_at hl 4 rfl) ?_
          obtain ⟨n12, h⟩ := grd h
          refine sM26 (f := mu.2.2.2.2.2.2) C hI hK hP hS rfl n12 dX12_matters_382 (fun H locs hP hS => ?_)
          have hP : va_P D vwCl (GM cy ad mt mc mb mo ms mk my (mu.1, mu.2.1, mu.2.2.1, mu.2.2.2.1, mu.2.2.2.2.1, (upd mu.2.2.2.2.2.1 ((mu.1 (mb.2.1).toNatClampNeg)).toNatClampNeg (vp_nar .boolean (1 : Int32))), (vp_updL mu.2.2.2.2.2.2 ((mu.1 (mb.2.1).toNatClampNeg)).toNatClampNeg v5)) ma me mr mp mg mw mf ml mq) H := hP
          obtain rfl := Option.some.inj h
          exact W.vret hx hb hr (fun t ht _ => ⟨rfl, by rw [ht]; exact hP, hS.F ht⟩) hS.2.2 dX12_matters_383 hlk
def X12_matters_250 (mb : Tmb)  (mu : Tmu) (me : Tme) (v1 : Int32) (v2 : Int64) (v4 : Int32) (v5 : Int64) (v7 : Int32) (v8 : Int32) : Option (Tmu × Tme) := (if v2 = (89 : Int64) then (if v8 = 0 then X12_matters_294 mb mu me v1 v2 v4 v5 else (if inb v7 800 = true then (if (me.2.2.2.2.2.2.2.2.2.2.2.1 (v7).toNatClampNeg) = 0 then (if inb v7 800 = true then (if inb v7 800 = true then some (mu, (me.1, me.2.1, me.2.2.1, me.2.2.2.1, me.2.2.2.2.1, me.2.2.2.2.2.1, me.2.2.2.2.2.2.1, me.2.2.2.2.2.2.2.1, me.2.2.2.2.2.2.2.2.1, (upd me.2.2.2.2.2.2.2.2.2.1 (v7).toNatClampNeg ((v5).toInt32)), me.2.2.2.2.2.2.2.2.2.2.1, (upd me.2.2.2.2.2.2.2.2.2.2.2.1 (v7).toNatClampNeg (vp_nar .boolean (1 : Int32))), me.2.2.2.2.2.2.2.2.2.2.2.2.1, me.2.2.2.2.2.2.2.2.2.2.2.2.2.1, me.2.2.2.2.2.2.2.2.2.2.2.2.2.2.1, me.2.2.2.2.2.2.2.2.2.2.2.2.2.2.2.1, me.2.2.2.2.2.2.2.2.2.2.2.2.2.2.2.2.1, me.2.2.2.2.2.2.2.2.2.2.2.2.2.2.2.2.2.1, me.2.2.2.2.2.2.2.2.2.2.2.2.2.2.2.2.2.2)) else none) else none) else X12_matters_294 mb mu me v1 v2 v4 v5) else none)) else X12_matters_294 mb mu me v1 v2 v4 v5)
set_option maxRecDepth 20000 in
theorem bX12_matters_250 (C : Cx p s m args meth c cX12_matters 9 none RX12 (.code yX12_matters cX12_matters 9 none)) (hI : Apart ad 71) (hK : va_K D vwCl (tysX cy) s) (hN : NW s)  {q : Tmu × Tme}  {v1 : Int32} {v2 : Int64} {v4 : Int32} {v5 : Int64} {v7 : Int32} {v8 : Int32} (h : X12_matters_250 mb mu me v1 v2 v4 v5 v7 v8 = some q) {ls : Array Slot} (hl : lv_has ls 9 [(0, .ref (ad 0)), (1, .int v1), (2, .long v2), (4, .int v4), (5, .long v5), (7, .int v7), (8, .int v8)]) {H : Heap} {locs : List Loc} (hP : va_P D vwCl (GM cy ad mt mc mb mo ms mk my mu ma me mr mp mg mw mf ml mq) H) (hS : va_S (Ac ad 71) s.heap H locs) : W p l e ({ frames := 0, cells := 0, slots := 0, locals := 0 } : Room) s m args below meth c H locs 0 0 (MQ below (QR none D (GM cy ad mt mc mb mo ms mk my q.1 ma q.2 mr mp mg mw mf ml mq) (Ac ad 71)) args s 0 0 (Ac ad 71)) (F0 m 250 ls []) := by
  obtain ⟨hx, hb, hml, hown, hts, hr, hlk⟩ := id C
  unfold X12_matters_250 at h
  refine lv_lload_n hx hb dX12_matters_250 rfl (lv_at hl 2 rfl) ?_
  refine lv_ldc2 (v := (89 : Int64)) hx hb hown (hts _ (List.mem_cons_of_mem _ w1811)) dX12_matters_251 ?_
  refine lc_ne (tgt := 294) hx hb dX12_matters_254 dX12_matters_255 (by decide) (fun c1 => ?_) (fun c1 => ?_)
  · rw [if_neg c1] at h
    exact bX12_matters_294 C hI hK hN h (lv_sub hl [0, 1, 2, 3, 4] rfl) hP hS
  · rw [if_pos c1] at h
    refine lv_iload hx hb dX12_matters_258 (lv_at hl 6 rfl) ?_
    refine lv_if_eq (tgt := 294) hx hb dX12_matters_260 (by decide) (fun c2 => ?_) (fun c2 => ?_)
    · rw [if_pos c2] at h
      exact bX12_matters_294 C hI hK hN h (lv_sub hl [0, 1, 2, 3, 4] rfl) hP hS
    · rw [if_neg c2] at h
      refine lv_aload_n hx hb dX12_matters_263 rfl (lv_at hl 0 rfl) ?_
      refine gM0_52 C hK hP w1419 dX12_matters_264 ?_
      refine lv_iload hx hb dX12_matters_267 (lv_at hl 5 rfl) ?_
      obtain ⟨n3, h⟩ := grd h
      refine aM44 (f := me.2.2.2.2.2.2.2.2.2.2.2.1) C hK hP rfl n3 dX12_matters_269 ?_
      refine lv_if_ne (tgt := 294) hx hb dX12_matters_270 (by decide) (fun c4 => ?_) (fun c4 => ?_)
      · rw [if_neg c4] at h
        exact bX12_matters_294 C hI hK hN h (lv_sub hl [0, 1, 2, 3, 4] rfl) hP hS
      · rw [if_pos c4] at h
        refine lv_aload_n hx hb dX12_matters_273 rfl (lv_at hl 0 rfl) ?_
        refine gM0_52 C hK hP w1419 dX12_matters_274 ?_
        refine lv_iload hx hb dX12_matters_277 (lv_at hl 5 rfl) ?_
        refine lv_iconst (v := (1 : Int32)) hx hb dX12_matters_279 (by decide) ?_
        obtain ⟨n5, h⟩ := grd h
        refine sM44 (f := me.2.2.2.2.2.2.2.2.2.2.2.1) C hI hK hP hS rfl n5 dX12_matters_280 (fun H locs hP hS => ?_)
        have hP : va_P D vwCl (GM cy ad mt mc mb mo ms mk my mu ma (me.1, me.2.1, me.2.2.1, me.2.2.2.1, me.2.2.2.2.1, me.2.2.2.2.2.1, me.2.2.2.2.2.2.1, me.2.2.2.2.2.2.2.1, me.2.2.2.2.2.2.2.2.1, me.2.2.2.2.2.2.2.2.2.1, me.2.2.2.2.2.2.2.2.2.2.1, (upd me.2.2.2.2.2.2.2.2.2.2.2.1 (v7).toNatClampNeg (vp_nar .boolean (1 : Int32))), me.2.2.2.2.2.2.2.2.2.2.2.2.1, me.2.2.2.2.2.2.2.2.2.2.2.2.2.1, me.2.2.2.2.2.2.2.2.2.2.2.2.2.2.1, me.2.2.2.2.2.2.2.2.2.2.2.2.2.2.2.1, me.2.2.2.2.2.2.2.2.2.2.2.2.2.2.2.2.1, me.2.2.2.2.2.2.2.2.2.2.2.2.2.2.2.2.2.1, me.2.2.2.2.2.2.2.2.2.2.2.2.2.2.2.2.2.2) mr mp mg mw mf ml mq) H := hP
        refine lv_aload_n hx hb dX12_matters_281 rfl (lv_at hl 0 rfl) ?_
        refine gM0_50 C hK hP w1417 dX12_matters_282 ?_
        refine lv_iload hx hb dX12_matters_285 (lv_at hl 5 rfl) ?_
        refine lv_lload hx hb dX12_matters_287 (lv_at hl 4 rfl) ?_
        refine lv_l2i (v := ((v5).toInt32)) hx hb dX12_matters_289 rfl ?_
        obtain ⟨n6, h⟩ := grd h
        refine sM42 (f := me.2.2.2.2.2.2.2.2.2.1) C hI hK hP hS rfl n6 dX12_matters_290 (fun H locs hP hS => ?_)
        have hP : va_P D vwCl (GM cy ad mt mc mb mo ms mk my mu ma (me.1, me.2.1, me.2.2.1, me.2.2.2.1, me.2.2.2.2.1, me.2.2.2.2.2.1, me.2.2.2.2.2.2.1, me.2.2.2.2.2.2.2.1, me.2.2.2.2.2.2.2.2.1, (upd me.2.2.2.2.2.2.2.2.2.1 (v7).toNatClampNeg ((v5).toInt32)), me.2.2.2.2.2.2.2.2.2.2.1, (upd me.2.2.2.2.2.2.2.2.2.2.2.1 (v7).toNatClampNeg (vp_nar .boolean (1 : Int32))), me.2.2.2.2.2.2.2.2.2.2.2.2.1, me.2.2.2.2.2.2.2.2.2.2.2.2.2.1, me.2.2.2.2.2.2.2.2.2.2.2.2.2.2.1, me.2.2.2.2.2.2.2.2.2.2.2.2.2.2.2.1, me.2.2.2.2.2.2.2.2.2.2.2.2.2.2.2.2.1, me.2.2.2.2.2.2.2.2.2.2.2.2.2.2.2.2.2.1, me.2.2.2.2.2.2.2.2.2.2.2.2.2.2.2.2.2.2) mr mp mg mw mf ml mq) H := hP
        refine lv_goto (tgt := 383) hx hb dX12_matters_291 (by decide) ?_
        obtain rfl := Option.some.inj h
        exact W.vret hx hb hr (fun t ht _ => ⟨rfl, by rw [ht]; exact hP, hS.F ht⟩) hS.2.2 dX12_matters_383 hlk
def X12_matters_206 (mb : Tmb)  (mu : Tmu) (me : Tme) (v1 : Int32) (v2 : Int64) (v4 : Int32) (v5 : Int64) (v7 : Int32) (v8 : Int32) : Option (Tmu × Tme) := (if v2 = (88 : Int64) then (if v8 = 0 then X12_matters_250 mb mu me v1 v2 v4 v5 v7 v8 else (if inb v7 800 = true then (if (me.2.2.2.2.2.2.2.2.2.2.1 (v7).toNatClampNeg) = 0 then (if inb v7 800 = true then (if inb v7 800 = true then some (mu, (me.1, me.2.1, me.2.2.1, me.2.2.2.1, me.2.2.2.2.1, me.2.2.2.2.2.1, me.2.2.2.2.2.2.1, me.2.2.2.2.2.2.2.1, (upd me.2.2.2.2.2.2.2.2.1 (v7).toNatClampNeg ((v5).toInt32)), me.2.2.2.2.2.2.2.2.2.1, (upd me.2.2.2.2.2.2.2.2.2.2.1 (v7).toNatClampNeg (vp_nar .boolean (1 : Int32))), me.2.2.2.2.2.2.2.2.2.2.2.1, me.2.2.2.2.2.2.2.2.2.2.2.2.1, me.2.2.2.2.2.2.2.2.2.2.2.2.2.1, me.2.2.2.2.2.2.2.2.2.2.2.2.2.2.1, me.2.2.2.2.2.2.2.2.2.2.2.2.2.2.2.1, me.2.2.2.2.2.2.2.2.2.2.2.2.2.2.2.2.1, me.2.2.2.2.2.2.2.2.2.2.2.2.2.2.2.2.2.1, me.2.2.2.2.2.2.2.2.2.2.2.2.2.2.2.2.2.2)) else none) else none) else X12_matters_250 mb mu me v1 v2 v4 v5 v7 v8) else none)) else X12_matters_250 mb mu me v1 v2 v4 v5 v7 v8)
set_option maxRecDepth 20000 in
theorem bX12_matters_206 (C : Cx p s m args meth c cX12_matters 9 none RX12 (.code yX12_matters cX12_matters 9 none)) (hI : Apart ad 71) (hK : va_K D vwCl (tysX cy) s) (hN : NW s)  {q : Tmu × Tme}  {v1 : Int32} {v2 : Int64} {v4 : Int32} {v5 : Int64} {v7 : Int32} {v8 : Int32} (h : X12_matters_206 mb mu me v1 v2 v4 v5 v7 v8 = some q) {ls : Array Slot} (hl : lv_has ls 9 [(0, .ref (ad 0)), (1, .int v1), (2, .long v2), (4, .int v4), (5, .long v5), (7, .int v7), (8, .int v8)]) {H : Heap} {locs : List Loc} (hP : va_P D vwCl (GM cy ad mt mc mb mo ms mk my mu ma me mr mp mg mw mf ml mq) H) (hS : va_S (Ac ad 71) s.heap H locs) : W p l e ({ frames := 0, cells := 0, slots := 0, locals := 0 } : Room) s m args below meth c H locs 0 0 (MQ below (QR none D (GM cy ad mt mc mb mo ms mk my q.1 ma q.2 mr mp mg mw mf ml mq) (Ac ad 71)) args s 0 0 (Ac ad 71)) (F0 m 206 ls []) := by
  obtain ⟨hx, hb, hml, hown, hts, hr, hlk⟩ := id C
  unfold X12_matters_206 at h
  refine lv_lload_n hx hb dX12_matters_206 rfl (lv_at hl 2 rfl) ?_
  refine lv_ldc2 (v := (88 : Int64)) hx hb hown (hts _ (List.mem_cons_of_mem _ w1810)) dX12_matters_207 ?_
  refine lc_ne (tgt := 250) hx hb dX12_matters_210 dX12_matters_211 (by decide) (fun c1 => ?_) (fun c1 => ?_)
  · rw [if_neg c1] at h
    exact bX12_matters_250 C hI hK hN h (lv_sub hl [0, 1, 2, 3, 4, 5, 6] rfl) hP hS
  · rw [if_pos c1] at h
    refine lv_iload hx hb dX12_matters_214 (lv_at hl 6 rfl) ?_
    refine lv_if_eq (tgt := 250) hx hb dX12_matters_216 (by decide) (fun c2 => ?_) (fun c2 => ?_)
    · rw [if_pos c2] at h
      exact bX12_matters_250 C hI hK hN h (lv_sub hl [0, 1, 2, 3, 4, 5, 6] rfl) hP hS
    · rw [if_neg c2] at h
      refine lv_aload_n hx hb dX12_matters_219 rfl (lv_at hl 0 rfl) ?_
      refine gM0_51 C hK hP w1418 dX12_matters_220 ?_
      refine lv_iload hx hb dX12_matters_223 (lv_at hl 5 rfl) ?_
      obtain ⟨n3, h⟩ := grd h
      refine aM43 (f := me.2.2.2.2.2.2.2.2.2.2.1) C hK hP rfl n3 dX12_matters_225 ?_
      refine lv_if_ne (tgt := 250) hx hb dX12_matters_226 (by decide) (fun c4 => ?_) (fun c4 => ?_)
      · rw [if_neg c4] at h
        exact bX12_matters_250 C hI hK hN h (lv_sub hl [0, 1, 2, 3, 4, 5, 6] rfl) hP hS
      · rw [if_pos c4] at h
        refine lv_aload_n hx hb dX12_matters_229 rfl (lv_at hl 0 rfl) ?_
        refine gM0_51 C hK hP w1418 dX12_matters_230 ?_
        refine lv_iload hx hb dX12_matters_233 (lv_at hl 5 rfl) ?_
        refine lv_iconst (v := (1 : Int32)) hx hb dX12_matters_235 (by decide) ?_
        obtain ⟨n5, h⟩ := grd h
        refine sM43 (f := me.2.2.2.2.2.2.2.2.2.2.1) C hI hK hP hS rfl n5 dX12_matters_236 (fun H locs hP hS => ?_)
        have hP : va_P D vwCl (GM cy ad mt mc mb mo ms mk my mu ma (me.1, me.2.1, me.2.2.1, me.2.2.2.1, me.2.2.2.2.1, me.2.2.2.2.2.1, me.2.2.2.2.2.2.1, me.2.2.2.2.2.2.2.1, me.2.2.2.2.2.2.2.2.1, me.2.2.2.2.2.2.2.2.2.1, (upd me.2.2.2.2.2.2.2.2.2.2.1 (v7).toNatClampNeg (vp_nar .boolean (1 : Int32))), me.2.2.2.2.2.2.2.2.2.2.2.1, me.2.2.2.2.2.2.2.2.2.2.2.2.1, me.2.2.2.2.2.2.2.2.2.2.2.2.2.1, me.2.2.2.2.2.2.2.2.2.2.2.2.2.2.1, me.2.2.2.2.2.2.2.2.2.2.2.2.2.2.2.1, me.2.2.2.2.2.2.2.2.2.2.2.2.2.2.2.2.1, me.2.2.2.2.2.2.2.2.2.2.2.2.2.2.2.2.2.1, me.2.2.2.2.2.2.2.2.2.2.2.2.2.2.2.2.2.2) mr mp mg mw mf ml mq) H := hP
        refine lv_aload_n hx hb dX12_matters_237 rfl (lv_at hl 0 rfl) ?_
        refine gM0_49 C hK hP w1416 dX12_matters_238 ?_
        refine lv_iload hx hb dX12_matters_241 (lv_at hl 5 rfl) ?_
        refine lv_lload hx hb dX12_matters_243 (lv_at hl 4 rfl) ?_
        refine lv_l2i (v := ((v5).toInt32)) hx hb dX12_matters_245 rfl ?_
        obtain ⟨n6, h⟩ := grd h
        refine sM41 (f := me.2.2.2.2.2.2.2.2.1) C hI hK hP hS rfl n6 dX12_matters_246 (fun H locs hP hS => ?_)
        have hP : va_P D vwCl (GM cy ad mt mc mb mo ms mk my mu ma (me.1, me.2.1, me.2.2.1, me.2.2.2.1, me.2.2.2.2.1, me.2.2.2.2.2.1, me.2.2.2.2.2.2.1, me.2.2.2.2.2.2.2.1, (upd me.2.2.2.2.2.2.2.2.1 (v7).toNatClampNeg ((v5).toInt32)), me.2.2.2.2.2.2.2.2.2.1, (upd me.2.2.2.2.2.2.2.2.2.2.1 (v7).toNatClampNeg (vp_nar .boolean (1 : Int32))), me.2.2.2.2.2.2.2.2.2.2.2.1, me.2.2.2.2.2.2.2.2.2.2.2.2.1, me.2.2.2.2.2.2.2.2.2.2.2.2.2.1, me.2.2.2.2.2.2.2.2.2.2.2.2.2.2.1, me.2.2.2.2.2.2.2.2.2.2.2.2.2.2.2.1, me.2.2.2.2.2.2.2.2.2.2.2.2.2.2.2.2.1, me.2.2.2.2.2.2.2.2.2.2.2.2.2.2.2.2.2.1, me.2.2.2.2.2.2.2.2.2.2.2.2.2.2.2.2.2.2) mr mp mg mw mf ml mq) H := hP
        refine lv_goto (tgt := 383) hx hb dX12_matters_247 (by decide) ?_
        obtain rfl := Option.some.inj h
        exact W.vret hx hb hr (fun t ht _ => ⟨rfl, by rw [ht]; exact hP, hS.F ht⟩) hS.2.2 dX12_matters_383 hlk
def X12_matters_164 (mb : Tmb)  (mu : Tmu) (me : Tme) (v1 : Int32) (v2 : Int64) (v4 : Int32) (v5 : Int64) (v7 : Int32) (v8 : Int32) : Option (Tmu × Tme) := (if v2 = (85 : Int64) then (if v4 = (23 : Int32) then (if inb v1 400 = true then (if (me.2.2.2.2.2.2.2.2.2.2.2.2.2.2.2.1 (v1).toNatClampNeg) = 0 then (if inb v1 400 = true then (if inb v1 400 = true then some (mu, (me.1, me.2.1, me.2.2.1, me.2.2.2.1, me.2.2.2.2.1, me.2.2.2.2.2.1, me.2.2.2.2.2.2.1, me.2.2.2.2.2.2.2.1, me.2.2.2.2.2.2.2.2.1, me.2.2.2.2.2.2.2.2.2.1, me.2.2.2.2.2.2.2.2.2.2.1, me.2.2.2.2.2.2.2.2.2.2.2.1, me.2.2.2.2.2.2.2.2.2.2.2.2.1, me.2.2.2.2.2.2.2.2.2.2.2.2.2.1, me.2.2.2.2.2.2.2.2.2.2.2.2.2.2.1, (upd me.2.2.2.2.2.2.2.2.2.2.2.2.2.2.2.1 (v1).toNatClampNeg (vp_nar .boolean (1 : Int32))), me.2.2.2.2.2.2.2.2.2.2.2.2.2.2.2.2.1, me.2.2.2.2.2.2.2.2.2.2.2.2.2.2.2.2.2.1, (vp_updL me.2.2.2.2.2.2.2.2.2.2.2.2.2.2.2.2.2.2 (v1).toNatClampNeg v5))) else none) else none) else X12_matters_206 mb mu me v1 v2 v4 v5 v7 v8) else none) else X12_matters_206 mb mu me v1 v2 v4 v5 v7 v8) else X12_matters_206 mb mu me v1 v2 v4 v5 v7 v8)
set_option maxRecDepth 20000 in
theorem bX12_matters_164 (C : Cx p s m args meth c cX12_matters 9 none RX12 (.code yX12_matters cX12_matters 9 none)) (hI : Apart ad 71) (hK : va_K D vwCl (tysX cy) s) (hN : NW s)  {q : Tmu × Tme}  {v1 : Int32} {v2 : Int64} {v4 : Int32} {v5 : Int64} {v7 : Int32} {v8 : Int32} (h : X12_matters_164 mb mu me v1 v2 v4 v5 v7 v8 = some q) {ls : Array Slot} (hl : lv_has ls 9 [(0, .ref (ad 0)), (1, .int v1), (2, .long v2), (4, .int v4), (5, .long v5), (7, .int v7), (8, .int v8)]) {H : Heap} {locs : List Loc} (hP : va_P D vwCl (GM cy ad mt mc mb mo ms mk my mu ma me mr mp mg mw mf ml mq) H) (hS : va_S (Ac ad 71) s.heap H locs) : W p l e ({ frames := 0, cells := 0, slots := 0, locals := 0 } : Room) s m args below meth c H locs 0 0 (MQ below (QR none D (GM cy ad mt mc mb mo ms mk my q.1 ma q.2 mr mp mg mw mf ml mq) (Ac ad 71)) args s 0 0 (Ac ad 71)) (F0 m 164 ls []) := by
  obtain ⟨hx, hb, hml, hown, hts, hr, hlk⟩ := id C
  unfold X12_matters_164 at h
  refine lv_lload_n hx hb dX12_matters_164 rfl (lv_at hl 2 rfl) ?_
  refine lv_ldc2 (v := (85 : Int64)) hx hb hown (hts _ (List.mem_cons_of_mem _ w1809)) dX12_matters_165 ?_
  refine lc_ne (tgt := 206) hx hb dX12_matters_168 dX12_matters_169 (by decide) (fun c1 => ?_) (fun c1 => ?_)
  · rw [if_neg c1] at h
    exact bX12_matters_206 C hI hK hN h (lv_sub hl [0, 1, 2, 3, 4, 5, 6] rfl) hP hS
  · rw [if_pos c1] at h
    refine lv_iload hx hb dX12_matters_172 (lv_at hl 3 rfl) ?_
    refine lv_bipush (v := (23 : Int32)) hx hb dX12_matters_174 (by decide) ?_
    refine lv_icmp_ne (tgt := 206) hx hb dX12_matters_176 (by decide) (fun c2 => ?_) (fun c2 => ?_)
    · rw [if_neg c2] at h
      exact bX12_matters_206 C hI hK hN h (lv_sub hl [0, 1, 2, 3, 4, 5, 6] rfl) hP hS
    · rw [if_pos c2] at h
      refine lv_aload_n hx hb dX12_matters_179 rfl (lv_at hl 0 rfl) ?_
      refine gM0_56 C hK hP w1423 dX12_matters_180 ?_
      refine lv_iload_n hx hb dX12_matters_183 rfl (lv_at hl 1 rfl) ?_
      obtain ⟨n3, h⟩ := grd h
      refine aM48 (f := me.2.2.2.2.2.2.2.2.2.2.2.2.2.2.2.1) C hK hP rfl n3 dX12_matters_184 ?_
      refine lv_if_ne (tgt := 206) hx hb dX12_matters_185 (by decide) (fun c4 => ?_) (fun c4 => ?_)
      · rw [if_neg c4] at h
        exact bX12_matters_206 C hI hK hN h (lv_sub hl [0, 1, 2, 3, 4, 5, 6] rfl) hP hS
      · rw [if_pos c4] at h
        refine lv_aload_n hx hb dX12_matters_188 rfl (lv_at hl 0 rfl) ?_
        refine gM0_56 C hK hP w1423 dX12_matters_189 ?_
        refine lv_iload_n hx hb dX12_matters_192 rfl (lv_at hl 1 rfl) ?_
        refine lv_iconst (v := (1 : Int32)) hx hb dX12_matters_193 (by decide) ?_
        obtain ⟨n5, h⟩ := grd h
        refine sM48 (f := me.2.2.2.2.2.2.2.2.2.2.2.2.2.2.2.1) C hI hK hP hS rfl n5 dX12_matters_194 (fun H locs hP hS => ?_)
        have hP : va_P D vwCl (GM cy ad mt mc mb mo ms mk my mu ma (me.1, me.2.1, me.2.2.1, me.2.2.2.1, me.2.2.2.2.1, me.2.2.2.2.2.1, me.2.2.2.2.2.2.1, me.2.2.2.2.2.2.2.1, me.2.2.2.2.2.2.2.2.1, me.2.2.2.2.2.2.2.2.2.1, me.2.2.2.2.2.2.2.2.2.2.1, me.2.2.2.2.2.2.2.2.2.2.2.1, me.2.2.2.2.2.2.2.2.2.2.2.2.1, me.2.2.2.2.2.2.2.2.2.2.2.2.2.1, me.2.2.2.2.2.2.2.2.2.2.2.2.2.2.1, (upd me.2.2.2.2.2.2.2.2.2.2.2.2.2.2.2.1 (v1).toNatClampNeg (vp_nar .boolean (1 : Int32))), me.2.2.2.2.2.2.2.2.2.2.2.2.2.2.2.2.1, me.2.2.2.2.2.2.2.2.2.2.2.2.2.2.2.2.2.1, me.2.2.2.2.2.2.2.2.2.2.2.2.2.2.2.2.2.2) mr mp mg mw mf ml mq) H := hP
        refine lv_aload_n hx hb dX12_matters_195 rfl (lv_at hl 0 rfl) ?_
        refine gM0_59 C hK hP w1426 dX12_matters_196 ?_
        refine lv_iload_n hx hb dX12_matters_199 rfl (lv_at hl 1 rfl) ?_
        refine lv_lload hx hb dX12_matters_200 (lv_at hl 4 rfl) ?_
        obtain ⟨n6, h⟩ := grd h
        refine sM51 (f := me.2.2.2.2.2.2.2.2.2.2.2.2.2.2.2.2.2.2) C hI hK hP hS rfl n6 dX12_matters_202 (fun H locs hP hS => ?_)
        have hP : va_P D vwCl (GM cy ad mt mc mb mo ms mk my mu ma (me.1, me.2.1, me.2.2.1, me.2.2.2.1, me.2.2.2.2.1, me.2.2.2.2.2.1, me.2.2.2.2.2.2.1, me.2.2.2.2.2.2.2.1, me.2.2.2.2.2.2.2.2.1, me.2.2.2.2.2.2.2.2.2.1, me.2.2.2.2.2.2.2.2.2.2.1, me.2.2.2.2.2.2.2.2.2.2.2.1, me.2.2.2.2.2.2.2.2.2.2.2.2.1, me.2.2.2.2.2.2.2.2.2.2.2.2.2.1, me.2.2.2.2.2.2.2.2.2.2.2.2.2.2.1, (upd me.2.2.2.2.2.2.2.2.2.2.2.2.2.2.2.1 (v1).toNatClampNeg (vp_nar .boolean (1 : Int32))), me.2.2.2.2.2.2.2.2.2.2.2.2.2.2.2.2.1, me.2.2.2.2.2.2.2.2.2.2.2.2.2.2.2.2.2.1, (vp_updL me.2.2.2.2.2.2.2.2.2.2.2.2.2.2.2.2.2.2 (v1).toNatClampNeg v5)) mr mp mg mw mf ml mq) H := hP
        refine lv_goto (tgt := 383) hx hb dX12_matters_203 (by decide) ?_
        obtain rfl := Option.some.inj h
        exact W.vret hx hb hr (fun t ht _ => ⟨rfl, by rw [ht]; exact hP, hS.F ht⟩) hS.2.2 dX12_matters_383 hlk
def X12_matters_120 (mb : Tmb)  (mu : Tmu) (me : Tme) (v1 : Int32) (v2 : Int64) (v4 : Int32) (v5 : Int64) (v7 : Int32) (v8 : Int32) : Option (Tmu × Tme) := (if inb v1 400 = true then (if (me.2.2.2.2.2.2.2.2.2.2.2.2.2.1 (v1).toNatClampNeg) = 0 then (if inb v1 400 = true then (if v4 = (1 : Int32) then X12_matters_152 mb mu (me.1, me.2.1, me.2.2.1, me.2.2.2.1, me.2.2.2.2.1, me.2.2.2.2.2.1, me.2.2.2.2.2.2.1, me.2.2.2.2.2.2.2.1, me.2.2.2.2.2.2.2.2.1, me.2.2.2.2.2.2.2.2.2.1, me.2.2.2.2.2.2.2.2.2.2.1, me.2.2.2.2.2.2.2.2.2.2.2.1, me.2.2.2.2.2.2.2.2.2.2.2.2.1, (upd me.2.2.2.2.2.2.2.2.2.2.2.2.2.1 (v1).toNatClampNeg (vp_nar .boolean (1 : Int32))), me.2.2.2.2.2.2.2.2.2.2.2.2.2.2.1, me.2.2.2.2.2.2.2.2.2.2.2.2.2.2.2.1, me.2.2.2.2.2.2.2.2.2.2.2.2.2.2.2.2.1, me.2.2.2.2.2.2.2.2.2.2.2.2.2.2.2.2.2.1, me.2.2.2.2.2.2.2.2.2.2.2.2.2.2.2.2.2.2) v1 v5 (0 : Int32) v1 else X12_matters_152 mb mu (me.1, me.2.1, me.2.2.1, me.2.2.2.1, me.2.2.2.2.1, me.2.2.2.2.2.1, me.2.2.2.2.2.2.1, me.2.2.2.2.2.2.2.1, me.2.2.2.2.2.2.2.2.1, me.2.2.2.2.2.2.2.2.2.1, me.2.2.2.2.2.2.2.2.2.2.1, me.2.2.2.2.2.2.2.2.2.2.2.1, me.2.2.2.2.2.2.2.2.2.2.2.2.1, (upd me.2.2.2.2.2.2.2.2.2.2.2.2.2.1 (v1).toNatClampNeg (vp_nar .boolean (1 : Int32))), me.2.2.2.2.2.2.2.2.2.2.2.2.2.2.1, me.2.2.2.2.2.2.2.2.2.2.2.2.2.2.2.1, me.2.2.2.2.2.2.2.2.2.2.2.2.2.2.2.2.1, me.2.2.2.2.2.2.2.2.2.2.2.2.2.2.2.2.2.1, me.2.2.2.2.2.2.2.2.2.2.2.2.2.2.2.2.2.2) v1 v5 (1 : Int32) v1) else none) else X12_matters_164 mb mu me v1 v2 v4 v5 v7 v8) else none)
set_option maxRecDepth 20000 in
theorem bX12_matters_120 (C : Cx p s m args meth c cX12_matters 9 none RX12 (.code yX12_matters cX12_matters 9 none)) (hI : Apart ad 71) (hK : va_K D vwCl (tysX cy) s) (hN : NW s)  {q : Tmu × Tme}  {v1 : Int32} {v2 : Int64} {v4 : Int32} {v5 : Int64} {v7 : Int32} {v8 : Int32} (h : X12_matters_120 mb mu me v1 v2 v4 v5 v7 v8 = some q) {ls : Array Slot} (hl : lv_has ls 9 [(0, .ref (ad 0)), (1, .int v1), (2, .long v2), (4, .int v4), (5, .long v5), (7, .int v7), (8, .int v8)]) {H : Heap} {locs : List Loc} (hP : va_P D vwCl (GM cy ad mt mc mb mo ms mk my mu ma me mr mp mg mw mf ml mq) H) (hS : va_S (Ac ad 71) s.heap H locs) : W p l e ({ frames := 0, cells := 0, slots := 0, locals := 0 } : Room) s m args below meth c H locs 0 0 (MQ below (QR none D (GM cy ad mt mc mb mo ms mk my q.1 ma q.2 mr mp mg mw mf ml mq) (Ac ad 71)) args s 0 0 (Ac ad 71)) (F0 m 120 ls []) := by
  obtain ⟨hx, hb, hml, hown, hts, hr, hlk⟩ := id C
  unfold X12_matters_120 at h
  refine lv_aload_n hx hb dX12_matters_120 rfl (lv_at hl 0 rfl) ?_
  refine gM0_54 C hK hP w1421 dX12_matters_121 ?_
  refine lv_iload_n hx hb dX12_matters_124 rfl (lv_at hl 1 rfl) ?_
  obtain ⟨n1, h⟩ := grd h
  refine aM46 (f := me.2.2.2.2.2.2.2.2.2.2.2.2.2.1) C hK hP rfl n1 dX12_matters_125 ?_
  refine lv_if_ne (tgt := 164) hx hb dX12_matters_126 (by decide) (fun c2 => ?_) (fun c2 => ?_)
  · rw [if_neg c2] at h
    exact bX12_matters_164 C hI hK hN h (lv_sub hl [0, 1, 2, 3, 4, 5, 6] rfl) hP hS
  · rw [if_pos c2] at h
    refine lv_aload_n hx hb dX12_matters_129 rfl (lv_at hl 0 rfl) ?_
    refine gM0_54 C hK hP w1421 dX12_matters_130 ?_
    refine lv_iload_n hx hb dX12_matters_133 rfl (lv_at hl 1 rfl) ?_
    refine lv_iconst (v := (1 : Int32)) hx hb dX12_matters_134 (by decide) ?_
    obtain ⟨n3, h⟩ := grd h
    refine sM46 (f := me.2.2.2.2.2.2.2.2.2.2.2.2.2.1) C hI hK hP hS rfl n3 dX12_matters_135 (fun H locs hP hS => ?_)
    have hP : va_P D vwCl (GM cy ad mt mc mb mo ms mk my mu ma (me.1, me.2.1, me.2.2.1, me.2.2.2.1, me.2.2.2.2.1, me.2.2.2.2.2.1, me.2.2.2.2.2.2.1, me.2.2.2.2.2.2.2.1, me.2.2.2.2.2.2.2.2.1, me.2.2.2.2.2.2.2.2.2.1, me.2.2.2.2.2.2.2.2.2.2.1, me.2.2.2.2.2.2.2.2.2.2.2.1, me.2.2.2.2.2.2.2.2.2.2.2.2.1, (upd me.2.2.2.2.2.2.2.2.2.2.2.2.2.1 (v1).toNatClampNeg (vp_nar .boolean (1 : Int32))), me.2.2.2.2.2.2.2.2.2.2.2.2.2.2.1, me.2.2.2.2.2.2.2.2.2.2.2.2.2.2.2.1, me.2.2.2.2.2.2.2.2.2.2.2.2.2.2.2.2.1, me.2.2.2.2.2.2.2.2.2.2.2.2.2.2.2.2.2.1, me.2.2.2.2.2.2.2.2.2.2.2.2.2.2.2.2.2.2) mr mp mg mw mf ml mq) H := hP
    refine lv_aload_n hx hb dX12_matters_136 rfl (lv_at hl 0 rfl) ?_
    refine gM0_55 C hK hP w1422 dX12_matters_137 ?_
    refine lv_iload_n hx hb dX12_matters_140 rfl (lv_at hl 1 rfl) ?_
    refine lv_iload hx hb dX12_matters_141 (lv_at hl 3 rfl) ?_
    refine lv_iconst (v := (1 : Int32)) hx hb dX12_matters_143 (by decide) ?_
    refine lv_icmp_eq (tgt := 151) hx hb dX12_matters_144 (by decide) (fun c4 => ?_) (fun c4 => ?_)
    · rw [if_pos c4] at h
      refine lv_iconst (v := (0 : Int32)) hx hb dX12_matters_151 (by decide) ?_
      exact bX12_matters_152 C hI hK hN h (lv_sub hl [0, 1, 4] rfl) hP hS
    · rw [if_neg c4] at h
      refine lv_iconst (v := (1 : Int32)) hx hb dX12_matters_147 (by decide) ?_
      refine lv_goto (tgt := 152) hx hb dX12_matters_148 (by decide) ?_
      exact bX12_matters_152 C hI hK hN h (lv_sub hl [0, 1, 4] rfl) hP hS
def X12_matters_101 (mb : Tmb)  (mu : Tmu) (me : Tme) (v1 : Int32) (v2 : Int64) (v4 : Int32) (v5 : Int64) (v7 : Int32) (v8 : Int32) : Option (Tmu × Tme) := (if v2 = (18 : Int64) then (if v4 = (1 : Int32) then X12_matters_120 mb mu me v1 v2 v4 v5 v7 v8 else (if v8 = 0 then X12_matters_164 mb mu me v1 v2 v4 v5 v7 v8 else X12_matters_120 mb mu me v1 v2 v4 v5 v7 v8)) else X12_matters_164 mb mu me v1 v2 v4 v5 v7 v8)
set_option maxRecDepth 20000 in
theorem bX12_matters_101 (C : Cx p s m args meth c cX12_matters 9 none RX12 (.code yX12_matters cX12_matters 9 none)) (hI : Apart ad 71) (hK : va_K D vwCl (tysX cy) s) (hN : NW s)  {q : Tmu × Tme}  {v1 : Int32} {v2 : Int64} {v4 : Int32} {v5 : Int64} {v7 : Int32} {v8 : Int32} (h : X12_matters_101 mb mu me v1 v2 v4 v5 v7 v8 = some q) {ls : Array Slot} (hl : lv_has ls 9 [(0, .ref (ad 0)), (1, .int v1), (2, .long v2), (4, .int v4), (5, .long v5), (7, .int v7), (8, .int v8)]) {H : Heap} {locs : List Loc} (hP : va_P D vwCl (GM cy ad mt mc mb mo ms mk my mu ma me mr mp mg mw mf ml mq) H) (hS : va_S (Ac ad 71) s.heap H locs) : W p l e ({ frames := 0, cells := 0, slots := 0, locals := 0 } : Room) s m args below meth c H locs 0 0 (MQ below (QR none D (GM cy ad mt mc mb mo ms mk my q.1 ma q.2 mr mp mg mw mf ml mq) (Ac ad 71)) args s 0 0 (Ac ad 71)) (F0 m 101 ls []) := by
  obtain ⟨hx, hb, hml, hown, hts, hr, hlk⟩ := id C
  unfold X12_matters_101 at h
  refine lv_lload_n hx hb dX12_matters_101 rfl (lv_at hl 2 rfl) ?_
  refine lv_ldc2 (v := (18 : Int64)) hx hb hown (hts _ (List.mem_cons_of_mem _ w1808)) dX12_matters_102 ?_
  refine lc_ne (tgt := 164) hx hb dX12_matters_105 dX12_matters_106 (by decide) (fun c1 => ?_) (fun c1 => ?_)
  · rw [if_neg c1] at h
    exact bX12_matters_164 C hI hK hN h (lv_sub hl [0, 1, 2, 3, 4, 5, 6] rfl) hP hS
  · rw [if_pos c1] at h
    refine lv_iload hx hb dX12_matters_109 (lv_at hl 3 rfl) ?_
    refine lv_iconst (v := (1 : Int32)) hx hb dX12_matters_111 (by decide) ?_
    refine lv_icmp_eq (tgt := 120) hx hb dX12_matters_112 (by decide) (fun c2 => ?_) (fun c2 => ?_)
    · rw [if_pos c2] at h
      exact bX12_matters_120 C hI hK hN h (lv_sub hl [0, 1, 2, 3, 4, 5, 6] rfl) hP hS
    · rw [if_neg c2] at h
      refine lv_iload hx hb dX12_matters_115 (lv_at hl 6 rfl) ?_
      refine lv_if_eq (tgt := 164) hx hb dX12_matters_117 (by decide) (fun c3 => ?_) (fun c3 => ?_)
      · rw [if_pos c3] at h
        exact bX12_matters_164 C hI hK hN h (lv_sub hl [0, 1, 2, 3, 4, 5, 6] rfl) hP hS
      · rw [if_neg c3] at h
        exact bX12_matters_120 C hI hK hN h (lv_sub hl [0, 1, 2, 3, 4, 5, 6] rfl) hP hS
def X12_matters_58 (mb : Tmb)  (mu : Tmu) (me : Tme) (v1 : Int32) (v2 : Int64) (v4 : Int32) (v5 : Int64) (v7 : Int32) (z0 : Int32) : Option (Tmu × Tme) := (if v2 = (17 : Int64) then (if v4 = (1 : Int32) then (if inb v1 400 = true then (if (me.2.2.2.2.2.2.2.2.2.2.2.2.1 (v1).toNatClampNeg) = 0 then (if inb v1 400 = true then (if inb v1 400 = true then some (mu, (me.1, me.2.1, me.2.2.1, me.2.2.2.1, me.2.2.2.2.1, me.2.2.2.2.2.1, me.2.2.2.2.2.2.1, me.2.2.2.2.2.2.2.1, me.2.2.2.2.2.2.2.2.1, me.2.2.2.2.2.2.2.2.2.1, me.2.2.2.2.2.2.2.2.2.2.1, me.2.2.2.2.2.2.2.2.2.2.2.1, (upd me.2.2.2.2.2.2.2.2.2.2.2.2.1 (v1).toNatClampNeg (vp_nar .boolean (1 : Int32))), me.2.2.2.2.2.2.2.2.2.2.2.2.2.1, me.2.2.2.2.2.2.2.2.2.2.2.2.2.2.1, me.2.2.2.2.2.2.2.2.2.2.2.2.2.2.2.1, (vp_updL me.2.2.2.2.2.2.2.2.2.2.2.2.2.2.2.2.1 (v1).toNatClampNeg v5), me.2.2.2.2.2.2.2.2.2.2.2.2.2.2.2.2.2.1, me.2.2.2.2.2.2.2.2.2.2.2.2.2.2.2.2.2.2)) else none) else none) else X12_matters_101 mb mu me v1 v2 v4 v5 v7 z0) else none) else X12_matters_101 mb mu me v1 v2 v4 v5 v7 z0) else X12_matters_101 mb mu me v1 v2 v4 v5 v7 z0)
set_option maxRecDepth 20000 in
theorem bX12_matters_58 (C : Cx p s m args meth c cX12_matters 9 none RX12 (.code yX12_matters cX12_matters 9 none)) (hI : Apart ad 71) (hK : va_K D vwCl (tysX cy) s) (hN : NW s)  {q : Tmu × Tme}  {v1 : Int32} {v2 : Int64} {v4 : Int32} {v5 : Int64} {v7 : Int32} {z0 : Int32} (h : X12_matters_58 mb mu me v1 v2 v4 v5 v7 z0 = some q) {ls : Array Slot} (hl : lv_has ls 9 [(0, .ref (ad 0)), (1, .int v1), (2, .long v2), (4, .int v4), (5, .long v5), (7, .int v7)]) {H : Heap} {locs : List Loc} (hP : va_P D vwCl (GM cy ad mt mc mb mo ms mk my mu ma me mr mp mg mw mf ml mq) H) (hS : va_S (Ac ad 71) s.heap H locs) : W p l e ({ frames := 0, cells := 0, slots := 0, locals := 0 } : Room) s m args below meth c H locs 0 0 (MQ below (QR none D (GM cy ad mt mc mb mo ms mk my q.1 ma q.2 mr mp mg mw mf ml mq) (Ac ad 71)) args s 0 0 (Ac ad 71)) (F0 m 58 ls [.int z0]) := by
  obtain ⟨hx, hb, hml, hown, hts, hr, hlk⟩ := id C
  unfold X12_matters_58 at h
  refine lv_istore (lv' := [(8, .int z0), (0, .ref (ad 0)), (1, .int v1), (2, .long v2), (4, .int v4), (5, .long v5), (7, .int v7)]) hx hb dX12_matters_58 hl (by decide) rfl (fun ls hl => ?_)
  refine lv_lload_n hx hb dX12_matters_60 rfl (lv_at hl 3 rfl) ?_
  refine lv_ldc2 (v := (17 : Int64)) hx hb hown (hts _ (List.mem_cons_of_mem _ w1807)) dX12_matters_61 ?_
  refine lc_ne (tgt := 101) hx hb dX12_matters_64 dX12_matters_65 (by decide) (fun c1 => ?_) (fun c1 => ?_)
  · rw [if_neg c1] at h
    exact bX12_matters_101 C hI hK hN h (lv_sub hl [1, 2, 3, 4, 5, 6, 0] rfl) hP hS
  · rw [if_pos c1] at h
    refine lv_iload hx hb dX12_matters_68 (lv_at hl 4 rfl) ?_
    refine lv_iconst (v := (1 : Int32)) hx hb dX12_matters_70 (by decide) ?_
    refine lv_icmp_ne (tgt := 101) hx hb dX12_matters_71 (by decide) (fun c2 => ?_) (fun c2 => ?_)
    · rw [if_neg c2] at h
      exact bX12_matters_101 C hI hK hN h (lv_sub hl [1, 2, 3, 4, 5, 6, 0] rfl) hP hS
    · rw [if_pos c2] at h
      refine lv_aload_n hx hb dX12_matters_74 rfl (lv_at hl 1 rfl) ?_
      refine gM0_53 C hK hP w1420 dX12_matters_75 ?_
      refine lv_iload_n hx hb dX12_matters_78 rfl (lv_at hl 2 rfl) ?_
      obtain ⟨n3, h⟩ := grd h
      refine aM45 (f := me.2.2.2.2.2.2.2.2.2.2.2.2.1) C hK hP rfl n3 dX12_matters_79 ?_
      refine lv_if_ne (tgt := 101) hx hb dX12_matters_80 (by decide) (fun c4 => ?_) (fun c4 => ?_)
      · rw [if_neg c4] at h
        exact bX12_matters_101 C hI hK hN h (lv_sub hl [1, 2, 3, 4, 5, 6, 0] rfl) hP hS
      · rw [if_pos c4] at h
        refine lv_aload_n hx hb dX12_matters_83 rfl (lv_at hl 1 rfl) ?_
        refine gM0_53 C hK hP w1420 dX12_matters_84 ?_
        refine lv_iload_n hx hb dX12_matters_87 rfl (lv_at hl 2 rfl) ?_
        refine lv_iconst (v := (1 : Int32)) hx hb dX12_matters_88 (by decide) ?_
        obtain ⟨n5, h⟩ := grd h
        refine sM45 (f := me.2.2.2.2.2.2.2.2.2.2.2.2.1) C hI hK hP hS rfl n5 dX12_matters_89 (fun H locs hP hS => ?_)
        have hP : va_P D vwCl (GM cy ad mt mc mb mo ms mk my mu ma (me.1, me.2.1, me.2.2.1, me.2.2.2.1, me.2.2.2.2.1, me.2.2.2.2.2.1, me.2.2.2.2.2.2.1, me.2.2.2.2.2.2.2.1, me.2.2.2.2.2.2.2.2.1, me.2.2.2.2.2.2.2.2.2.1, me.2.2.2.2.2.2.2.2.2.2.1, me.2.2.2.2.2.2.2.2.2.2.2.1, (upd me.2.2.2.2.2.2.2.2.2.2.2.2.1 (v1).toNatClampNeg (vp_nar .boolean (1 : Int32))), me.2.2.2.2.2.2.2.2.2.2.2.2.2.1, me.2.2.2.2.2.2.2.2.2.2.2.2.2.2.1, me.2.2.2.2.2.2.2.2.2.2.2.2.2.2.2.1, me.2.2.2.2.2.2.2.2.2.2.2.2.2.2.2.2.1, me.2.2.2.2.2.2.2.2.2.2.2.2.2.2.2.2.2.1, me.2.2.2.2.2.2.2.2.2.2.2.2.2.2.2.2.2.2) mr mp mg mw mf ml mq) H := hP
        refine lv_aload_n hx hb dX12_matters_90 rfl (lv_at hl 1 rfl) ?_
        refine gM0_57 C hK hP w1424 dX12_matters_91 ?_
        refine lv_iload_n hx hb dX12_matters_94 rfl (lv_at hl 2 rfl) ?_
        refine lv_lload hx hb dX12_matters_95 (lv_at hl 5 rfl) ?_
        obtain ⟨n6, h⟩ := grd h
        refine sM49 (f := me.2.2.2.2.2.2.2.2.2.2.2.2.2.2.2.2.1) C hI hK hP hS rfl n6 dX12_matters_97 (fun H locs hP hS => ?_)
        have hP : va_P D vwCl (GM cy ad mt mc mb mo ms mk my mu ma (me.1, me.2.1, me.2.2.1, me.2.2.2.1, me.2.2.2.2.1, me.2.2.2.2.2.1, me.2.2.2.2.2.2.1, me.2.2.2.2.2.2.2.1, me.2.2.2.2.2.2.2.2.1, me.2.2.2.2.2.2.2.2.2.1, me.2.2.2.2.2.2.2.2.2.2.1, me.2.2.2.2.2.2.2.2.2.2.2.1, (upd me.2.2.2.2.2.2.2.2.2.2.2.2.1 (v1).toNatClampNeg (vp_nar .boolean (1 : Int32))), me.2.2.2.2.2.2.2.2.2.2.2.2.2.1, me.2.2.2.2.2.2.2.2.2.2.2.2.2.2.1, me.2.2.2.2.2.2.2.2.2.2.2.2.2.2.2.1, (vp_updL me.2.2.2.2.2.2.2.2.2.2.2.2.2.2.2.2.1 (v1).toNatClampNeg v5), me.2.2.2.2.2.2.2.2.2.2.2.2.2.2.2.2.2.1, me.2.2.2.2.2.2.2.2.2.2.2.2.2.2.2.2.2.2) mr mp mg mw mf ml mq) H := hP
        refine lv_goto (tgt := 383) hx hb dX12_matters_98 (by decide) ?_
        obtain rfl := Option.some.inj h
        exact W.vret hx hb hr (fun t ht _ => ⟨rfl, by rw [ht]; exact hP, hS.F ht⟩) hS.2.2 dX12_matters_383 hlk
def X12_matters_53 (mb : Tmb)  (mu : Tmu) (me : Tme) (v1 : Int32) (v2 : Int64) (v4 : Int32) (v5 : Int64) (v7 : Int32) : Option (Tmu × Tme) := X12_matters_58 mb mu me v1 v2 v4 v5 v7 (1 : Int32)
set_option maxRecDepth 20000 in
theorem bX12_matters_53 (C : Cx p s m args meth c cX12_matters 9 none RX12 (.code yX12_matters cX12_matters 9 none)) (hI : Apart ad 71) (hK : va_K D vwCl (tysX cy) s) (hN : NW s)  {q : Tmu × Tme}  {v1 : Int32} {v2 : Int64} {v4 : Int32} {v5 : Int64} {v7 : Int32} (h : X12_matters_53 mb mu me v1 v2 v4 v5 v7 = some q) {ls : Array Slot} (hl : lv_has ls 9 [(0, .ref (ad 0)), (1, .int v1), (2, .long v2), (4, .int v4), (5, .long v5), (7, .int v7)]) {H : Heap} {locs : List Loc} (hP : va_P D vwCl (GM cy ad mt mc mb mo ms mk my mu ma me mr mp mg mw mf ml mq) H) (hS : va_S (Ac ad 71) s.heap H locs) : W p l e ({ frames := 0, cells := 0, slots := 0, locals := 0 } : Room) s m args below meth c H locs 0 0 (MQ below (QR none D (GM cy ad mt mc mb mo ms mk my q.1 ma q.2 mr mp mg mw mf ml mq) (Ac ad 71)) args s 0 0 (Ac ad 71)) (F0 m 53 ls []) := by
  obtain ⟨hx, hb, hml, hown, hts, hr, hlk⟩ := id C
  unfold X12_matters_53 at h
  refine lv_iconst (v := (1 : Int32)) hx hb dX12_matters_53 (by decide) ?_
  refine lv_goto (tgt := 58) hx hb dX12_matters_54 (by decide) ?_
  exact bX12_matters_58 C hI hK hN h (lv_sub hl [0, 1, 2, 3, 4, 5] rfl) hP hS
def X12_matters (mb : Tmb) (mu : Tmu) (me : Tme) (v1 : Int32) (v2 : Int64) (v4 : Int32) (v5 : Int64) : Option (Tmu × Tme) := (if v4 = (11 : Int32) then X12_matters_53 mb mu me v1 v2 v4 v5 (((400 : Int32) * mb.2.1) + v1) else (if v4 = (5 : Int32) then X12_matters_53 mb mu me v1 v2 v4 v5 (((400 : Int32) * mb.2.1) + v1) else (if v4 = (6 : Int32) then X12_matters_53 mb mu me v1 v2 v4 v5 (((400 : Int32) * mb.2.1) + v1) else (if v4 = (7 : Int32) then X12_matters_53 mb mu me v1 v2 v4 v5 (((400 : Int32) * mb.2.1) + v1) else (if v4 = (15 : Int32) then X12_matters_53 mb mu me v1 v2 v4 v5 (((400 : Int32) * mb.2.1) + v1) else (if v4 = (33 : Int32) then X12_matters_53 mb mu me v1 v2 v4 v5 (((400 : Int32) * mb.2.1) + v1) else X12_matters_58 mb mu me v1 v2 v4 v5 (((400 : Int32) * mb.2.1) + v1) (0 : Int32)))))))
set_option maxRecDepth 20000 in
theorem bX12_matters_0 (C : Cx p s m args meth c cX12_matters 9 none RX12 (.code yX12_matters cX12_matters 9 none)) (hI : Apart ad 71) (hK : va_K D vwCl (tysX cy) s) (hN : NW s)  {q : Tmu × Tme}  {v1 : Int32} {v2 : Int64} {v4 : Int32} {v5 : Int64} (h : X12_matters mb mu me v1 v2 v4 v5 = some q) {ls : Array Slot} (hl : lv_has ls 9 [(0, .ref (ad 0)), (1, .int v1), (2, .long v2), (4, .int v4), (5, .long v5)]) {H : Heap} {locs : List Loc} (hP : va_P D vwCl (GM cy ad mt mc mb mo ms mk my mu ma me mr mp mg mw mf ml mq) H) (hS : va_S (Ac ad 71) s.heap H locs) : W p l e ({ frames := 0, cells := 0, slots := 0, locals := 0 } : Room) s m args below meth c H locs 0 0 (MQ below (QR none D (GM cy ad mt mc mb mo ms mk my q.1 ma q.2 mr mp mg mw mf ml mq) (Ac ad 71)) args s 0 0 (Ac ad 71)) (F0 m 0 ls []) := by
  obtain ⟨hx, hb, hml, hown, hts, hr, hlk⟩ := id C
  unfold X12_matters at h
  refine lv_sipush (v := (400 : Int32)) hx hb dX12_matters_0 (by decide) ?_
  refine lv_aload_n hx hb dX12_matters_3 rfl (lv_at hl 0 rfl) ?_
  refine gM0_6 (v := mb.2.1) C hK hP rfl w1373 dX12_matters_4 ?_
  refine lv_imul hx hb dX12_matters_7 ?_
  refine lv_iload_n hx hb dX12_matters_8 rfl (lv_at hl 1 rfl) ?_
  refine lv_iadd hx hb dX12_matters_9 ?_
  refine lv_istore (lv' := [(7, .int (((400 : Int32) * mb.2.1) + v1)), (0, .ref (ad 0)), (1, .int v1), (2, .long v2), (4, .int v4), (5, .long v5)]) hx hb dX12_matters_10 hl (by decide) rfl (fun ls hl => ?_)
  refine lv_iload hx hb dX12_matters_12 (lv_at hl 4 rfl) ?_
  refine lv_bipush (v := (11 : Int32)) hx hb dX12_matters_14 (by decide) ?_
  refine lv_icmp_eq (tgt := 53) hx hb dX12_matters_16 (by decide) (fun c1 => ?_) (fun c1 => ?_)
  · rw [if_pos c1] at h
    exact bX12_matters_53 C hI hK hN h (lv_sub hl [1, 2, 3, 4, 5, 0] rfl) hP hS
  · rw [if_neg c1] at h
    refine lv_iload hx hb dX12_matters_19 (lv_at hl 4 rfl) ?_
    refine lv_iconst (v := (5 : Int32)) hx hb dX12_matters_21 (by decide) ?_
    refine lv_icmp_eq (tgt := 53) hx hb dX12_matters_22 (by decide) (fun c2 => ?_) (fun c2 => ?_)
    · rw [if_pos c2] at h
      exact bX12_matters_53 C hI hK hN h (lv_sub hl [1, 2, 3, 4, 5, 0] rfl) hP hS
    · rw [if_neg c2] at h
      refine lv_iload hx hb dX12_matters_25 (lv_at hl 4 rfl) ?_
      refine lv_bipush (v := (6 : Int32)) hx hb dX12_matters_27 (by decide) ?_
      refine lv_icmp_eq (tgt := 53) hx hb dX12_matters_29 (by decide) (fun c3 => ?_) (fun c3 => ?_)
      · rw [if_pos c3] at h
        exact bX12_matters_53 C hI hK hN h (lv_sub hl [1, 2, 3, 4, 5, 0] rfl) hP hS
      · rw [if_neg c3] at h
        refine lv_iload hx hb dX12_matters_32 (lv_at hl 4 rfl) ?_
        refine lv_bipush (v := (7 : Int32)) hx hb dX12_matters_34 (by decide) ?_
        refine lv_icmp_eq (tgt := 53) hx hb dX12_matters_36 (by decide) (fun c4 => ?_) (fun c4 => ?_)
        · rw [if_pos c4] at h
          exact bX12_matters_53 C hI hK hN h (lv_sub hl [1, 2, 3, 4, 5, 0] rfl) hP hS
        · rw [if_neg c4] at h
          refine lv_iload hx hb dX12_matters_39 (lv_at hl 4 rfl) ?_
          refine lv_bipush (v := (15 : Int32)) hx hb dX12_matters_41 (by decide) ?_
          refine lv_icmp_eq (tgt := 53) hx hb dX12_matters_43 (by decide) (fun c5 => ?_) (fun c5 => ?_)
          · rw [if_pos c5] at h
            exact bX12_matters_53 C hI hK hN h (lv_sub hl [1, 2, 3, 4, 5, 0] rfl) hP hS
          · rw [if_neg c5] at h
            refine lv_iload hx hb dX12_matters_46 (lv_at hl 4 rfl) ?_
            refine lv_bipush (v := (33 : Int32)) hx hb dX12_matters_48 (by decide) ?_
            refine lv_icmp_ne (tgt := 57) hx hb dX12_matters_50 (by decide) (fun c6 => ?_) (fun c6 => ?_)
            · rw [if_neg c6] at h
              refine lv_iconst (v := (0 : Int32)) hx hb dX12_matters_57 (by decide) ?_
              exact bX12_matters_58 C hI hK hN h (lv_sub hl [1, 2, 3, 4, 5, 0] rfl) hP hS
            · rw [if_pos c6] at h
              exact bX12_matters_53 C hI hK hN h (lv_sub hl [1, 2, 3, 4, 5, 0] rfl) hP hS
theorem kX12_matters (hI : Apart ad 71) {v1 : Int32} {v2 : Int64} {v4 : Int32} {v5 : Int64} {q : Tmu × Tme} (h : X12_matters mb mu me v1 v2 v4 v5 = some q) : Met l yX12_matters (.code yX12_matters cX12_matters 9 none :: WA) ({ frames := 0, cells := 0, slots := 0, locals := 0 } : Room) (va_Pc [.ref (ad 0), .int v1, .long v2, .int v4, .long v5] (PR D cy (GM cy ad mt mc mb mo ms mk my mu ma me mr mp mg mw mf ml mq))) (QR none D (GM cy ad mt mc mb mo ms mk my q.1 ma q.2 mr mp mg mw mf ml mq) (Ac ad 71)) 0 0 (Ac ad 71) :=
  met_of (by decide) (Nat.le_of_ble_eq_true rfl) (fun p e s m below meth c ls C hP hK hN hl => bX12_matters_0 C hI hK hN h hl hP va_S.rf)
def X12_names (mb : Tmb) (me : Tme) (v1 : Int32) (v2 : Int32) (v3 : Int32) : Option (Tme) := (if inb (((400 : Int32) * mb.2.1) + v1) 800 = true then (if (me.2.2.2.2.2.2.2.1 ((((400 : Int32) * mb.2.1) + v1)).toNatClampNeg) = (-1 : Int32) then (if inb (((400 : Int32) * mb.2.1) + v1) 800 = true then (if inb (((400 : Int32) * mb.2.1) + v1) 800 = true then some (me.1, me.2.1, me.2.2.1, me.2.2.2.1, me.2.2.2.2.1, me.2.2.2.2.2.1, (upd me.2.2.2.2.2.2.1 ((((400 : Int32) * mb.2.1) + v1)).toNatClampNeg v2), (upd me.2.2.2.2.2.2.2.1 ((((400 : Int32) * mb.2.1) + v1)).toNatClampNeg v3), me.2.2.2.2.2.2.2.2.1, me.2.2.2.2.2.2.2.2.2.1, me.2.2.2.2.2.2.2.2.2.2.1, me.2.2.2.2.2.2.2.2.2.2.2.1, me.2.2.2.2.2.2.2.2.2.2.2.2.1, me.2.2.2.2.2.2.2.2.2.2.2.2.2.1, me.2.2.2.2.2.2.2.2.2.2.2.2.2.2.1, me.2.2.2.2.2.2.2.2.2.2.2.2.2.2.2.1, me.2.2.2.2.2.2.2.2.2.2.2.2.2.2.2.2.1, me.2.2.2.2.2.2.2.2.2.2.2.2.2.2.2.2.2.1, me.2.2.2.2.2.2.2.2.2.2.2.2.2.2.2.2.2.2) else none) else none) else some me) else none)
set_option maxRecDepth 20000 in
theorem bX12_names_0 (C : Cx p s m args meth c cX12_names 5 none RX12 (.code yX12_names cX12_names 5 none)) (hI : Apart ad 71) (hK : va_K D vwCl (tysX cy) s) (hN : NW s)  {q : Tme}  {v1 : Int32} {v2 : Int32} {v3 : Int32} (h : X12_names mb me v1 v2 v3 = some q) {ls : Array Slot} (hl : lv_has ls 5 [(0, .ref (ad 0)), (1, .int v1), (2, .int v2), (3, .int v3)]) {H : Heap} {locs : List Loc} (hP : va_P D vwCl (GM cy ad mt mc mb mo ms mk my mu ma me mr mp mg mw mf ml mq) H) (hS : va_S (Ac ad 71) s.heap H locs) : W p l e ({ frames := 0, cells := 0, slots := 0, locals := 0 } : Room) s m args below meth c H locs 0 0 (MQ below (QR none D (GM cy ad mt mc mb mo ms mk my mu ma q mr mp mg mw mf ml mq) (Ac ad 71)) args s 0 0 (Ac ad 71)) (F0 m 0 ls []) := by
  obtain ⟨hx, hb, hml, hown, hts, hr, hlk⟩ := id C
  unfold X12_names at h
  refine lv_sipush (v := (400 : Int32)) hx hb dX12_names_0 (by decide) ?_
  refine lv_aload_n hx hb dX12_names_3 rfl (lv_at hl 0 rfl) ?_
  refine gM0_6 (v := mb.2.1) C hK hP rfl w1373 dX12_names_4 ?_
  refine lv_imul hx hb dX12_names_7 ?_
  refine lv_iload_n hx hb dX12_names_8 rfl (lv_at hl 1 rfl) ?_
  refine lv_iadd hx hb dX12_names_9 ?_
  refine lv_istore (lv' := [(4, .int (((400 : Int32) * mb.2.1) + v1)), (0, .ref (ad 0)), (1, .int v1), (2, .int v2), (3, .int v3)]) hx hb dX12_names_10 hl (by decide) rfl (fun ls hl => ?_)
  refine lv_aload_n hx hb dX12_names_12 rfl (lv_at hl 1 rfl) ?_
  refine gM0_48 C hK hP w1415 dX12_names_13 ?_
  refine lv_iload hx hb dX12_names_16 (lv_at hl 0 rfl) ?_
  obtain ⟨n1, h⟩ := grd h
  refine aM40 (f := me.2.2.2.2.2.2.2.1) C hK hP rfl n1 dX12_names_18 ?_
  refine lv_iconst (v := (-1 : Int32)) hx hb dX12_names_19 (by decide) ?_
  refine lv_icmp_eq (tgt := 24) hx hb dX12_names_20 (by decide) (fun c2 => ?_) (fun c2 => ?_)
  · rw [if_pos c2] at h
    refine lv_aload_n hx hb dX12_names_24 rfl (lv_at hl 1 rfl) ?_
    refine gM0_47 C hK hP w1414 dX12_names_25 ?_
    refine lv_iload hx hb dX12_names_28 (lv_at hl 0 rfl) ?_
    refine lv_iload_n hx hb dX12_names_30 rfl (lv_at hl 3 rfl) ?_
    obtain ⟨n3, h⟩ := grd h
    refine sM39 (f := me.2.2.2.2.2.2.1) C hI hK hP hS rfl n3 dX12_names_31 (fun H locs hP hS => ?_)
    have hP : va_P D vwCl (GM cy ad mt mc mb mo ms mk my mu ma (me.1, me.2.1, me.2.2.1, me.2.2.2.1, me.2.2.2.2.1, me.2.2.2.2.2.1, (upd me.2.2.2.2.2.2.1 ((((400 : Int32) * mb.2.1) + v1)).toNatClampNeg v2), me.2.2.2.2.2.2.2.1, me.2.2.2.2.2.2.2.2.1, me.2.2.2.2.2.2.2.2.2.1, me.2.2.2.2.2.2.2.2.2.2.1, me.2.2.2.2.2.2.2.2.2.2.2.1, me.2.2.2.2.2.2.2.2.2.2.2.2.1, me.2.2.2.2.2.2.2.2.2.2.2.2.2.1, me.2.2.2.2.2.2.2.2.2.2.2.2.2.2.1, me.2.2.2.2.2.2.2.2.2.2.2.2.2.2.2.1, me.2.2.2.2.2.2.2.2.2.2.2.2.2.2.2.2.1, me.2.2.2.2.2.2.2.2.2.2.2.2.2.2.2.2.2.1, me.2.2.2.2.2.2.2.2.2.2.2.2.2.2.2.2.2.2) mr mp mg mw mf ml mq) H := hP
    refine lv_aload_n hx hb dX12_names_32 rfl (lv_at hl 1 rfl) ?_
    refine gM0_48 C hK hP w1415 dX12_names_33 ?_
    refine lv_iload hx hb dX12_names_36 (lv_at hl 0 rfl) ?_
    refine lv_iload_n hx hb dX12_names_38 rfl (lv_at hl 4 rfl) ?_
    obtain ⟨n4, h⟩ := grd h
    refine sM40 (f := me.2.2.2.2.2.2.2.1) C hI hK hP hS rfl n4 dX12_names_39 (fun H locs hP hS => ?_)
    have hP : va_P D vwCl (GM cy ad mt mc mb mo ms mk my mu ma (me.1, me.2.1, me.2.2.1, me.2.2.2.1, me.2.2.2.2.1, me.2.2.2.2.2.1, (upd me.2.2.2.2.2.2.1 ((((400 : Int32) * mb.2.1) + v1)).toNatClampNeg v2), (upd me.2.2.2.2.2.2.2.1 ((((400 : Int32) * mb.2.1) + v1)).toNatClampNeg v3), me.2.2.2.2.2.2.2.2.1, me.2.2.2.2.2.2.2.2.2.1, me.2.2.2.2.2.2.2.2.2.2.1, me.2.2.2.2.2.2.2.2.2.2.2.1, me.2.2.2.2.2.2.2.2.2.2.2.2.1, me.2.2.2.2.2.2.2.2.2.2.2.2.2.1, me.2.2.2.2.2.2.2.2.2.2.2.2.2.2.1, me.2.2.2.2.2.2.2.2.2.2.2.2.2.2.2.1, me.2.2.2.2.2.2.2.2.2.2.2.2.2.2.2.2.1, me.2.2.2.2.2.2.2.2.2.2.2.2.2.2.2.2.2.1, me.2.2.2.2.2.2.2.2.2.2.2.2.2.2.2.2.2.2) mr mp mg mw mf ml mq) H := hP
    obtain rfl := Option.some.inj h
    exact W.vret hx hb hr (fun t ht _ => ⟨rfl, by rw [ht]; exact hP, hS.F ht⟩) hS.2.2 dX12_names_40 hlk
  · rw [if_neg c2] at h
    obtain rfl := Option.some.inj h
    exact W.vret hx hb hr (fun t ht _ => ⟨rfl, by rw [ht]; exact hP, hS.F ht⟩) hS.2.2 dX12_names_23 hlk
theorem kX12_names (hI : Apart ad 71) {v1 : Int32} {v2 : Int32} {v3 : Int32} {q : Tme} (h : X12_names mb me v1 v2 v3 = some q) : Met l yX12_names (.code yX12_names cX12_names 5 none :: WA) ({ frames := 0, cells := 0, slots := 0, locals := 0 } : Room) (va_Pc [.ref (ad 0), .int v1, .int v2, .int v3] (PR D cy (GM cy ad mt mc mb mo ms mk my mu ma me mr mp mg mw mf ml mq))) (QR none D (GM cy ad mt mc mb mo ms mk my mu ma q mr mp mg mw mf ml mq) (Ac ad 71)) 0 0 (Ac ad 71) :=
  met_of (by decide) (Nat.le_of_ble_eq_true rfl) (fun p e s m below meth c ls C hP hK hN hl => bX12_names_0 C hI hK hN h hl hP va_S.rf)
def X12_refers_65   (mr : Tmr) (z0 : Int32) (z1 : Int32) : Option (Tmr) := (if inb z1 2001 = true then some ((mr.1 + (1 : Int32)), mr.2.1, mr.2.2.1, mr.2.2.2.1, (upd mr.2.2.2.2 (z1).toNatClampNeg z0)) else none)
set_option maxRecDepth 20000 in
theorem bX12_refers_65 (C : Cx p s m args meth c cX12_refers 7 none RX12 (.code yX12_refers cX12_refers 7 none)) (hI : Apart ad 71) (hK : va_K D vwCl (tysX cy) s) (hN : NW s)  {q : Tmr}  {z0 : Int32} {z1 : Int32} (h : X12_refers_65 mr z0 z1 = some q) {ls : Array Slot} (hl : lv_has ls 7 [(0, .ref (ad 0))]) {H : Heap} {locs : List Loc} (hP : va_P D vwCl (GM cy ad mt mc mb mo ms mk my mu ma me mr mp mg mw mf ml mq) H) (hS : va_S (Ac ad 71) s.heap H locs) : W p l e ({ frames := 0, cells := 0, slots := 0, locals := 0 } : Room) s m args below meth c H locs 0 0 (MQ below (QR none D (GM cy ad mt mc mb mo ms mk my mu ma me q mp mg mw mf ml mq) (Ac ad 71)) args s 0 0 (Ac ad 71)) (F0 m 65 ls [.int z0, .int z1, .ref (ad 55)]) := by
  obtain ⟨hx, hb, hml, hown, hts, hr, hlk⟩ := id C
  unfold X12_refers_65 at h
  obtain ⟨n1, h⟩ := grd h
  refine sM55 (f := mr.2.2.2.2) C hI hK hP hS rfl n1 dX12_refers_65 (fun H locs hP hS => ?_)
  have hP : va_P D vwCl (GM cy ad mt mc mb mo ms mk my mu ma me (mr.1, mr.2.1, mr.2.2.1, mr.2.2.2.1, (upd mr.2.2.2.2 (z1).toNatClampNeg z0)) mp mg mw mf ml mq) H := hP
  refine lv_aload_n hx hb dX12_refers_66 rfl (lv_at hl 0 rfl) ?_
  refine lv_dup hx hb dX12_refers_67 rfl ?_
  refine gM0_60 (v := mr.1) C hK hP rfl w1427 dX12_refers_68 ?_
  refine lv_iconst (v := (1 : Int32)) hx hb dX12_refers_71 (by decide) ?_
  refine lv_iadd hx hb dX12_refers_72 ?_
  refine pM0_60 (v := (mr.1 + (1 : Int32))) C hI hK hP hS w1427 dX12_refers_73 (fun H locs hP hS => ?_)
  have hP : va_P D vwCl (GM cy ad mt mc mb mo ms mk my mu ma me ((mr.1 + (1 : Int32)), mr.2.1, mr.2.2.1, mr.2.2.2.1, (upd mr.2.2.2.2 (z1).toNatClampNeg z0)) mp mg mw mf ml mq) H := hP
  obtain rfl := Option.some.inj h
  exact W.vret hx hb hr (fun t ht _ => ⟨rfl, by rw [ht]; exact hP, hS.F ht⟩) hS.2.2 dX12_refers_76 hlk
def X12_refers (mr : Tmr) (v1 : Int32) (v2 : Int64) (v4 : Int64) (v6 : Int32) : Option (Tmr) := (if inb mr.1 2001 = true then (if inb mr.1 2001 = true then (if inb mr.1 2001 = true then (if v2 = (49 : Int64) then X12_refers_65 (mr.1, (upd mr.2.1 (mr.1).toNatClampNeg v6), (vp_updL mr.2.2.1 (mr.1).toNatClampNeg v4), (upd mr.2.2.2.1 (mr.1).toNatClampNeg v1), mr.2.2.2.2) (1 : Int32) mr.1 else (if v2 = (71 : Int64) then X12_refers_65 (mr.1, (upd mr.2.1 (mr.1).toNatClampNeg v6), (vp_updL mr.2.2.1 (mr.1).toNatClampNeg v4), (upd mr.2.2.2.1 (mr.1).toNatClampNeg v1), mr.2.2.2.2) (2 : Int32) mr.1 else X12_refers_65 (mr.1, (upd mr.2.1 (mr.1).toNatClampNeg v6), (vp_updL mr.2.2.1 (mr.1).toNatClampNeg v4), (upd mr.2.2.2.1 (mr.1).toNatClampNeg v1), mr.2.2.2.2) (0 : Int32) mr.1)) else none) else none) else none)
set_option maxRecDepth 20000 in
theorem bX12_refers_0 (C : Cx p s m args meth c cX12_refers 7 none RX12 (.code yX12_refers cX12_refers 7 none)) (hI : Apart ad 71) (hK : va_K D vwCl (tysX cy) s) (hN : NW s)  {q : Tmr}  {v1 : Int32} {v2 : Int64} {v4 : Int64} {v6 : Int32} (h : X12_refers mr v1 v2 v4 v6 = some q) {ls : Array Slot} (hl : lv_has ls 7 [(0, .ref (ad 0)), (1, .int v1), (2, .long v2), (4, .long v4), (6, .int v6)]) {H : Heap} {locs : List Loc} (hP : va_P D vwCl (GM cy ad mt mc mb mo ms mk my mu ma me mr mp mg mw mf ml mq) H) (hS : va_S (Ac ad 71) s.heap H locs) : W p l e ({ frames := 0, cells := 0, slots := 0, locals := 0 } : Room) s m args below meth c H locs 0 0 (MQ below (QR none D (GM cy ad mt mc mb mo ms mk my mu ma me q mp mg mw mf ml mq) (Ac ad 71)) args s 0 0 (Ac ad 71)) (F0 m 0 ls []) := by
  obtain ⟨hx, hb, hml, hown, hts, hr, hlk⟩ := id C
  unfold X12_refers at h
  refine lv_aload_n hx hb dX12_refers_0 rfl (lv_at hl 0 rfl) ?_
  refine gM0_61 C hK hP w1428 dX12_refers_1 ?_
  refine lv_aload_n hx hb dX12_refers_4 rfl (lv_at hl 0 rfl) ?_
  refine gM0_60 (v := mr.1) C hK hP rfl w1427 dX12_refers_5 ?_
  refine lv_iload hx hb dX12_refers_8 (lv_at hl 4 rfl) ?_
  obtain ⟨n1, h⟩ := grd h
  refine sM52 (f := mr.2.1) C hI hK hP hS rfl n1 dX12_refers_10 (fun H locs hP hS => ?_)
  have hP : va_P D vwCl (GM cy ad mt mc mb mo ms mk my mu ma me (mr.1, (upd mr.2.1 (mr.1).toNatClampNeg v6), mr.2.2.1, mr.2.2.2.1, mr.2.2.2.2) mp mg mw mf ml mq) H := hP
  refine lv_aload_n hx hb dX12_refers_11 rfl (lv_at hl 0 rfl) ?_
  refine gM0_62 C hK hP w1429 dX12_refers_12 ?_
  refine lv_aload_n hx hb dX12_refers_15 rfl (lv_at hl 0 rfl) ?_
  refine gM0_60 (v := mr.1) C hK hP rfl w1427 dX12_refers_16 ?_
  refine lv_lload hx hb dX12_refers_19 (lv_at hl 3 rfl) ?_
  obtain ⟨n2, h⟩ := grd h
  refine sM53 (f := mr.2.2.1) C hI hK hP hS rfl n2 dX12_refers_21 (fun H locs hP hS => ?_)
  have hP : va_P D vwCl (GM cy ad mt mc mb mo ms mk my mu ma me (mr.1, (upd mr.2.1 (mr.1).toNatClampNeg v6), (vp_updL mr.2.2.1 (mr.1).toNatClampNeg v4), mr.2.2.2.1, mr.2.2.2.2) mp mg mw mf ml mq) H := hP
  refine lv_aload_n hx hb dX12_refers_22 rfl (lv_at hl 0 rfl) ?_
  refine gM0_63 C hK hP w1430 dX12_refers_23 ?_
  refine lv_aload_n hx hb dX12_refers_26 rfl (lv_at hl 0 rfl) ?_
  refine gM0_60 (v := mr.1) C hK hP rfl w1427 dX12_refers_27 ?_
  refine lv_iload_n hx hb dX12_refers_30 rfl (lv_at hl 1 rfl) ?_
  obtain ⟨n3, h⟩ := grd h
  refine sM54 (f := mr.2.2.2.1) C hI hK hP hS rfl n3 dX12_refers_31 (fun H locs hP hS => ?_)
  have hP : va_P D vwCl (GM cy ad mt mc mb mo ms mk my mu ma me (mr.1, (upd mr.2.1 (mr.1).toNatClampNeg v6), (vp_updL mr.2.2.1 (mr.1).toNatClampNeg v4), (upd mr.2.2.2.1 (mr.1).toNatClampNeg v1), mr.2.2.2.2) mp mg mw mf ml mq) H := hP
  refine lv_aload_n hx hb dX12_refers_32 rfl (lv_at hl 0 rfl) ?_
  refine gM0_64 C hK hP w1431 dX12_refers_33 ?_
  refine lv_aload_n hx hb dX12_refers_36 rfl (lv_at hl 0 rfl) ?_
  refine gM0_60 (v := mr.1) C hK hP rfl w1427 dX12_refers_37 ?_
  refine lv_lload_n hx hb dX12_refers_40 rfl (lv_at hl 2 rfl) ?_
  refine lv_ldc2 (v := (49 : Int64)) hx hb hown (hts _ (List.mem_cons_of_mem _ w1801)) dX12_refers_41 ?_
  refine lc_ne (tgt := 52) hx hb dX12_refers_44 dX12_refers_45 (by decide) (fun c4 => ?_) (fun c4 => ?_)
  · rw [if_neg c4] at h
    refine lv_lload_n hx hb dX12_refers_52 rfl (lv_at hl 2 rfl) ?_
    refine lv_ldc2 (v := (71 : Int64)) hx hb hown (hts _ (List.mem_cons_of_mem _ w1802)) dX12_refers_53 ?_
    refine lc_ne (tgt := 64) hx hb dX12_refers_56 dX12_refers_57 (by decide) (fun c5 => ?_) (fun c5 => ?_)
    · rw [if_neg c5] at h
      refine lv_iconst (v := (0 : Int32)) hx hb dX12_refers_64 (by decide) ?_
      exact bX12_refers_65 C hI hK hN h (lv_sub hl [0] rfl) hP hS
    · rw [if_pos c5] at h
      refine lv_iconst (v := (2 : Int32)) hx hb dX12_refers_60 (by decide) ?_
      refine lv_goto (tgt := 65) hx hb dX12_refers_61 (by decide) ?_
      exact bX12_refers_65 C hI hK hN h (lv_sub hl [0] rfl) hP hS
  · rw [if_pos c4] at h
    refine lv_iconst (v := (1 : Int32)) hx hb dX12_refers_48 (by decide) ?_
    refine lv_goto (tgt := 65) hx hb dX12_refers_49 (by decide) ?_
    exact bX12_refers_65 C hI hK hN h (lv_sub hl [0] rfl) hP hS
theorem kX12_refers (hI : Apart ad 71) {v1 : Int32} {v2 : Int64} {v4 : Int64} {v6 : Int32} {q : Tmr} (h : X12_refers mr v1 v2 v4 v6 = some q) : Met l yX12_refers (.code yX12_refers cX12_refers 7 none :: WA) ({ frames := 0, cells := 0, slots := 0, locals := 0 } : Room) (va_Pc [.ref (ad 0), .int v1, .long v2, .long v4, .int v6] (PR D cy (GM cy ad mt mc mb mo ms mk my mu ma me mr mp mg mw mf ml mq))) (QR none D (GM cy ad mt mc mb mo ms mk my mu ma me q mp mg mw mf ml mq) (Ac ad 71)) 0 0 (Ac ad 71) :=
  met_of (by decide) (Nat.le_of_ble_eq_true rfl) (fun p e s m below meth c ls C hP hK hN hl => bX12_refers_0 C hI hK hN h hl hP va_S.rf)
def X12_text (mc : Tmc) (mb : Tmb) (ms : Tms) (me : Tme) (v1 : Int32) (v2 : Int64) (v4 : Int64) (v6 : Int32) : Option (Tmc × Tme) := (if inb (4 : Int32) 7 = true then (if v4 < (((ms.2.2.2.2.2 ((4 : Int32)).toNatClampNeg)).toInt64) then (if inb (4 : Int32) 7 = true then ((X12_endOf ms (4 : Int32)).bind fun q4 => ((X12_stringAt mb ((ms.2.2.2.2.1 ((4 : Int32)).toNatClampNeg) + ((v4).toInt32)) q4).bind fun q6 => (if q6 = (-1 : Int32) then (letq (X12_fail mc (1 : Int32) v6) fun q13 => some (q13, me)) else (if v2 = (3 : Int64) then (if inb (4 : Int32) 7 = true then ((X12_names mb me v1 ((ms.2.2.2.2.1 ((4 : Int32)).toNatClampNeg) + ((v4).toInt32)) q6).bind fun q11 => some (mc, q11)) else none) else some (mc, me))))) else none) else (letq (X12_fail mc (3 : Int32) v6) fun q15 => some (q15, me))) else none)
set_option maxRecDepth 20000 in
theorem bX12_text_0 (C : Cx p s m args meth c cX12_text 8 none RX12 (.code yX12_text cX12_text 8 none)) (hI : Apart ad 71) (hK : va_K D vwCl (tysX cy) s) (hN : NW s)  {q : Tmc × Tme}  {v1 : Int32} {v2 : Int64} {v4 : Int64} {v6 : Int32} (h : X12_text mc mb ms me v1 v2 v4 v6 = some q) {ls : Array Slot} (hl : lv_has ls 8 [(0, .ref (ad 0)), (1, .int v1), (2, .long v2), (4, .long v4), (6, .int v6)]) {H : Heap} {locs : List Loc} (hP : va_P D vwCl (GM cy ad mt mc mb mo ms mk my mu ma me mr mp mg mw mf ml mq) H) (hS : va_S (Ac ad 71) s.heap H locs) : W p l e ({ frames := 2, cells := 0, slots := 0, locals := 44 } : Room) s m args below meth c H locs 0 0 (MQ below (QR none D (GM cy ad mt q.1 mb mo ms mk my mu ma q.2 mr mp mg mw mf ml mq) (Ac ad 71)) args s 0 0 (Ac ad 71)) (F0 m 0 ls []) := by
  obtain ⟨hx, hb, hml, hown, hts, hr, hlk⟩ := id C
  unfold X12_text at h
  refine lv_lload hx hb dX12_text_0 (lv_at hl 3 rfl) ?_
  refine lv_aload_n hx hb dX12_text_2 rfl (lv_at hl 0 rfl) ?_
  refine gM0_21 C hK hP w1388 dX12_text_3 ?_
  refine lv_iconst (v := (4 : Int32)) hx hb dX12_text_6 (by decide) ?_
  obtain ⟨n1, h⟩ := grd h
  refine aM14 (f := ms.2.2.2.2.2) C hK hP rfl n1 dX12_text_7 ?_
  refine lv_i2l (v := (((ms.2.2.2.2.2 ((4 : Int32)).toNatClampNeg)).toInt64)) hx hb dX12_text_8 rfl ?_
  refine lc_lt (tgt := 21) hx hb dX12_text_9 dX12_text_10 (by decide) (fun c2 => ?_) (fun c2 => ?_)
  · rw [if_pos c2] at h
    refine lv_aload_n hx hb dX12_text_21 rfl (lv_at hl 0 rfl) ?_
    refine lv_aload_n hx hb dX12_text_22 rfl (lv_at hl 0 rfl) ?_
    refine gM0_20 C hK hP w1387 dX12_text_23 ?_
    refine lv_iconst (v := (4 : Int32)) hx hb dX12_text_26 (by decide) ?_
    obtain ⟨n3, h⟩ := grd h
    refine aM13 (f := ms.2.2.2.2.1) C hK hP rfl n3 dX12_text_27 ?_
    refine lv_lload hx hb dX12_text_28 (lv_at hl 3 rfl) ?_
    refine lv_l2i (v := ((v4).toInt32)) hx hb dX12_text_30 rfl ?_
    refine lv_iadd hx hb dX12_text_31 ?_
    refine lv_aload_n hx hb dX12_text_32 rfl (lv_at hl 0 rfl) ?_
    refine lv_iconst (v := (4 : Int32)) hx hb dX12_text_33 (by decide) ?_
    obtain ⟨q4, h5, h⟩ := bnd h
    refine cPi (run_V (rest := [.int ((ms.2.2.2.2.1 ((4 : Int32)).toNatClampNeg) + ((v4).toInt32)), .ref (ad 0)]) C (kX12_endOf h5) caX12_endOf w1712 ⟨rfl, rfl, Nat.le_of_ble_eq_true rfl, Nat.le_of_ble_eq_true rfl⟩ hK hN hP (rM0 hK hP) rfl hl.1 rfl (Nat.le_of_ble_eq_true rfl) dX12_text_34 ⟨Nat.zero_le _, Nat.zero_le _⟩) ?_
    obtain ⟨q6, h7, h⟩ := bnd h
    refine cPi (run_V (rest := []) C (kX12_stringAt h7) caX12_stringAt w1696 ⟨rfl, rfl, Nat.le_of_ble_eq_true rfl, Nat.le_of_ble_eq_true rfl⟩ hK hN hP (rM0 hK hP) rfl hl.1 rfl (Nat.le_of_ble_eq_true rfl) dX12_text_37 ⟨Nat.zero_le _, Nat.zero_le _⟩) ?_
    refine lv_istore (lv' := [(7, .int q6), (0, .ref (ad 0)), (1, .int v1), (2, .long v2), (4, .long v4), (6, .int v6)]) hx hb dX12_text_40 hl (by decide) rfl (fun ls hl => ?_)
    refine lv_iload hx hb dX12_text_42 (lv_at hl 0 rfl) ?_
    refine lv_iconst (v := (-1 : Int32)) hx hb dX12_text_44 (by decide) ?_
    refine lv_icmp_ne (tgt := 58) hx hb dX12_text_45 (by decide) (fun c8 => ?_) (fun c8 => ?_)
    · rw [if_neg c8] at h
      refine lv_lload_n hx hb dX12_text_58 rfl (lv_at hl 3 rfl) ?_
      refine lv_ldc2 (v := (3 : Int64)) hx hb hown (hts _ (List.mem_cons_of_mem _ w1785)) dX12_text_59 ?_
      refine lc_ne (tgt := 83) hx hb dX12_text_62 dX12_text_63 (by decide) (fun c9 => ?_) (fun c9 => ?_)
      · rw [if_neg c9] at h
        obtain rfl := Option.some.inj h
        exact W.vret hx hb hr (fun t ht _ => ⟨rfl, by rw [ht]; exact hP, hS.F ht⟩) hS.2.2 dX12_text_83 hlk
      · rw [if_pos c9] at h
        refine lv_aload_n hx hb dX12_text_66 rfl (lv_at hl 1 rfl) ?_
        refine lv_iload_n hx hb dX12_text_67 rfl (lv_at hl 2 rfl) ?_
        refine lv_aload_n hx hb dX12_text_68 rfl (lv_at hl 1 rfl) ?_
        refine gM0_20 C hK hP w1387 dX12_text_69 ?_
        refine lv_iconst (v := (4 : Int32)) hx hb dX12_text_72 (by decide) ?_
        obtain ⟨n10, h⟩ := grd h
        refine aM13 (f := ms.2.2.2.2.1) C hK hP rfl n10 dX12_text_73 ?_
        refine lv_lload hx hb dX12_text_74 (lv_at hl 4 rfl) ?_
        refine lv_l2i (v := ((v4).toInt32)) hx hb dX12_text_76 rfl ?_
        refine lv_iadd hx hb dX12_text_77 ?_
        refine lv_iload hx hb dX12_text_78 (lv_at hl 0 rfl) ?_
        obtain ⟨q11, h12, h⟩ := bnd h
        refine cRv (run_V (rest := []) C (kX12_names hI h12) caX12_names w1786 ⟨rfl, rfl, Nat.le_of_ble_eq_true rfl, Nat.le_of_ble_eq_true rfl⟩ hK hN hP (rM0 hK hP) rfl hl.1 rfl (Nat.le_of_ble_eq_true rfl) dX12_text_80 ⟨Nat.zero_le _, Nat.zero_le _⟩) hS (fun H locs hP hS => ?_)
        have hP : va_P D vwCl (GM cy ad mt mc mb mo ms mk my mu ma q11 mr mp mg mw mf ml mq) H := hP
        obtain rfl := Option.some.inj h
        exact W.vret hx hb hr (fun t ht _ => ⟨rfl, by rw [ht]; exact hP, hS.F ht⟩) hS.2.2 dX12_text_83 hlk
    · rw [if_pos c8] at h
      refine lv_aload_n hx hb dX12_text_48 rfl (lv_at hl 1 rfl) ?_
      refine lv_iconst (v := (1 : Int32)) hx hb dX12_text_49 (by decide) ?_
      refine lv_iload hx hb dX12_text_50 (lv_at hl 5 rfl) ?_
      obtain ⟨q13, h14, h⟩ := lets h
      refine cRv (run_V (rest := []) C (kX12_fail hI h14) caX12_fail w1678 ⟨rfl, rfl, Nat.le_of_ble_eq_true rfl, Nat.le_of_ble_eq_true rfl⟩ hK hN hP (rM0 hK hP) rfl hl.1 rfl (Nat.le_of_ble_eq_true rfl) dX12_text_52 ⟨Nat.zero_le _, Nat.zero_le _⟩) hS (fun H locs hP hS => ?_)
      have hP : va_P D vwCl (GM cy ad mt q13 mb mo ms mk my mu ma me mr mp mg mw mf ml mq) H := hP
      refine lv_goto (tgt := 83) hx hb dX12_text_55 (by decide) ?_
      obtain rfl := Option.some.inj h
      exact W.vret hx hb hr (fun t ht _ => ⟨rfl, by rw [ht]; exact hP, hS.F ht⟩) hS.2.2 dX12_text_83 hlk
  · rw [if_neg c2] at h
    refine lv_aload_n hx hb dX12_text_13 rfl (lv_at hl 0 rfl) ?_
    refine lv_iconst (v := (3 : Int32)) hx hb dX12_text_14 (by decide) ?_
    refine lv_iload hx hb dX12_text_15 (lv_at hl 4 rfl) ?_
    obtain ⟨q15, h16, h⟩ := lets h
    refine cRv (run_V (rest := []) C (kX12_fail hI h16) caX12_fail w1678 ⟨rfl, rfl, Nat.le_of_ble_eq_true rfl, Nat.le_of_ble_eq_true rfl⟩ hK hN hP (rM0 hK hP) rfl hl.1 rfl (Nat.le_of_ble_eq_true rfl) dX12_text_17 ⟨Nat.zero_le _, Nat.zero_le _⟩) hS (fun H locs hP hS => ?_)
    have hP : va_P D vwCl (GM cy ad mt q15 mb mo ms mk my mu ma me mr mp mg mw mf ml mq) H := hP
    obtain rfl := Option.some.inj h
    exact W.vret hx hb hr (fun t ht _ => ⟨rfl, by rw [ht]; exact hP, hS.F ht⟩) hS.2.2 dX12_text_20 hlk
theorem kX12_text (hI : Apart ad 71) {v1 : Int32} {v2 : Int64} {v4 : Int64} {v6 : Int32} {q : Tmc × Tme} (h : X12_text mc mb ms me v1 v2 v4 v6 = some q) : Met l yX12_text (.code yX12_text cX12_text 8 none :: WA) ({ frames := 2, cells := 0, slots := 0, locals := 44 } : Room) (va_Pc [.ref (ad 0), .int v1, .long v2, .long v4, .int v6] (PR D cy (GM cy ad mt mc mb mo ms mk my mu ma me mr mp mg mw mf ml mq))) (QR none D (GM cy ad mt q.1 mb mo ms mk my mu ma q.2 mr mp mg mw mf ml mq) (Ac ad 71)) 0 0 (Ac ad 71) :=
  met_of (by decide) (Nat.le_of_ble_eq_true rfl) (fun p e s m below meth c ls C hP hK hN hl => bX12_text_0 C hI hK hN h hl hP va_S.rf)
def X12_widthOf_43     : Int32 := (4 : Int32)
set_option maxRecDepth 20000 in
theorem bX12_widthOf_43 (C : Cx p s m args meth c cX12_widthOf 1 (some .int) RX12 (.code yX12_widthOf cX12_widthOf 1 (some .int))) (hK : va_K D vwCl (tysX cy) s) (hN : NW s)  {q : Int32}   (h : X12_widthOf_43 = q) {ls : Array Slot} (hl : lv_has ls 1 []) (hP : va_P D vwCl (GM cy ad mt mc mb mo ms mk my mu ma me mr mp mg mw mf ml mq) s.heap) : W p l e ({ frames := 0, cells := 0, slots := 0, locals := 0 } : Room) s m args below meth c s.heap [] 0 0 (MQ below (QP (some (.int q))) args s 0 0 (fun _ => False)) (F0 m 43 ls []) := by
  obtain ⟨hx, hb, hml, hown, hts, hr, hlk⟩ := id C
  unfold X12_widthOf_43 at h
  refine lv_iconst (v := (4 : Int32)) hx hb dX12_widthOf_43 (by decide) ?_
  refine lv_goto (tgt := 49) hx hb dX12_widthOf_44 (by decide) ?_
  obtain rfl := h
  exact W.iret hx hb hr (fun t ht _ => ⟨rfl, ht⟩) (fun _ h9 => by cases h9) dX12_widthOf_49 hlk
def X12_widthOf  (v0 : Int32) : Int32 := (if v0 = (11 : Int32) then (1 : Int32) else (if v0 = (5 : Int32) then (2 : Int32) else (if v0 = (6 : Int32) then X12_widthOf_43 else (if v0 = (14 : Int32) then X12_widthOf_43 else (if v0 = (19 : Int32) then X12_widthOf_43 else (if v0 = (23 : Int32) then X12_widthOf_43 else (8 : Int32)))))))
set_option maxRecDepth 20000 in
theorem bX12_widthOf_0 (C : Cx p s m args meth c cX12_widthOf 1 (some .int) RX12 (.code yX12_widthOf cX12_widthOf 1 (some .int))) (hK : va_K D vwCl (tysX cy) s) (hN : NW s)  {q : Int32}  {v0 : Int32} (h : X12_widthOf v0 = q) {ls : Array Slot} (hl : lv_has ls 1 [(0, .int v0)]) (hP : va_P D vwCl (GM cy ad mt mc mb mo ms mk my mu ma me mr mp mg mw mf ml mq) s.heap) : W p l e ({ frames := 0, cells := 0, slots := 0, locals := 0 } : Room) s m args below meth c s.heap [] 0 0 (MQ below (QP (some (.int q))) args s 0 0 (fun _ => False)) (F0 m 0 ls []) := by
  obtain ⟨hx, hb, hml, hown, hts, hr, hlk⟩ := id C
  unfold X12_widthOf at h
  refine lv_iload_n hx hb dX12_widthOf_0 rfl (lv_at hl 0 rfl) ?_
  refine lv_bipush (v := (11 : Int32)) hx hb dX12_widthOf_1 (by decide) ?_
  refine lv_icmp_ne (tgt := 10) hx hb dX12_widthOf_3 (by decide) (fun c1 => ?_) (fun c1 => ?_)
  · rw [if_neg c1] at h
    refine lv_iload_n hx hb dX12_widthOf_10 rfl (lv_at hl 0 rfl) ?_
    refine lv_iconst (v := (5 : Int32)) hx hb dX12_widthOf_11 (by decide) ?_
    refine lv_icmp_ne (tgt := 19) hx hb dX12_widthOf_12 (by decide) (fun c2 => ?_) (fun c2 => ?_)
    · rw [if_neg c2] at h
      refine lv_iload_n hx hb dX12_widthOf_19 rfl (lv_at hl 0 rfl) ?_
      refine lv_bipush (v := (6 : Int32)) hx hb dX12_widthOf_20 (by decide) ?_
      refine lv_icmp_eq (tgt := 43) hx hb dX12_widthOf_22 (by decide) (fun c3 => ?_) (fun c3 => ?_)
      · rw [if_pos c3] at h
        exact bX12_widthOf_43 C hK hN h (lv_sub hl [] rfl) hP
      · rw [if_neg c3] at h
        refine lv_iload_n hx hb dX12_widthOf_25 rfl (lv_at hl 0 rfl) ?_
        refine lv_bipush (v := (14 : Int32)) hx hb dX12_widthOf_26 (by decide) ?_
        refine lv_icmp_eq (tgt := 43) hx hb dX12_widthOf_28 (by decide) (fun c4 => ?_) (fun c4 => ?_)
        · rw [if_pos c4] at h
          exact bX12_widthOf_43 C hK hN h (lv_sub hl [] rfl) hP
        · rw [if_neg c4] at h
          refine lv_iload_n hx hb dX12_widthOf_31 rfl (lv_at hl 0 rfl) ?_
          refine lv_bipush (v := (19 : Int32)) hx hb dX12_widthOf_32 (by decide) ?_
          refine lv_icmp_eq (tgt := 43) hx hb dX12_widthOf_34 (by decide) (fun c5 => ?_) (fun c5 => ?_)
          · rw [if_pos c5] at h
            exact bX12_widthOf_43 C hK hN h (lv_sub hl [] rfl) hP
          · rw [if_neg c5] at h
            refine lv_iload_n hx hb dX12_widthOf_37 rfl (lv_at hl 0 rfl) ?_
            refine lv_bipush (v := (23 : Int32)) hx hb dX12_widthOf_38 (by decide) ?_
            refine lv_icmp_ne (tgt := 47) hx hb dX12_widthOf_40 (by decide) (fun c6 => ?_) (fun c6 => ?_)
            · rw [if_neg c6] at h
              refine lv_bipush (v := (8 : Int32)) hx hb dX12_widthOf_47 (by decide) ?_
              obtain rfl := h
              exact W.iret hx hb hr (fun t ht _ => ⟨rfl, ht⟩) (fun _ h9 => by cases h9) dX12_widthOf_49 hlk
            · rw [if_pos c6] at h
              exact bX12_widthOf_43 C hK hN h (lv_sub hl [] rfl) hP
    · rw [if_pos c2] at h
      refine lv_iconst (v := (2 : Int32)) hx hb dX12_widthOf_15 (by decide) ?_
      refine lv_goto (tgt := 49) hx hb dX12_widthOf_16 (by decide) ?_
      obtain rfl := h
      exact W.iret hx hb hr (fun t ht _ => ⟨rfl, ht⟩) (fun _ h9 => by cases h9) dX12_widthOf_49 hlk
  · rw [if_pos c1] at h
    refine lv_iconst (v := (1 : Int32)) hx hb dX12_widthOf_6 (by decide) ?_
    refine lv_goto (tgt := 49) hx hb dX12_widthOf_7 (by decide) ?_
    obtain rfl := h
    exact W.iret hx hb hr (fun t ht _ => ⟨rfl, ht⟩) (fun _ h9 => by cases h9) dX12_widthOf_49 hlk
theorem kX12_widthOf  {v0 : Int32} {q : Int32} (h : X12_widthOf v0 = q) : Met l yX12_widthOf (.code yX12_widthOf cX12_widthOf 1 (some .int) :: WA) ({ frames := 0, cells := 0, slots := 0, locals := 0 } : Room) (va_Pc [.int v0] (PR D cy (GM cy ad mt mc mb mo ms mk my mu ma me mr mp mg mw mf ml mq))) (QP (some (.int q))) 0 0 (fun _ => False) :=
  met_of (by decide) (Nat.le_of_ble_eq_true rfl) (fun p e s m below meth c ls C hP hK hN hl => bX12_widthOf_0 C hK hN h hl hP)
def X12_value_101 (mb : Tmb) (ms : Tms)  (mc : Tmc) (mu : Tmu) (me : Tme) (mr : Tmr) (v8 : Int64) : Option (Tmc × Tmu × Tme × Tmr) := (if (X12_isRight mc) = 0 then some (mc, mu, me, mr) else some (((mc.1 + ((v8).toInt32)), mc.2.1, mc.2.2.1, mc.2.2.2), mu, me, mr))
set_option maxRecDepth 20000 in
theorem bX12_value_101 (C : Cx p s m args meth c cX12_value 10 none RX12 (.code yX12_value cX12_value 10 none)) (hI : Apart ad 71) (hK : va_K D vwCl (tysX cy) s) (hN : NW s)  {q : Tmc × Tmu × Tme × Tmr}  {v8 : Int64} (h : X12_value_101 mb ms mc mu me mr v8 = some q) {ls : Array Slot} (hl : lv_has ls 10 [(0, .ref (ad 0)), (8, .long v8)]) {H : Heap} {locs : List Loc} (hP : va_P D vwCl (GM cy ad mt mc mb mo ms mk my mu ma me mr mp mg mw mf ml mq) H) (hS : va_S (Ac ad 71) s.heap H locs) : W p l e ({ frames := 3, cells := 0, slots := 0, locals := 71 } : Room) s m args below meth c H locs 0 0 (MQ below (QR none D (GM cy ad mt q.1 mb mo ms mk my q.2.1 ma q.2.2.1 q.2.2.2 mp mg mw mf ml mq) (Ac ad 71)) args s 0 0 (Ac ad 71)) (F0 m 101 ls []) := by
  obtain ⟨hx, hb, hml, hown, hts, hr, hlk⟩ := id C
  unfold X12_value_101 at h
  refine lv_aload_n hx hb dX12_value_101 rfl (lv_at hl 0 rfl) ?_
  refine cPi (run_V (rest := []) C (kX12_isRight rfl) caX12_isRight w1682 ⟨rfl, rfl, Nat.le_of_ble_eq_true rfl, Nat.le_of_ble_eq_true rfl⟩ hK hN hP (rM0 hK hP) rfl hl.1 rfl (Nat.le_of_ble_eq_true rfl) dX12_value_102 ⟨Nat.zero_le _, Nat.zero_le _⟩) ?_
  refine lv_if_eq (tgt := 120) hx hb dX12_value_105 (by decide) (fun c1 => ?_) (fun c1 => ?_)
  · rw [if_pos c1] at h
    obtain rfl := Option.some.inj h
    exact W.vret hx hb hr (fun t ht _ => ⟨rfl, by rw [ht]; exact hP, hS.F ht⟩) hS.2.2 dX12_value_120 hlk
  · rw [if_neg c1] at h
    refine lv_aload_n hx hb dX12_value_108 rfl (lv_at hl 0 rfl) ?_
    refine lv_dup hx hb dX12_value_109 rfl ?_
    refine gM0_77 (v := mc.1) C hK hP rfl w1444 dX12_value_110 ?_
    refine lv_lload hx hb dX12_value_113 (lv_at hl 1 rfl) ?_
    refine lv_l2i (v := ((v8).toInt32)) hx hb dX12_value_115 rfl ?_
    refine lv_iadd hx hb dX12_value_116 ?_
    refine pM0_77 (v := (mc.1 + ((v8).toInt32))) C hI hK hP hS w1444 dX12_value_117 (fun H locs hP hS => ?_)
    have hP : va_P D vwCl (GM cy ad mt ((mc.1 + ((v8).toInt32)), mc.2.1, mc.2.2.1, mc.2.2.2) mb mo ms mk my mu ma me mr mp mg mw mf ml mq) H := hP
    obtain rfl := Option.some.inj h
    exact W.vret hx hb hr (fun t ht _ => ⟨rfl, by rw [ht]; exact hP, hS.F ht⟩) hS.2.2 dX12_value_120 hlk
def X12_value_94 (mb : Tmb) (ms : Tms)  (mc : Tmc) (mu : Tmu) (me : Tme) (mr : Tmr) (v7 : Int32) (v8 : Int64) : Option (Tmc × Tmu × Tme × Tmr) := (letq (X12_fail mc (1 : Int32) v7) fun q1 => X12_value_101 mb ms q1 mu me mr v8)
set_option maxRecDepth 20000 in
theorem bX12_value_94 (C : Cx p s m args meth c cX12_value 10 none RX12 (.code yX12_value cX12_value 10 none)) (hI : Apart ad 71) (hK : va_K D vwCl (tysX cy) s) (hN : NW s)  {q : Tmc × Tmu × Tme × Tmr}  {v7 : Int32} {v8 : Int64} (h : X12_value_94 mb ms mc mu me mr v7 v8 = some q) {ls : Array Slot} (hl : lv_has ls 10 [(0, .ref (ad 0)), (7, .int v7), (8, .long v8)]) {H : Heap} {locs : List Loc} (hP : va_P D vwCl (GM cy ad mt mc mb mo ms mk my mu ma me mr mp mg mw mf ml mq) H) (hS : va_S (Ac ad 71) s.heap H locs) : W p l e ({ frames := 3, cells := 0, slots := 0, locals := 71 } : Room) s m args below meth c H locs 0 0 (MQ below (QR none D (GM cy ad mt q.1 mb mo ms mk my q.2.1 ma q.2.2.1 q.2.2.2 mp mg mw mf ml mq) (Ac ad 71)) args s 0 0 (Ac ad 71)) (F0 m 94 ls []) := by
  obtain ⟨hx, hb, hml, hown, hts, hr, hlk⟩ := id C
  unfold X12_value_94 at h
  refine lv_aload_n hx hb dX12_value_94 rfl (lv_at hl 0 rfl) ?_
  refine lv_iconst (v := (1 : Int32)) hx hb dX12_value_95 (by decide) ?_
  refine lv_iload hx hb dX12_value_96 (lv_at hl 1 rfl) ?_
  obtain ⟨q1, h2, h⟩ := lets h
  refine cRv (run_V (rest := []) C (kX12_fail hI h2) caX12_fail w1678 ⟨rfl, rfl, Nat.le_of_ble_eq_true rfl, Nat.le_of_ble_eq_true rfl⟩ hK hN hP (rM0 hK hP) rfl hl.1 rfl (Nat.le_of_ble_eq_true rfl) dX12_value_98 ⟨Nat.zero_le _, Nat.zero_le _⟩) hS (fun H locs hP hS => ?_)
  have hP : va_P D vwCl (GM cy ad mt q1 mb mo ms mk my mu ma me mr mp mg mw mf ml mq) H := hP
  exact bX12_value_101 C hI hK hN h (lv_sub hl [0, 2] rfl) hP hS
def X12_value_210 (mb : Tmb) (ms : Tms)  (mc : Tmc) (mu : Tmu) (me : Tme) (mr : Tmr) (v1 : Int32) (v2 : Int64) (v4 : Int32) (v7 : Int32) (v8 : Int64) : Option (Tmc × Tmu × Tme × Tmr) := (if v4 = (14 : Int32) then ((X12_text mc mb ms me v1 v2 v8 v7).bind fun q7 => some (q7.1, mu, q7.2, mr)) else (if v4 = (19 : Int32) then ((X12_refers mr v1 v2 v8 v7).bind fun q5 => some (mc, mu, me, q5)) else ((X12_matters mb mu me v1 v2 v4 v8).bind fun q3 => some (mc, q3.1, q3.2, mr))))
set_option maxRecDepth 20000 in
theorem bX12_value_210 (C : Cx p s m args meth c cX12_value 10 none RX12 (.code yX12_value cX12_value 10 none)) (hI : Apart ad 71) (hK : va_K D vwCl (tysX cy) s) (hN : NW s)  {q : Tmc × Tmu × Tme × Tmr}  {v1 : Int32} {v2 : Int64} {v4 : Int32} {v7 : Int32} {v8 : Int64} (h : X12_value_210 mb ms mc mu me mr v1 v2 v4 v7 v8 = some q) {ls : Array Slot} (hl : lv_has ls 10 [(0, .ref (ad 0)), (1, .int v1), (2, .long v2), (4, .int v4), (7, .int v7), (8, .long v8)]) {H : Heap} {locs : List Loc} (hP : va_P D vwCl (GM cy ad mt mc mb mo ms mk my mu ma me mr mp mg mw mf ml mq) H) (hS : va_S (Ac ad 71) s.heap H locs) : W p l e ({ frames := 3, cells := 0, slots := 0, locals := 71 } : Room) s m args below meth c H locs 0 0 (MQ below (QR none D (GM cy ad mt q.1 mb mo ms mk my q.2.1 ma q.2.2.1 q.2.2.2 mp mg mw mf ml mq) (Ac ad 71)) args s 0 0 (Ac ad 71)) (F0 m 210 ls []) := by
  obtain ⟨hx, hb, hml, hown, hts, hr, hlk⟩ := id C
  unfold X12_value_210 at h
  refine lv_iload hx hb dX12_value_210 (lv_at hl 3 rfl) ?_
  refine lv_bipush (v := (14 : Int32)) hx hb dX12_value_212 (by decide) ?_
  refine lv_icmp_ne (tgt := 230) hx hb dX12_value_214 (by decide) (fun c1 => ?_) (fun c1 => ?_)
  · rw [if_neg c1] at h
    refine lv_iload hx hb dX12_value_230 (lv_at hl 3 rfl) ?_
    refine lv_bipush (v := (19 : Int32)) hx hb dX12_value_232 (by decide) ?_
    refine lv_icmp_ne (tgt := 250) hx hb dX12_value_234 (by decide) (fun c2 => ?_) (fun c2 => ?_)
    · rw [if_neg c2] at h
      refine lv_aload_n hx hb dX12_value_250 rfl (lv_at hl 0 rfl) ?_
      refine lv_iload_n hx hb dX12_value_251 rfl (lv_at hl 1 rfl) ?_
      refine lv_lload_n hx hb dX12_value_252 rfl (lv_at hl 2 rfl) ?_
      refine lv_iload hx hb dX12_value_253 (lv_at hl 3 rfl) ?_
      refine lv_lload hx hb dX12_value_255 (lv_at hl 5 rfl) ?_
      obtain ⟨q3, h4, h⟩ := bnd h
      refine cRv (run_V (rest := []) C (kX12_matters hI h4) caX12_matters w1803 ⟨rfl, rfl, Nat.le_of_ble_eq_true rfl, Nat.le_of_ble_eq_true rfl⟩ hK hN hP (rM0 hK hP) rfl hl.1 rfl (Nat.le_of_ble_eq_true rfl) dX12_value_257 ⟨Nat.zero_le _, Nat.zero_le _⟩) hS (fun H locs hP hS => ?_)
      have hP : va_P D vwCl (GM cy ad mt mc mb mo ms mk my q3.1 ma q3.2 mr mp mg mw mf ml mq) H := hP
      obtain rfl := Option.some.inj h
      exact W.vret hx hb hr (fun t ht _ => ⟨rfl, by rw [ht]; exact hP, hS.F ht⟩) hS.2.2 dX12_value_260 hlk
    · rw [if_pos c2] at h
      refine lv_aload_n hx hb dX12_value_237 rfl (lv_at hl 0 rfl) ?_
      refine lv_iload_n hx hb dX12_value_238 rfl (lv_at hl 1 rfl) ?_
      refine lv_lload_n hx hb dX12_value_239 rfl (lv_at hl 2 rfl) ?_
      refine lv_lload hx hb dX12_value_240 (lv_at hl 5 rfl) ?_
      refine lv_iload hx hb dX12_value_242 (lv_at hl 4 rfl) ?_
      obtain ⟨q5, h6, h⟩ := bnd h
      refine cRv (run_V (rest := []) C (kX12_refers hI h6) caX12_refers w1797 ⟨rfl, rfl, Nat.le_of_ble_eq_true rfl, Nat.le_of_ble_eq_true rfl⟩ hK hN hP (rM0 hK hP) rfl hl.1 rfl (Nat.le_of_ble_eq_true rfl) dX12_value_244 ⟨Nat.zero_le _, Nat.zero_le _⟩) hS (fun H locs hP hS => ?_)
      have hP : va_P D vwCl (GM cy ad mt mc mb mo ms mk my mu ma me q5 mp mg mw mf ml mq) H := hP
      refine lv_goto (tgt := 260) hx hb dX12_value_247 (by decide) ?_
      obtain rfl := Option.some.inj h
      exact W.vret hx hb hr (fun t ht _ => ⟨rfl, by rw [ht]; exact hP, hS.F ht⟩) hS.2.2 dX12_value_260 hlk
  · rw [if_pos c1] at h
    refine lv_aload_n hx hb dX12_value_217 rfl (lv_at hl 0 rfl) ?_
    refine lv_iload_n hx hb dX12_value_218 rfl (lv_at hl 1 rfl) ?_
    refine lv_lload_n hx hb dX12_value_219 rfl (lv_at hl 2 rfl) ?_
    refine lv_lload hx hb dX12_value_220 (lv_at hl 5 rfl) ?_
    refine lv_iload hx hb dX12_value_222 (lv_at hl 4 rfl) ?_
    obtain ⟨q7, h8, h⟩ := bnd h
    refine cRv (run_V (rest := []) C (kX12_text hI h8) caX12_text w1793 ⟨rfl, rfl, Nat.le_of_ble_eq_true rfl, Nat.le_of_ble_eq_true rfl⟩ hK hN hP (rM0 hK hP) rfl hl.1 rfl (Nat.le_of_ble_eq_true rfl) dX12_value_224 ⟨Nat.zero_le _, Nat.zero_le _⟩) hS (fun H locs hP hS => ?_)
    have hP : va_P D vwCl (GM cy ad mt q7.1 mb mo ms mk my mu ma q7.2 mr mp mg mw mf ml mq) H := hP
    refine lv_goto (tgt := 260) hx hb dX12_value_227 (by decide) ?_
    obtain rfl := Option.some.inj h
    exact W.vret hx hb hr (fun t ht _ => ⟨rfl, by rw [ht]; exact hP, hS.F ht⟩) hS.2.2 dX12_value_260 hlk
def X12_value_179 (mb : Tmb) (ms : Tms)  (mc : Tmc) (mu : Tmu) (me : Tme) (mr : Tmr) (v1 : Int32) (v2 : Int64) (v4 : Int32) (v7 : Int32) (z0 : Int64) : Option (Tmc × Tmu × Tme × Tmr) := (if (X12_isRight mc) = 0 then some (mc, mu, me, mr) else (if v4 = (1 : Int32) then (if z0 < (0 : Int64) then (letq (X12_fail mc (2 : Int32) v7) fun q4 => some (q4, mu, me, mr)) else X12_value_210 mb ms mc mu me mr v1 v2 v4 v7 z0) else X12_value_210 mb ms mc mu me mr v1 v2 v4 v7 z0))
set_option maxRecDepth 20000 in
theorem bX12_value_179 (C : Cx p s m args meth c cX12_value 10 none RX12 (.code yX12_value cX12_value 10 none)) (hI : Apart ad 71) (hK : va_K D vwCl (tysX cy) s) (hN : NW s)  {q : Tmc × Tmu × Tme × Tmr}  {v1 : Int32} {v2 : Int64} {v4 : Int32} {v7 : Int32} {z0 : Int64} (h : X12_value_179 mb ms mc mu me mr v1 v2 v4 v7 z0 = some q) {ls : Array Slot} (hl : lv_has ls 10 [(0, .ref (ad 0)), (1, .int v1), (2, .long v2), (4, .int v4), (7, .int v7)]) {H : Heap} {locs : List Loc} (hP : va_P D vwCl (GM cy ad mt mc mb mo ms mk my mu ma me mr mp mg mw mf ml mq) H) (hS : va_S (Ac ad 71) s.heap H locs) : W p l e ({ frames := 3, cells := 0, slots := 0, locals := 71 } : Room) s m args below meth c H locs 0 0 (MQ below (QR none D (GM cy ad mt q.1 mb mo ms mk my q.2.1 ma q.2.2.1 q.2.2.2 mp mg mw mf ml mq) (Ac ad 71)) args s 0 0 (Ac ad 71)) (F0 m 179 ls [.long z0]) := by
  obtain ⟨hx, hb, hml, hown, hts, hr, hlk⟩ := id C
  unfold X12_value_179 at h
  refine lv_lstore (lv' := [(8, .long z0), (0, .ref (ad 0)), (1, .int v1), (2, .long v2), (4, .int v4), (7, .int v7)]) hx hb dX12_value_179 hl (by decide) rfl (fun ls hl => ?_)
  refine lv_aload_n hx hb dX12_value_181 rfl (lv_at hl 1 rfl) ?_
  refine cPi (run_V (rest := []) C (kX12_isRight rfl) caX12_isRight w1682 ⟨rfl, rfl, Nat.le_of_ble_eq_true rfl, Nat.le_of_ble_eq_true rfl⟩ hK hN hP (rM0 hK hP) rfl hl.1 rfl (Nat.le_of_ble_eq_true rfl) dX12_value_182 ⟨Nat.zero_le _, Nat.zero_le _⟩) ?_
  refine lv_if_ne (tgt := 189) hx hb dX12_value_185 (by decide) (fun c1 => ?_) (fun c1 => ?_)
  · rw [if_neg c1] at h
    refine lv_iload hx hb dX12_value_189 (lv_at hl 4 rfl) ?_
    refine lv_iconst (v := (1 : Int32)) hx hb dX12_value_191 (by decide) ?_
    refine lv_icmp_ne (tgt := 210) hx hb dX12_value_192 (by decide) (fun c2 => ?_) (fun c2 => ?_)
    · rw [if_neg c2] at h
      exact bX12_value_210 C hI hK hN h (lv_sub hl [1, 2, 3, 4, 5, 0] rfl) hP hS
    · rw [if_pos c2] at h
      refine lv_lload hx hb dX12_value_195 (lv_at hl 0 rfl) ?_
      refine lv_lconst (v := (0 : Int64)) hx hb dX12_value_197 (by decide) ?_
      refine lc_ge (tgt := 210) hx hb dX12_value_198 dX12_value_199 (by decide) (fun c3 => ?_) (fun c3 => ?_)
      · rw [if_neg c3] at h
        exact bX12_value_210 C hI hK hN h (lv_sub hl [1, 2, 3, 4, 5, 0] rfl) hP hS
      · rw [if_pos c3] at h
        refine lv_aload_n hx hb dX12_value_202 rfl (lv_at hl 1 rfl) ?_
        refine lv_iconst (v := (2 : Int32)) hx hb dX12_value_203 (by decide) ?_
        refine lv_iload hx hb dX12_value_204 (lv_at hl 5 rfl) ?_
        obtain ⟨q4, h5, h⟩ := lets h
        refine cRv (run_V (rest := []) C (kX12_fail hI h5) caX12_fail w1678 ⟨rfl, rfl, Nat.le_of_ble_eq_true rfl, Nat.le_of_ble_eq_true rfl⟩ hK hN hP (rM0 hK hP) rfl hl.1 rfl (Nat.le_of_ble_eq_true rfl) dX12_value_206 ⟨Nat.zero_le _, Nat.zero_le _⟩) hS (fun H locs hP hS => ?_)
        have hP : va_P D vwCl (GM cy ad mt q4 mb mo ms mk my mu ma me mr mp mg mw mf ml mq) H := hP
        obtain rfl := Option.some.inj h
        exact W.vret hx hb hr (fun t ht _ => ⟨rfl, by rw [ht]; exact hP, hS.F ht⟩) hS.2.2 dX12_value_209 hlk
  · rw [if_pos c1] at h
    obtain rfl := Option.some.inj h
    exact W.vret hx hb hr (fun t ht _ => ⟨rfl, by rw [ht]; exact hP, hS.F ht⟩) hS.2.2 dX12_value_188 hlk
def X12_value (mc : Tmc) (mb : Tmb) (ms : Tms) (mu : Tmu) (me : Tme) (mr : Tmr) (v1 : Int32) (v2 : Int64) (v4 : Int32) (v5 : Int64) : Option (Tmc × Tmu × Tme × Tmr) := (if v4 = (8 : Int32) then ((X12_string mc mb).bind fun q18 => (if (X12_isRight q18.2) = 0 then some (q18.2, mu, me, mr) else (if v2 = (3 : Int64) then ((X12_names mb me v1 q18.1 ((q18.2.1 - q18.1) - (1 : Int32))).bind fun q22 => some (q18.2, mu, q22, mr)) else some (q18.2, mu, me, mr)))) else (if v4 = (24 : Int32) then ((X12_uleb mc mb).bind fun q13 => (if (X12_isRight q13.2) = 0 then X12_value_101 mb ms q13.2 mu me mr q13.1 else (if q13.1 < (0 : Int64) then X12_value_94 mb ms q13.2 mu me mr mc.1 q13.1 else (if (((q13.2.2.1 - q13.2.1)).toInt64) < q13.1 then X12_value_94 mb ms q13.2 mu me mr mc.1 q13.1 else X12_value_101 mb ms q13.2 mu me mr q13.1)))) else (if v4 = (25 : Int32) then some (mc, mu, me, mr) else (if v4 = (33 : Int32) then X12_value_179 mb ms mc mu me mr v1 v2 v4 mc.1 v5 else (if v4 = (15 : Int32) then ((X12_uleb mc mb).bind fun q11 => X12_value_179 mb ms q11.2 mu me mr v1 v2 v4 mc.1 q11.1) else (if v4 = (13 : Int32) then ((X12_leb mc mb (1 : Int32)).bind fun q9 => X12_value_179 mb ms q9.2 mu me mr v1 v2 v4 mc.1 q9.1) else ((X12_number mc mb (X12_widthOf v4)).bind fun q7 => X12_value_179 mb ms q7.2 mu me mr v1 v2 v4 mc.1 q7.1)))))))
set_option maxRecDepth 20000 in
theorem bX12_value_0 (C : Cx p s m args meth c cX12_value 10 none RX12 (.code yX12_value cX12_value 10 none)) (hI : Apart ad 71) (hK : va_K D vwCl (tysX cy) s) (hN : NW s)  {q : Tmc × Tmu × Tme × Tmr}  {v1 : Int32} {v2 : Int64} {v4 : Int32} {v5 : Int64} (h : X12_value mc mb ms mu me mr v1 v2 v4 v5 = some q) {ls : Array Slot} (hl : lv_has ls 10 [(0, .ref (ad 0)), (1, .int v1), (2, .long v2), (4, .int v4), (5, .long v5)]) {H : Heap} {locs : List Loc} (hP : va_P D vwCl (GM cy ad mt mc mb mo ms mk my mu ma me mr mp mg mw mf ml mq) H) (hS : va_S (Ac ad 71) s.heap H locs) : W p l e ({ frames := 3, cells := 0, slots := 0, locals := 71 } : Room) s m args below meth c H locs 0 0 (MQ below (QR none D (GM cy ad mt q.1 mb mo ms mk my q.2.1 ma q.2.2.1 q.2.2.2 mp mg mw mf ml mq) (Ac ad 71)) args s 0 0 (Ac ad 71)) (F0 m 0 ls []) := by
  obtain ⟨hx, hb, hml, hown, hts, hr, hlk⟩ := id C
  unfold X12_value at h
  refine lv_aload_n hx hb dX12_value_0 rfl (lv_at hl 0 rfl) ?_
  refine gM0_77 (v := mc.1) C hK hP rfl w1444 dX12_value_1 ?_
  refine lv_istore (lv' := [(7, .int mc.1), (0, .ref (ad 0)), (1, .int v1), (2, .long v2), (4, .int v4), (5, .long v5)]) hx hb dX12_value_4 hl (by decide) rfl (fun ls hl => ?_)
  refine lv_iload hx hb dX12_value_6 (lv_at hl 4 rfl) ?_
  refine lv_bipush (v := (8 : Int32)) hx hb dX12_value_8 (by decide) ?_
  refine lv_icmp_ne (tgt := 51) hx hb dX12_value_10 (by decide) (fun c1 => ?_) (fun c1 => ?_)
  · rw [if_neg c1] at h
    refine lv_iload hx hb dX12_value_51 (lv_at hl 4 rfl) ?_
    refine lv_bipush (v := (24 : Int32)) hx hb dX12_value_53 (by decide) ?_
    refine lv_icmp_ne (tgt := 121) hx hb dX12_value_55 (by decide) (fun c2 => ?_) (fun c2 => ?_)
    · rw [if_neg c2] at h
      refine lv_iload hx hb dX12_value_121 (lv_at hl 4 rfl) ?_
      refine lv_bipush (v := (25 : Int32)) hx hb dX12_value_123 (by decide) ?_
      refine lv_icmp_ne (tgt := 129) hx hb dX12_value_125 (by decide) (fun c3 => ?_) (fun c3 => ?_)
      · rw [if_neg c3] at h
        refine lv_iload hx hb dX12_value_129 (lv_at hl 4 rfl) ?_
        refine lv_bipush (v := (33 : Int32)) hx hb dX12_value_131 (by decide) ?_
        refine lv_icmp_ne (tgt := 141) hx hb dX12_value_133 (by decide) (fun c4 => ?_) (fun c4 => ?_)
        · rw [if_neg c4] at h
          refine lv_iload hx hb dX12_value_141 (lv_at hl 4 rfl) ?_
          refine lv_bipush (v := (15 : Int32)) hx hb dX12_value_143 (by decide) ?_
          refine lv_icmp_ne (tgt := 155) hx hb dX12_value_145 (by decide) (fun c5 => ?_) (fun c5 => ?_)
          · rw [if_neg c5] at h
            refine lv_iload hx hb dX12_value_155 (lv_at hl 4 rfl) ?_
            refine lv_bipush (v := (13 : Int32)) hx hb dX12_value_157 (by decide) ?_
            refine lv_icmp_ne (tgt := 170) hx hb dX12_value_159 (by decide) (fun c6 => ?_) (fun c6 => ?_)
            · rw [if_neg c6] at h
              refine lv_aload_n hx hb dX12_value_170 rfl (lv_at hl 1 rfl) ?_
              refine lv_iload hx hb dX12_value_171 (lv_at hl 4 rfl) ?_
              refine cPi (run_S (rest := [.ref (ad 0)]) C (kX12_widthOf rfl) caX12_widthOf w1790 ⟨rfl, rfl, Nat.le_of_ble_eq_true rfl, Nat.le_of_ble_eq_true rfl⟩ hK hN hP rfl hl.1 rfl (Nat.le_of_ble_eq_true rfl) dX12_value_173 ⟨Nat.zero_le _, Nat.zero_le _⟩) ?_
              obtain ⟨q7, h8, h⟩ := bnd h
              refine cRl (run_V (rest := []) C (kX12_number hI h8) caX12_number w1724 ⟨rfl, rfl, Nat.le_of_ble_eq_true rfl, Nat.le_of_ble_eq_true rfl⟩ hK hN hP (rM0 hK hP) rfl hl.1 rfl (Nat.le_of_ble_eq_true rfl) dX12_value_176 ⟨Nat.zero_le _, Nat.zero_le _⟩) hS (fun H locs hP hS => ?_)
              have hP : va_P D vwCl (GM cy ad mt q7.2 mb mo ms mk my mu ma me mr mp mg mw mf ml mq) H := hP
              exact bX12_value_179 C hI hK hN h (lv_sub hl [1, 2, 3, 4, 0] rfl) hP hS
            · rw [if_pos c6] at h
              refine lv_aload_n hx hb dX12_value_162 rfl (lv_at hl 1 rfl) ?_
              refine lv_iconst (v := (1 : Int32)) hx hb dX12_value_163 (by decide) ?_
              obtain ⟨q9, h10, h⟩ := bnd h
              refine cRl (run_V (rest := []) C (kX12_leb hI h10) caX12_leb w1745 ⟨rfl, rfl, Nat.le_of_ble_eq_true rfl, Nat.le_of_ble_eq_true rfl⟩ hK hN hP (rM0 hK hP) rfl hl.1 rfl (Nat.le_of_ble_eq_true rfl) dX12_value_164 ⟨Nat.zero_le _, Nat.zero_le _⟩) hS (fun H locs hP hS => ?_)
              have hP : va_P D vwCl (GM cy ad mt q9.2 mb mo ms mk my mu ma me mr mp mg mw mf ml mq) H := hP
              refine lv_goto (tgt := 179) hx hb dX12_value_167 (by decide) ?_
              exact bX12_value_179 C hI hK hN h (lv_sub hl [1, 2, 3, 4, 0] rfl) hP hS
          · rw [if_pos c5] at h
            refine lv_aload_n hx hb dX12_value_148 rfl (lv_at hl 1 rfl) ?_
            obtain ⟨q11, h12, h⟩ := bnd h
            refine cRl (run_V (rest := []) C (kX12_uleb hI h12) caX12_uleb w1741 ⟨rfl, rfl, Nat.le_of_ble_eq_true rfl, Nat.le_of_ble_eq_true rfl⟩ hK hN hP (rM0 hK hP) rfl hl.1 rfl (Nat.le_of_ble_eq_true rfl) dX12_value_149 ⟨Nat.zero_le _, Nat.zero_le _⟩) hS (fun H locs hP hS => ?_)
            have hP : va_P D vwCl (GM cy ad mt q11.2 mb mo ms mk my mu ma me mr mp mg mw mf ml mq) H := hP
            refine lv_goto (tgt := 179) hx hb dX12_value_152 (by decide) ?_
            exact bX12_value_179 C hI hK hN h (lv_sub hl [1, 2, 3, 4, 0] rfl) hP hS
        · rw [if_pos c4] at h
          refine lv_lload hx hb dX12_value_136 (lv_at hl 5 rfl) ?_
          refine lv_goto (tgt := 179) hx hb dX12_value_138 (by decide) ?_
          exact bX12_value_179 C hI hK hN h (lv_sub hl [1, 2, 3, 4, 0] rfl) hP hS
      · rw [if_pos c3] at h
        obtain rfl := Option.some.inj h
        exact W.vret hx hb hr (fun t ht _ => ⟨rfl, by rw [ht]; exact hP, hS.F ht⟩) hS.2.2 dX12_value_128 hlk
    · rw [if_pos c2] at h
      refine lv_aload_n hx hb dX12_value_58 rfl (lv_at hl 1 rfl) ?_
      obtain ⟨q13, h14, h⟩ := bnd h
      refine cRl (run_V (rest := []) C (kX12_uleb hI h14) caX12_uleb w1741 ⟨rfl, rfl, Nat.le_of_ble_eq_true rfl, Nat.le_of_ble_eq_true rfl⟩ hK hN hP (rM0 hK hP) rfl hl.1 rfl (Nat.le_of_ble_eq_true rfl) dX12_value_59 ⟨Nat.zero_le _, Nat.zero_le _⟩) hS (fun H locs hP hS => ?_)
      have hP : va_P D vwCl (GM cy ad mt q13.2 mb mo ms mk my mu ma me mr mp mg mw mf ml mq) H := hP
      refine lv_lstore (lv' := [(8, .long q13.1), (7, .int mc.1), (0, .ref (ad 0)), (1, .int v1), (2, .long v2), (4, .int v4), (5, .long v5)]) hx hb dX12_value_62 hl (by decide) rfl (fun ls hl => ?_)
      refine lv_aload_n hx hb dX12_value_64 rfl (lv_at hl 2 rfl) ?_
      refine cPi (run_V (rest := []) C (kX12_isRight rfl) caX12_isRight w1682 ⟨rfl, rfl, Nat.le_of_ble_eq_true rfl, Nat.le_of_ble_eq_true rfl⟩ hK hN hP (rM0 hK hP) rfl hl.1 rfl (Nat.le_of_ble_eq_true rfl) dX12_value_65 ⟨Nat.zero_le _, Nat.zero_le _⟩) ?_
      refine lv_if_eq (tgt := 101) hx hb dX12_value_68 (by decide) (fun c15 => ?_) (fun c15 => ?_)
      · rw [if_pos c15] at h
        exact bX12_value_101 C hI hK hN h (lv_sub hl [2, 0] rfl) hP hS
      · rw [if_neg c15] at h
        refine lv_lload hx hb dX12_value_71 (lv_at hl 0 rfl) ?_
        refine lv_lconst (v := (0 : Int64)) hx hb dX12_value_73 (by decide) ?_
        refine lc_lt (tgt := 94) hx hb dX12_value_74 dX12_value_75 (by decide) (fun c16 => ?_) (fun c16 => ?_)
        · rw [if_pos c16] at h
          exact bX12_value_94 C hI hK hN h (lv_sub hl [2, 1, 0] rfl) hP hS
        · rw [if_neg c16] at h
          refine lv_lload hx hb dX12_value_78 (lv_at hl 0 rfl) ?_
          refine lv_aload_n hx hb dX12_value_80 rfl (lv_at hl 2 rfl) ?_
          refine gM0_78 (v := q13.2.2.1) C hK hP rfl w1445 dX12_value_81 ?_
          refine lv_aload_n hx hb dX12_value_84 rfl (lv_at hl 2 rfl) ?_
          refine gM0_77 (v := q13.2.1) C hK hP rfl w1444 dX12_value_85 ?_
          refine lv_isub hx hb dX12_value_88 ?_
          refine lv_i2l (v := (((q13.2.2.1 - q13.2.1)).toInt64)) hx hb dX12_value_89 rfl ?_
          refine lc_le (tgt := 101) hx hb dX12_value_90 dX12_value_91 (by decide) (fun c17 => ?_) (fun c17 => ?_)
          · rw [if_neg c17] at h
            exact bX12_value_101 C hI hK hN h (lv_sub hl [2, 0] rfl) hP hS
          · rw [if_pos c17] at h
            exact bX12_value_94 C hI hK hN h (lv_sub hl [2, 1, 0] rfl) hP hS
  · rw [if_pos c1] at h
    refine lv_aload_n hx hb dX12_value_13 rfl (lv_at hl 1 rfl) ?_
    obtain ⟨q18, h19, h⟩ := bnd h
    refine cRi (run_V (rest := []) C (kX12_string hI h19) caX12_string w1781 ⟨rfl, rfl, Nat.le_of_ble_eq_true rfl, Nat.le_of_ble_eq_true rfl⟩ hK hN hP (rM0 hK hP) rfl hl.1 rfl (Nat.le_of_ble_eq_true rfl) dX12_value_14 ⟨Nat.zero_le _, Nat.zero_le _⟩) hS (fun H locs hP hS => ?_)
    have hP : va_P D vwCl (GM cy ad mt q18.2 mb mo ms mk my mu ma me mr mp mg mw mf ml mq) H := hP
    refine lv_istore (lv' := [(8, .int q18.1), (7, .int mc.1), (0, .ref (ad 0)), (1, .int v1), (2, .long v2), (4, .int v4), (5, .long v5)]) hx hb dX12_value_17 hl (by decide) rfl (fun ls hl => ?_)
    refine lv_aload_n hx hb dX12_value_19 rfl (lv_at hl 2 rfl) ?_
    refine cPi (run_V (rest := []) C (kX12_isRight rfl) caX12_isRight w1682 ⟨rfl, rfl, Nat.le_of_ble_eq_true rfl, Nat.le_of_ble_eq_true rfl⟩ hK hN hP (rM0 hK hP) rfl hl.1 rfl (Nat.le_of_ble_eq_true rfl) dX12_value_20 ⟨Nat.zero_le _, Nat.zero_le _⟩) ?_
    refine lv_if_eq (tgt := 50) hx hb dX12_value_23 (by decide) (fun c20 => ?_) (fun c20 => ?_)
    · rw [if_pos c20] at h
      obtain rfl := Option.some.inj h
      exact W.vret hx hb hr (fun t ht _ => ⟨rfl, by rw [ht]; exact hP, hS.F ht⟩) hS.2.2 dX12_value_50 hlk
    · rw [if_neg c20] at h
      refine lv_lload_n hx hb dX12_value_26 rfl (lv_at hl 4 rfl) ?_
      refine lv_ldc2 (v := (3 : Int64)) hx hb hown (hts _ (List.mem_cons_of_mem _ w1785)) dX12_value_27 ?_
      refine lc_ne (tgt := 50) hx hb dX12_value_30 dX12_value_31 (by decide) (fun c21 => ?_) (fun c21 => ?_)
      · rw [if_neg c21] at h
        obtain rfl := Option.some.inj h
        exact W.vret hx hb hr (fun t ht _ => ⟨rfl, by rw [ht]; exact hP, hS.F ht⟩) hS.2.2 dX12_value_50 hlk
      · rw [if_pos c21] at h
        refine lv_aload_n hx hb dX12_value_34 rfl (lv_at hl 2 rfl) ?_
        refine lv_iload_n hx hb dX12_value_35 rfl (lv_at hl 3 rfl) ?_
        refine lv_iload hx hb dX12_value_36 (lv_at hl 0 rfl) ?_
        refine lv_aload_n hx hb dX12_value_38 rfl (lv_at hl 2 rfl) ?_
        refine gM0_77 (v := q18.2.1) C hK hP rfl w1444 dX12_value_39 ?_
        refine lv_iload hx hb dX12_value_42 (lv_at hl 0 rfl) ?_
        refine lv_isub hx hb dX12_value_44 ?_
        refine lv_iconst (v := (1 : Int32)) hx hb dX12_value_45 (by decide) ?_
        refine lv_isub hx hb dX12_value_46 ?_
        obtain ⟨q22, h23, h⟩ := bnd h
        refine cRv (run_V (rest := []) C (kX12_names hI h23) caX12_names w1786 ⟨rfl, rfl, Nat.le_of_ble_eq_true rfl, Nat.le_of_ble_eq_true rfl⟩ hK hN hP (rM0 hK hP) rfl hl.1 rfl (Nat.le_of_ble_eq_true rfl) dX12_value_47 ⟨Nat.zero_le _, Nat.zero_le _⟩) hS (fun H locs hP hS => ?_)
        have hP : va_P D vwCl (GM cy ad mt q18.2 mb mo ms mk my mu ma q22 mr mp mg mw mf ml mq) H := hP
        obtain rfl := Option.some.inj h
        exact W.vret hx hb hr (fun t ht _ => ⟨rfl, by rw [ht]; exact hP, hS.F ht⟩) hS.2.2 dX12_value_50 hlk
theorem kX12_value (hI : Apart ad 71) {v1 : Int32} {v2 : Int64} {v4 : Int32} {v5 : Int64} {q : Tmc × Tmu × Tme × Tmr} (h : X12_value mc mb ms mu me mr v1 v2 v4 v5 = some q) : Met l yX12_value (.code yX12_value cX12_value 10 none :: WA) ({ frames := 3, cells := 0, slots := 0, locals := 71 } : Room) (va_Pc [.ref (ad 0), .int v1, .long v2, .int v4, .long v5] (PR D cy (GM cy ad mt mc mb mo ms mk my mu ma me mr mp mg mw mf ml mq))) (QR none D (GM cy ad mt q.1 mb mo ms mk my q.2.1 ma q.2.2.1 q.2.2.2 mp mg mw mf ml mq) (Ac ad 71)) 0 0 (Ac ad 71) :=
  met_of (by decide) (Nat.le_of_ble_eq_true rfl) (fun p e s m below meth c ls C hP hK hN hl => bX12_value_0 C hI hK hN h hl hP va_S.rf)
def X12_enters_316 (mb : Tmb) (ms : Tms) (ma : Tma)  (mc : Tmc) (mu : Tmu) (me : Tme) (mr : Tmr) (mp : Tmp) (v4 : Int32) (v5 : Int32) : Option (Tmc × Tmu × Tme × Tmr × Tmp) := (if inb v4 40 = true then (if (ma.2.2.2.1 (v4).toNatClampNeg) = 0 then some (mc, mu, me, mr, mp) else (if inb mp.2 24 = true then some (mc, mu, me, mr, ((upd mp.1 (mp.2).toNatClampNeg v5), (mp.2 + (1 : Int32)))) else none)) else none)
set_option maxRecDepth 20000 in
theorem bX12_enters_316 (C : Cx p s m args meth c cX12_enters 8 none RX12 (.code yX12_enters cX12_enters 8 none)) (hI : Apart ad 71) (hK : va_K D vwCl (tysX cy) s) (hN : NW s)  {q : Tmc × Tmu × Tme × Tmr × Tmp}  {v4 : Int32} {v5 : Int32} (h : X12_enters_316 mb ms ma mc mu me mr mp v4 v5 = some q) {ls : Array Slot} (hl : lv_has ls 8 [(0, .ref (ad 0)), (4, .int v4), (5, .int v5)]) {H : Heap} {locs : List Loc} (hP : va_P D vwCl (GM cy ad mt mc mb mo ms mk my mu ma me mr mp mg mw mf ml mq) H) (hS : va_S (Ac ad 71) s.heap H locs) : W p l e ({ frames := 4, cells := 0, slots := 0, locals := 100 } : Room) s m args below meth c H locs 0 0 (MQ below (QR none D (GM cy ad mt q.1 mb mo ms mk my q.2.1 ma q.2.2.1 q.2.2.2.1 q.2.2.2.2 mg mw mf ml mq) (Ac ad 71)) args s 0 0 (Ac ad 71)) (F0 m 316 ls []) := by
  obtain ⟨hx, hb, hml, hown, hts, hr, hlk⟩ := id C
  unfold X12_enters_316 at h
  refine lv_aload_n hx hb dX12_enters_316 rfl (lv_at hl 0 rfl) ?_
  refine gM0_37 C hK hP w1404 dX12_enters_317 ?_
  refine lv_iload hx hb dX12_enters_320 (lv_at hl 1 rfl) ?_
  obtain ⟨n1, h⟩ := grd h
  refine aM29 (f := ma.2.2.2.1) C hK hP rfl n1 dX12_enters_322 ?_
  refine lv_if_ne (tgt := 327) hx hb dX12_enters_323 (by decide) (fun c2 => ?_) (fun c2 => ?_)
  · rw [if_neg c2] at h
    refine lv_aload_n hx hb dX12_enters_327 rfl (lv_at hl 0 rfl) ?_
    refine gM0_65 C hK hP w1432 dX12_enters_328 ?_
    refine lv_aload_n hx hb dX12_enters_331 rfl (lv_at hl 0 rfl) ?_
    refine gM0_66 (v := mp.2) C hK hP rfl w1433 dX12_enters_332 ?_
    refine lv_iload hx hb dX12_enters_335 (lv_at hl 2 rfl) ?_
    obtain ⟨n3, h⟩ := grd h
    refine sM56 (f := mp.1) C hI hK hP hS rfl n3 dX12_enters_337 (fun H locs hP hS => ?_)
    have hP : va_P D vwCl (GM cy ad mt mc mb mo ms mk my mu ma me mr ((upd mp.1 (mp.2).toNatClampNeg v5), mp.2) mg mw mf ml mq) H := hP
    refine lv_aload_n hx hb dX12_enters_338 rfl (lv_at hl 0 rfl) ?_
    refine lv_dup hx hb dX12_enters_339 rfl ?_
    refine gM0_66 (v := mp.2) C hK hP rfl w1433 dX12_enters_340 ?_
    refine lv_iconst (v := (1 : Int32)) hx hb dX12_enters_343 (by decide) ?_
    refine lv_iadd hx hb dX12_enters_344 ?_
    refine pM0_66 (v := (mp.2 + (1 : Int32))) C hI hK hP hS w1433 dX12_enters_345 (fun H locs hP hS => ?_)
    have hP : va_P D vwCl (GM cy ad mt mc mb mo ms mk my mu ma me mr ((upd mp.1 (mp.2).toNatClampNeg v5), (mp.2 + (1 : Int32))) mg mw mf ml mq) H := hP
    obtain rfl := Option.some.inj h
    exact W.vret hx hb hr (fun t ht _ => ⟨rfl, by rw [ht]; exact hP, hS.F ht⟩) hS.2.2 dX12_enters_348 hlk
  · rw [if_pos c2] at h
    obtain rfl := Option.some.inj h
    exact W.vret hx hb hr (fun t ht _ => ⟨rfl, by rw [ht]; exact hP, hS.F ht⟩) hS.2.2 dX12_enters_326 hlk
def X12_enters_258b (mb : Tmb) (ms : Tms) (ma : Tma)  (k258 : Tmc → Tmu → Tme → Tmr → Tmp → Int32 → Int32 → Int32 → Option (Tmc × Tmu × Tme × Tmr × Tmp)) (mc : Tmc) (mu : Tmu) (me : Tme) (mr : Tmr) (mp : Tmp) (v4 : Int32) (v5 : Int32) (v7 : Int32) : Option (Tmc × Tmu × Tme × Tmr × Tmp) := (if inb v4 40 = true then (if v7 < (((16 : Int32) * v4) + (ma.2.2.2.2.1 (v4).toNatClampNeg)) then (if (X12_isRight mc) = 0 then X12_enters_316 mb ms ma mc mu me mr mp v4 v5 else (if inb v7 640 = true then (if inb v7 640 = true then (if inb v7 640 = true then ((X12_value mc mb ms mu me mr v5 (ma.2.2.2.2.2.1 (v7).toNatClampNeg) (ma.2.2.2.2.2.2.1 (v7).toNatClampNeg) (ma.2.2.2.2.2.2.2 (v7).toNatClampNeg)).bind fun q7 => k258 q7.1 q7.2.1 q7.2.2.1 q7.2.2.2 mp v4 v5 (v7 + (1 : Int32))) else none) else none) else none)) else X12_enters_316 mb ms ma mc mu me mr mp v4 v5) else none)
def X12_enters_258 (mb : Tmb) (ms : Tms) (ma : Tma)  (n : Nat) (st : Tmc × Tmu × Tme × Tmr × Tmp × Int32 × Int32 × Int32) : Option (Tmc × Tmu × Tme × Tmr × Tmp) := lp (fun rec st => X12_enters_258b mb ms ma  (fun a0 a1 a2 a3 a4 a5 a6 a7 => rec (a0, a1, a2, a3, a4, a5, a6, a7)) st.1 st.2.1 st.2.2.1 st.2.2.2.1 st.2.2.2.2.1 st.2.2.2.2.2.1 st.2.2.2.2.2.2.1 st.2.2.2.2.2.2.2) n st
set_option maxRecDepth 20000 in
theorem bX12_enters_258 (C : Cx p s m args meth c cX12_enters 8 none RX12 (.code yX12_enters cX12_enters 8 none)) (hI : Apart ad 71) (hK : va_K D vwCl (tysX cy) s) (hN : NW s)  {q : Tmc × Tmu × Tme × Tmr × Tmp}  : ∀ (n : Nat) {mc : Tmc} {mu : Tmu} {me : Tme} {mr : Tmr} {mp : Tmp} {v4 : Int32} {v5 : Int32} {v7 : Int32}, X12_enters_258 mb ms ma  n (mc, mu, me, mr, mp, v4, v5, v7) = some q → ∀ {ls : Array Slot}, lv_has ls 8 [(0, .ref (ad 0)), (4, .int v4), (5, .int v5), (7, .int v7)] → ∀ {H : Heap} {locs : List Loc}, va_P D vwCl (GM cy ad mt mc mb mo ms mk my mu ma me mr mp mg mw mf ml mq) H → va_S (Ac ad 71) s.heap H locs → W p l e ({ frames := 4, cells := 0, slots := 0, locals := 100 } : Room) s m args below meth c H locs 0 0 (MQ below (QR none D (GM cy ad mt q.1 mb mo ms mk my q.2.1 ma q.2.2.1 q.2.2.2.1 q.2.2.2.2 mg mw mf ml mq) (Ac ad 71)) args s 0 0 (Ac ad 71)) (F0 m 258 ls []) := by
  obtain ⟨hx, hb, hml, hown, hts, hr, hlk⟩ := id C
  intro n
  induction n with
  | zero =>
    intro mc mu me mr mp v4 v5 v7 h ls hl H locs hP hS
    have h : (none : Option (Tmc × Tmu × Tme × Tmr × Tmp)) = some q := h
    cases h
  | succ n ih =>
    intro mc mu me mr mp v4 v5 v7 h ls hl H locs hP hS
    have h : X12_enters_258b mb ms ma  (fun a0 a1 a2 a3 a4 a5 a6 a7 => X12_enters_258 mb ms ma  n (a0, a1, a2, a3, a4, a5, a6, a7)) mc mu me mr mp v4 v5 v7 = some q := h
    unfold X12_enters_258b at h
    refine lv_iload hx hb dX12_enters_258 (lv_at hl 3 rfl) ?_
    refine lv_bipush (v := (16 : Int32)) hx hb dX12_enters_260 (by decide) ?_
    refine lv_iload hx hb dX12_enters_262 (lv_at hl 1 rfl) ?_
    refine lv_imul hx hb dX12_enters_264 ?_
    refine lv_aload_n hx hb dX12_enters_265 rfl (lv_at hl 0 rfl) ?_
    refine gM0_38 C hK hP w1405 dX12_enters_266 ?_
    refine lv_iload hx hb dX12_enters_269 (lv_at hl 1 rfl) ?_
    obtain ⟨n1, h⟩ := grd h
    refine aM30 (f := ma.2.2.2.2.1) C hK hP rfl n1 dX12_enters_271 ?_
    refine lv_iadd hx hb dX12_enters_272 ?_
    refine b_icmp_ge (tgt := 316) hx hb dX12_enters_273 (by decide) (fun c2 => ?_) (fun c2 => ?_)
    · rw [if_neg c2] at h
      exact bX12_enters_316 C hI hK hN h (lv_sub hl [0, 1, 2] rfl) hP hS
    · rw [if_pos c2] at h
      refine lv_aload_n hx hb dX12_enters_276 rfl (lv_at hl 0 rfl) ?_
      refine cPi (run_V (rest := []) C (kX12_isRight rfl) caX12_isRight w1682 ⟨rfl, rfl, Nat.le_of_ble_eq_true rfl, Nat.le_of_ble_eq_true rfl⟩ hK hN hP (rM0 hK hP) rfl hl.1 rfl (Nat.le_of_ble_eq_true rfl) dX12_enters_277 ⟨Nat.zero_le _, Nat.zero_le _⟩) ?_
      refine lv_if_eq (tgt := 316) hx hb dX12_enters_280 (by decide) (fun c3 => ?_) (fun c3 => ?_)
      · rw [if_pos c3] at h
        exact bX12_enters_316 C hI hK hN h (lv_sub hl [0, 1, 2] rfl) hP hS
      · rw [if_neg c3] at h
        refine lv_aload_n hx hb dX12_enters_283 rfl (lv_at hl 0 rfl) ?_
        refine lv_iload hx hb dX12_enters_284 (lv_at hl 2 rfl) ?_
        refine lv_aload_n hx hb dX12_enters_286 rfl (lv_at hl 0 rfl) ?_
        refine gM0_39 C hK hP w1406 dX12_enters_287 ?_
        refine lv_iload hx hb dX12_enters_290 (lv_at hl 3 rfl) ?_
        obtain ⟨n4, h⟩ := grd h
        refine aM31 (f := ma.2.2.2.2.2.1) C hK hP rfl n4 dX12_enters_292 ?_
        refine lv_aload_n hx hb dX12_enters_293 rfl (lv_at hl 0 rfl) ?_
        refine gM0_40 C hK hP w1407 dX12_enters_294 ?_
        refine lv_iload hx hb dX12_enters_297 (lv_at hl 3 rfl) ?_
        obtain ⟨n5, h⟩ := grd h
        refine aM32 (f := ma.2.2.2.2.2.2.1) C hK hP rfl n5 dX12_enters_299 ?_
        refine lv_aload_n hx hb dX12_enters_300 rfl (lv_at hl 0 rfl) ?_
        refine gM0_41 C hK hP w1408 dX12_enters_301 ?_
        refine lv_iload hx hb dX12_enters_304 (lv_at hl 3 rfl) ?_
        obtain ⟨n6, h⟩ := grd h
        refine aM33 (f := ma.2.2.2.2.2.2.2) C hK hP rfl n6 dX12_enters_306 ?_
        obtain ⟨q7, h8, h⟩ := bnd h
        refine cRv (run_V (rest := []) C (kX12_value hI h8) caX12_value w1777 ⟨rfl, rfl, Nat.le_of_ble_eq_true rfl, Nat.le_of_ble_eq_true rfl⟩ hK hN hP (rM0 hK hP) rfl hl.1 rfl (Nat.le_of_ble_eq_true rfl) dX12_enters_307 ⟨Nat.zero_le _, Nat.zero_le _⟩) hS (fun H locs hP hS => ?_)
        have hP : va_P D vwCl (GM cy ad mt q7.1 mb mo ms mk my q7.2.1 ma q7.2.2.1 q7.2.2.2 mp mg mw mf ml mq) H := hP
        refine lv_iinc (v := (v7 + (1 : Int32))) (lv' := [(7, .int (v7 + (1 : Int32))), (0, .ref (ad 0)), (4, .int v4), (5, .int v5)]) hx hb dX12_enters_310 hl (k := 3) rfl rfl (by decide) rfl (fun ls hl => ?_)
        refine lv_goto (tgt := 258) hx hb dX12_enters_313 (by decide) ?_
        exact ih h (lv_sub hl [1, 2, 3, 0] rfl) hP hS
def X12_enters_149 (mb : Tmb) (ms : Tms) (ma : Tma)  (mc : Tmc) (mu : Tmu) (me : Tme) (mr : Tmr) (mp : Tmp) (v3 : Int32) (v4 : Int32) (v5 : Int32) (v6 : Int32) (z0 : Int32) (z1 : Int32) : Option (Tmc × Tmu × Tme × Tmr × Tmp) := (if inb z1 800 = true then (if inb mb.2.1 2 = true then (if inb v6 800 = true then (if inb v6 800 = true then (if inb v6 800 = true then (if inb v6 800 = true then (if inb v6 800 = true then (if inb v6 800 = true then (if inb v6 800 = true then (if inb v5 400 = true then (if inb v5 400 = true then (if inb v5 400 = true then (if inb mb.2.1 2 = true then (if inb mb.2.1 2 = true then X12_enters_258 mb ms ma FU (mc, mu, ((upd me.1 (mb.2.1).toNatClampNeg ((me.1 (mb.2.1).toNatClampNeg) + (1 : Int32))), me.2.1, (upd me.2.2.1 (z1).toNatClampNeg z0), (upd me.2.2.2.1 (v6).toNatClampNeg (mu.1 (mb.2.1).toNatClampNeg)), (upd me.2.2.2.2.1 (v6).toNatClampNeg (-1 : Int32)), (upd me.2.2.2.2.2.1 (v6).toNatClampNeg v3), (upd me.2.2.2.2.2.2.1 (v6).toNatClampNeg (0 : Int32)), (upd me.2.2.2.2.2.2.2.1 (v6).toNatClampNeg (-1 : Int32)), me.2.2.2.2.2.2.2.2.1, me.2.2.2.2.2.2.2.2.2.1, (upd me.2.2.2.2.2.2.2.2.2.2.1 (v6).toNatClampNeg (vp_nar .boolean (0 : Int32))), (upd me.2.2.2.2.2.2.2.2.2.2.2.1 (v6).toNatClampNeg (vp_nar .boolean (0 : Int32))), (upd me.2.2.2.2.2.2.2.2.2.2.2.2.1 (v5).toNatClampNeg (vp_nar .boolean (0 : Int32))), (upd me.2.2.2.2.2.2.2.2.2.2.2.2.2.1 (v5).toNatClampNeg (vp_nar .boolean (0 : Int32))), me.2.2.2.2.2.2.2.2.2.2.2.2.2.2.1, (upd me.2.2.2.2.2.2.2.2.2.2.2.2.2.2.2.1 (v5).toNatClampNeg (vp_nar .boolean (0 : Int32))), me.2.2.2.2.2.2.2.2.2.2.2.2.2.2.2.2.1, me.2.2.2.2.2.2.2.2.2.2.2.2.2.2.2.2.2.1, me.2.2.2.2.2.2.2.2.2.2.2.2.2.2.2.2.2.2), mr, mp, v4, v5, ((16 : Int32) * v4)) else none) else none) else none) else none) else none) else none) else none) else none) else none) else none) else none) else none) else none) else none)
set_option maxRecDepth 20000 in
theorem bX12_enters_149 (C : Cx p s m args meth c cX12_enters 8 none RX12 (.code yX12_enters cX12_enters 8 none)) (hI : Apart ad 71) (hK : va_K D vwCl (tysX cy) s) (hN : NW s)  {q : Tmc × Tmu × Tme × Tmr × Tmp}  {v3 : Int32} {v4 : Int32} {v5 : Int32} {v6 : Int32} {z0 : Int32} {z1 : Int32} (h : X12_enters_149 mb ms ma mc mu me mr mp v3 v4 v5 v6 z0 z1 = some q) {ls : Array Slot} (hl : lv_has ls 8 [(0, .ref (ad 0)), (3, .int v3), (4, .int v4), (5, .int v5), (6, .int v6)]) {H : Heap} {locs : List Loc} (hP : va_P D vwCl (GM cy ad mt mc mb mo ms mk my mu ma me mr mp mg mw mf ml mq) H) (hS : va_S (Ac ad 71) s.heap H locs) : W p l e ({ frames := 4, cells := 0, slots := 0, locals := 100 } : Room) s m args below meth c H locs 0 0 (MQ below (QR none D (GM cy ad mt q.1 mb mo ms mk my q.2.1 ma q.2.2.1 q.2.2.2.1 q.2.2.2.2 mg mw mf ml mq) (Ac ad 71)) args s 0 0 (Ac ad 71)) (F0 m 149 ls [.int z0, .int z1, .ref (ad 35)]) := by
  obtain ⟨hx, hb, hml, hown, hts, hr, hlk⟩ := id C
  unfold X12_enters_149 at h
  obtain ⟨n1, h⟩ := grd h
  refine sM35 (f := me.2.2.1) C hI hK hP hS rfl n1 dX12_enters_149 (fun H locs hP hS => ?_)
  have hP : va_P D vwCl (GM cy ad mt mc mb mo ms mk my mu ma (me.1, me.2.1, (upd me.2.2.1 (z1).toNatClampNeg z0), me.2.2.2.1, me.2.2.2.2.1, me.2.2.2.2.2.1, me.2.2.2.2.2.2.1, me.2.2.2.2.2.2.2.1, me.2.2.2.2.2.2.2.2.1, me.2.2.2.2.2.2.2.2.2.1, me.2.2.2.2.2.2.2.2.2.2.1, me.2.2.2.2.2.2.2.2.2.2.2.1, me.2.2.2.2.2.2.2.2.2.2.2.2.1, me.2.2.2.2.2.2.2.2.2.2.2.2.2.1, me.2.2.2.2.2.2.2.2.2.2.2.2.2.2.1, me.2.2.2.2.2.2.2.2.2.2.2.2.2.2.2.1, me.2.2.2.2.2.2.2.2.2.2.2.2.2.2.2.2.1, me.2.2.2.2.2.2.2.2.2.2.2.2.2.2.2.2.2.1, me.2.2.2.2.2.2.2.2.2.2.2.2.2.2.2.2.2.2) mr mp mg mw mf ml mq) H := hP
  refine lv_aload_n hx hb dX12_enters_150 rfl (lv_at hl 0 rfl) ?_
  refine gM0_44 C hK hP w1411 dX12_enters_151 ?_
  refine lv_iload hx hb dX12_enters_154 (lv_at hl 4 rfl) ?_
  refine lv_aload_n hx hb dX12_enters_156 rfl (lv_at hl 0 rfl) ?_
  refine gM0_12 C hK hP w1379 dX12_enters_157 ?_
  refine lv_aload_n hx hb dX12_enters_160 rfl (lv_at hl 0 rfl) ?_
  refine gM0_6 (v := mb.2.1) C hK hP rfl w1373 dX12_enters_161 ?_
  obtain ⟨n2, h⟩ := grd h
  refine aM5 (f := mu.1) C hK hP rfl n2 dX12_enters_164 ?_
  obtain ⟨n3, h⟩ := grd h
  refine sM36 (f := me.2.2.2.1) C hI hK hP hS rfl n3 dX12_enters_165 (fun H locs hP hS => ?_)
  have hP : va_P D vwCl (GM cy ad mt mc mb mo ms mk my mu ma (me.1, me.2.1, (upd me.2.2.1 (z1).toNatClampNeg z0), (upd me.2.2.2.1 (v6).toNatClampNeg (mu.1 (mb.2.1).toNatClampNeg)), me.2.2.2.2.1, me.2.2.2.2.2.1, me.2.2.2.2.2.2.1, me.2.2.2.2.2.2.2.1, me.2.2.2.2.2.2.2.2.1, me.2.2.2.2.2.2.2.2.2.1, me.2.2.2.2.2.2.2.2.2.2.1, me.2.2.2.2.2.2.2.2.2.2.2.1, me.2.2.2.2.2.2.2.2.2.2.2.2.1, me.2.2.2.2.2.2.2.2.2.2.2.2.2.1, me.2.2.2.2.2.2.2.2.2.2.2.2.2.2.1, me.2.2.2.2.2.2.2.2.2.2.2.2.2.2.2.1, me.2.2.2.2.2.2.2.2.2.2.2.2.2.2.2.2.1, me.2.2.2.2.2.2.2.2.2.2.2.2.2.2.2.2.2.1, me.2.2.2.2.2.2.2.2.2.2.2.2.2.2.2.2.2.2) mr mp mg mw mf ml mq) H := hP
  refine lv_aload_n hx hb dX12_enters_166 rfl (lv_at hl 0 rfl) ?_
  refine gM0_45 C hK hP w1412 dX12_enters_167 ?_
  refine lv_iload hx hb dX12_enters_170 (lv_at hl 4 rfl) ?_
  refine lv_iconst (v := (-1 : Int32)) hx hb dX12_enters_172 (by decide) ?_
  obtain ⟨n4, h⟩ := grd h
  refine sM37 (f := me.2.2.2.2.1) C hI hK hP hS rfl n4 dX12_enters_173 (fun H locs hP hS => ?_)
  have hP : va_P D vwCl (GM cy ad mt mc mb mo ms mk my mu ma (me.1, me.2.1, (upd me.2.2.1 (z1).toNatClampNeg z0), (upd me.2.2.2.1 (v6).toNatClampNeg (mu.1 (mb.2.1).toNatClampNeg)), (upd me.2.2.2.2.1 (v6).toNatClampNeg (-1 : Int32)), me.2.2.2.2.2.1, me.2.2.2.2.2.2.1, me.2.2.2.2.2.2.2.1, me.2.2.2.2.2.2.2.2.1, me.2.2.2.2.2.2.2.2.2.1, me.2.2.2.2.2.2.2.2.2.2.1, me.2.2.2.2.2.2.2.2.2.2.2.1, me.2.2.2.2.2.2.2.2.2.2.2.2.1, me.2.2.2.2.2.2.2.2.2.2.2.2.2.1, me.2.2.2.2.2.2.2.2.2.2.2.2.2.2.1, me.2.2.2.2.2.2.2.2.2.2.2.2.2.2.2.1, me.2.2.2.2.2.2.2.2.2.2.2.2.2.2.2.2.1, me.2.2.2.2.2.2.2.2.2.2.2.2.2.2.2.2.2.1, me.2.2.2.2.2.2.2.2.2.2.2.2.2.2.2.2.2.2) mr mp mg mw mf ml mq) H := hP
  refine lv_aload_n hx hb dX12_enters_174 rfl (lv_at hl 0 rfl) ?_
  refine gM0_46 C hK hP w1413 dX12_enters_175 ?_
  refine lv_iload hx hb dX12_enters_178 (lv_at hl 4 rfl) ?_
  refine lv_iload_n hx hb dX12_enters_180 rfl (lv_at hl 1 rfl) ?_
  obtain ⟨n5, h⟩ := grd h
  refine sM38 (f := me.2.2.2.2.2.1) C hI hK hP hS rfl n5 dX12_enters_181 (fun H locs hP hS => ?_)
  have hP : va_P D vwCl (GM cy ad mt mc mb mo ms mk my mu ma (me.1, me.2.1, (upd me.2.2.1 (z1).toNatClampNeg z0), (upd me.2.2.2.1 (v6).toNatClampNeg (mu.1 (mb.2.1).toNatClampNeg)), (upd me.2.2.2.2.1 (v6).toNatClampNeg (-1 : Int32)), (upd me.2.2.2.2.2.1 (v6).toNatClampNeg v3), me.2.2.2.2.2.2.1, me.2.2.2.2.2.2.2.1, me.2.2.2.2.2.2.2.2.1, me.2.2.2.2.2.2.2.2.2.1, me.2.2.2.2.2.2.2.2.2.2.1, me.2.2.2.2.2.2.2.2.2.2.2.1, me.2.2.2.2.2.2.2.2.2.2.2.2.1, me.2.2.2.2.2.2.2.2.2.2.2.2.2.1, me.2.2.2.2.2.2.2.2.2.2.2.2.2.2.1, me.2.2.2.2.2.2.2.2.2.2.2.2.2.2.2.1, me.2.2.2.2.2.2.2.2.2.2.2.2.2.2.2.2.1, me.2.2.2.2.2.2.2.2.2.2.2.2.2.2.2.2.2.1, me.2.2.2.2.2.2.2.2.2.2.2.2.2.2.2.2.2.2) mr mp mg mw mf ml mq) H := hP
  refine lv_aload_n hx hb dX12_enters_182 rfl (lv_at hl 0 rfl) ?_
  refine gM0_47 C hK hP w1414 dX12_enters_183 ?_
  refine lv_iload hx hb dX12_enters_186 (lv_at hl 4 rfl) ?_
  refine lv_iconst (v := (0 : Int32)) hx hb dX12_enters_188 (by decide) ?_
  obtain ⟨n6, h⟩ := grd h
  refine sM39 (f := me.2.2.2.2.2.2.1) C hI hK hP hS rfl n6 dX12_enters_189 (fun H locs hP hS => ?_)
  have hP : va_P D vwCl (GM cy ad mt mc mb mo ms mk my mu ma (me.1, me.2.1, (upd me.2.2.1 (z1).toNatClampNeg z0), (upd me.2.2.2.1 (v6).toNatClampNeg (mu.1 (mb.2.1).toNatClampNeg)), (upd me.2.2.2.2.1 (v6).toNatClampNeg (-1 : Int32)), (upd me.2.2.2.2.2.1 (v6).toNatClampNeg v3), (upd me.2.2.2.2.2.2.1 (v6).toNatClampNeg (0 : Int32)), me.2.2.2.2.2.2.2.1, me.2.2.2.2.2.2.2.2.1, me.2.2.2.2.2.2.2.2.2.1, me.2.2.2.2.2.2.2.2.2.2.1, me.2.2.2.2.2.2.2.2.2.2.2.1, me.2.2.2.2.2.2.2.2.2.2.2.2.1, me.2.2.2.2.2.2.2.2.2.2.2.2.2.1, me.2.2.2.2.2.2.2.2.2.2.2.2.2.2.1, me.2.2.2.2.2.2.2.2.2.2.2.2.2.2.2.1, me.2.2.2.2.2.2.2.2.2.2.2.2.2.2.2.2.1, me.2.2.2.2.2.2.2.2.2.2.2.2.2.2.2.2.2.1, me.2.2.2.2.2.2.2.2.2.2.2.2.2.2.2.2.2.2) mr mp mg mw mf ml mq) H := hP
  refine lv_aload_n hx hb dX12_enters_190 rfl (lv_at hl 0 rfl) ?_
  refine gM0_48 C hK hP w1415 dX12_enters_191 ?_
  refine lv_iload hx hb dX12_enters_194 (lv_at hl 4 rfl) ?_
  refine lv_iconst (v := (-1 : Int32)) hx hb dX12_enters_196 (by decide) ?_
  obtain ⟨n7, h⟩ := grd h
  refine sM40 (f := me.2.2.2.2.2.2.2.1) C hI hK hP hS rfl n7 dX12_enters_197 (fun H locs hP hS => ?_)
  have hP : va_P D vwCl (GM cy ad mt mc mb mo ms mk my mu ma (me.1, me.2.1, (upd me.2.2.1 (z1).toNatClampNeg z0), (upd me.2.2.2.1 (v6).toNatClampNeg (mu.1 (mb.2.1).toNatClampNeg)), (upd me.2.2.2.2.1 (v6).toNatClampNeg (-1 : Int32)), (upd me.2.2.2.2.2.1 (v6).toNatClampNeg v3), (upd me.2.2.2.2.2.2.1 (v6).toNatClampNeg (0 : Int32)), (upd me.2.2.2.2.2.2.2.1 (v6).toNatClampNeg (-1 : Int32)), me.2.2.2.2.2.2.2.2.1, me.2.2.2.2.2.2.2.2.2.1, me.2.2.2.2.2.2.2.2.2.2.1, me.2.2.2.2.2.2.2.2.2.2.2.1, me.2.2.2.2.2.2.2.2.2.2.2.2.1, me.2.2.2.2.2.2.2.2.2.2.2.2.2.1, me.2.2.2.2.2.2.2.2.2.2.2.2.2.2.1, me.2.2.2.2.2.2.2.2.2.2.2.2.2.2.2.1, me.2.2.2.2.2.2.2.2.2.2.2.2.2.2.2.2.1, me.2.2.2.2.2.2.2.2.2.2.2.2.2.2.2.2.2.1, me.2.2.2.2.2.2.2.2.2.2.2.2.2.2.2.2.2.2) mr mp mg mw mf ml mq) H := hP
  refine lv_aload_n hx hb dX12_enters_198 rfl (lv_at hl 0 rfl) ?_
  refine gM0_51 C hK hP w1418 dX12_enters_199 ?_
  refine lv_iload hx hb dX12_enters_202 (lv_at hl 4 rfl) ?_
  refine lv_iconst (v := (0 : Int32)) hx hb dX12_enters_204 (by decide) ?_
  obtain ⟨n8, h⟩ := grd h
  refine sM43 (f := me.2.2.2.2.2.2.2.2.2.2.1) C hI hK hP hS rfl n8 dX12_enters_205 (fun H locs hP hS => ?_)
  have hP : va_P D vwCl (GM cy ad mt mc mb mo ms mk my mu ma (me.1, me.2.1, (upd me.2.2.1 (z1).toNatClampNeg z0), (upd me.2.2.2.1 (v6).toNatClampNeg (mu.1 (mb.2.1).toNatClampNeg)), (upd me.2.2.2.2.1 (v6).toNatClampNeg (-1 : Int32)), (upd me.2.2.2.2.2.1 (v6).toNatClampNeg v3), (upd me.2.2.2.2.2.2.1 (v6).toNatClampNeg (0 : Int32)), (upd me.2.2.2.2.2.2.2.1 (v6).toNatClampNeg (-1 : Int32)), me.2.2.2.2.2.2.2.2.1, me.2.2.2.2.2.2.2.2.2.1, (upd me.2.2.2.2.2.2.2.2.2.2.1 (v6).toNatClampNeg (vp_nar .boolean (0 : Int32))), me.2.2.2.2.2.2.2.2.2.2.2.1, me.2.2.2.2.2.2.2.2.2.2.2.2.1, me.2.2.2.2.2.2.2.2.2.2.2.2.2.1, me.2.2.2.2.2.2.2.2.2.2.2.2.2.2.1, me.2.2.2.2.2.2.2.2.2.2.2.2.2.2.2.1, me.2.2.2.2.2.2.2.2.2.2.2.2.2.2.2.2.1, me.2.2.2.2.2.2.2.2.2.2.2.2.2.2.2.2.2.1, me.2.2.2.2.2.2.2.2.2.2.2.2.2.2.2.2.2.2) mr mp mg mw mf ml mq) H := hP
  refine lv_aload_n hx hb dX12_enters_206 rfl (lv_at hl 0 rfl) ?_
  refine gM0_52 C hK hP w1419 dX12_enters_207 ?_
  refine lv_iload hx hb dX12_enters_210 (lv_at hl 4 rfl) ?_
  refine lv_iconst (v := (0 : Int32)) hx hb dX12_enters_212 (by decide) ?_
  obtain ⟨n9, h⟩ := grd h
  refine sM44 (f := me.2.2.2.2.2.2.2.2.2.2.2.1) C hI hK hP hS rfl n9 dX12_enters_213 (fun H locs hP hS => ?_)
  have hP : va_P D vwCl (GM cy ad mt mc mb mo ms mk my mu ma (me.1, me.2.1, (upd me.2.2.1 (z1).toNatClampNeg z0), (upd me.2.2.2.1 (v6).toNatClampNeg (mu.1 (mb.2.1).toNatClampNeg)), (upd me.2.2.2.2.1 (v6).toNatClampNeg (-1 : Int32)), (upd me.2.2.2.2.2.1 (v6).toNatClampNeg v3), (upd me.2.2.2.2.2.2.1 (v6).toNatClampNeg (0 : Int32)), (upd me.2.2.2.2.2.2.2.1 (v6).toNatClampNeg (-1 : Int32)), me.2.2.2.2.2.2.2.2.1, me.2.2.2.2.2.2.2.2.2.1, (upd me.2.2.2.2.2.2.2.2.2.2.1 (v6).toNatClampNeg (vp_nar .boolean (0 : Int32))), (upd me.2.2.2.2.2.2.2.2.2.2.2.1 (v6).toNatClampNeg (vp_nar .boolean (0 : Int32))), me.2.2.2.2.2.2.2.2.2.2.2.2.1, me.2.2.2.2.2.2.2.2.2.2.2.2.2.1, me.2.2.2.2.2.2.2.2.2.2.2.2.2.2.1, me.2.2.2.2.2.2.2.2.2.2.2.2.2.2.2.1, me.2.2.2.2.2.2.2.2.2.2.2.2.2.2.2.2.1, me.2.2.2.2.2.2.2.2.2.2.2.2.2.2.2.2.2.1, me.2.2.2.2.2.2.2.2.2.2.2.2.2.2.2.2.2.2) mr mp mg mw mf ml mq) H := hP
  refine lv_aload_n hx hb dX12_enters_214 rfl (lv_at hl 0 rfl) ?_
  refine gM0_53 C hK hP w1420 dX12_enters_215 ?_
  refine lv_iload hx hb dX12_enters_218 (lv_at hl 3 rfl) ?_
  refine lv_iconst (v := (0 : Int32)) hx hb dX12_enters_220 (by decide) ?_
  obtain ⟨n10, h⟩ := grd h
  refine sM45 (f := me.2.2.2.2.2.2.2.2.2.2.2.2.1) C hI hK hP hS rfl n10 dX12_enters_221 (fun H locs hP hS => ?_)
  have hP : va_P D vwCl (GM cy ad mt mc mb mo ms mk my mu ma (me.1, me.2.1, (upd me.2.2.1 (z1).toNatClampNeg z0), (upd me.2.2.2.1 (v6).toNatClampNeg (mu.1 (mb.2.1).toNatClampNeg)), (upd me.2.2.2.2.1 (v6).toNatClampNeg (-1 : Int32)), (upd me.2.2.2.2.2.1 (v6).toNatClampNeg v3), (upd me.2.2.2.2.2.2.1 (v6).toNatClampNeg (0 : Int32)), (upd me.2.2.2.2.2.2.2.1 (v6).toNatClampNeg (-1 : Int32)), me.2.2.2.2.2.2.2.2.1, me.2.2.2.2.2.2.2.2.2.1, (upd me.2.2.2.2.2.2.2.2.2.2.1 (v6).toNatClampNeg (vp_nar .boolean (0 : Int32))), (upd me.2.2.2.2.2.2.2.2.2.2.2.1 (v6).toNatClampNeg (vp_nar .boolean (0 : Int32))), (upd me.2.2.2.2.2.2.2.2.2.2.2.2.1 (v5).toNatClampNeg (vp_nar .boolean (0 : Int32))), me.2.2.2.2.2.2.2.2.2.2.2.2.2.1, me.2.2.2.2.2.2.2.2.2.2.2.2.2.2.1, me.2.2.2.2.2.2.2.2.2.2.2.2.2.2.2.1, me.2.2.2.2.2.2.2.2.2.2.2.2.2.2.2.2.1, me.2.2.2.2.2.2.2.2.2.2.2.2.2.2.2.2.2.1, me.2.2.2.2.2.2.2.2.2.2.2.2.2.2.2.2.2.2) mr mp mg mw mf ml mq) H := hP
  refine lv_aload_n hx hb dX12_enters_222 rfl (lv_at hl 0 rfl) ?_
  refine gM0_54 C hK hP w1421 dX12_enters_223 ?_
  refine lv_iload hx hb dX12_enters_226 (lv_at hl 3 rfl) ?_
  refine lv_iconst (v := (0 : Int32)) hx hb dX12_enters_228 (by decide) ?_
  obtain ⟨n11, h⟩ := grd h
  refine sM46 (f := me.2.2.2.2.2.2.2.2.2.2.2.2.2.1) C hI hK hP hS rfl n11 dX12_enters_229 (fun H locs hP hS => ?_)
  have hP : va_P D vwCl (GM cy ad mt mc mb mo ms mk my mu ma (me.1, me.2.1, (upd me.2.2.1 (z1).toNatClampNeg z0), (upd me.2.2.2.1 (v6).toNatClampNeg (mu.1 (mb.2.1).toNatClampNeg)), (upd me.2.2.2.2.1 (v6).toNatClampNeg (-1 : Int32)), (upd me.2.2.2.2.2.1 (v6).toNatClampNeg v3), (upd me.2.2.2.2.2.2.1 (v6).toNatClampNeg (0 : Int32)), (upd me.2.2.2.2.2.2.2.1 (v6).toNatClampNeg (-1 : Int32)), me.2.2.2.2.2.2.2.2.1, me.2.2.2.2.2.2.2.2.2.1, (upd me.2.2.2.2.2.2.2.2.2.2.1 (v6).toNatClampNeg (vp_nar .boolean (0 : Int32))), (upd me.2.2.2.2.2.2.2.2.2.2.2.1 (v6).toNatClampNeg (vp_nar .boolean (0 : Int32))), (upd me.2.2.2.2.2.2.2.2.2.2.2.2.1 (v5).toNatClampNeg (vp_nar .boolean (0 : Int32))), (upd me.2.2.2.2.2.2.2.2.2.2.2.2.2.1 (v5).toNatClampNeg (vp_nar .boolean (0 : Int32))), me.2.2.2.2.2.2.2.2.2.2.2.2.2.2.1, me.2.2.2.2.2.2.2.2.2.2.2.2.2.2.2.1, me.2.2.2.2.2.2.2.2.2.2.2.2.2.2.2.2.1, me.2.2.2.2.2.2.2.2.2.2.2.2.2.2.2.2.2.1, me.2.2.2.2.2.2.2.2.2.2.2.2.2.2.2.2.2.2) mr mp mg mw mf ml mq) H := hP
  refine lv_aload_n hx hb dX12_enters_230 rfl (lv_at hl 0 rfl) ?_
  refine gM0_56 C hK hP w1423 dX12_enters_231 ?_
  refine lv_iload hx hb dX12_enters_234 (lv_at hl 3 rfl) ?_
  refine lv_iconst (v := (0 : Int32)) hx hb dX12_enters_236 (by decide) ?_
  obtain ⟨n12, h⟩ := grd h
  refine sM48 (f := me.2.2.2.2.2.2.2.2.2.2.2.2.2.2.2.1) C hI hK hP hS rfl n12 dX12_enters_237 (fun H locs hP hS => ?_)
  have hP : va_P D vwCl (GM cy ad mt mc mb mo ms mk my mu ma (me.1, me.2.1, (upd me.2.2.1 (z1).toNatClampNeg z0), (upd me.2.2.2.1 (v6).toNatClampNeg (mu.1 (mb.2.1).toNatClampNeg)), (upd me.2.2.2.2.1 (v6).toNatClampNeg (-1 : Int32)), (upd me.2.2.2.2.2.1 (v6).toNatClampNeg v3), (upd me.2.2.2.2.2.2.1 (v6).toNatClampNeg (0 : Int32)), (upd me.2.2.2.2.2.2.2.1 (v6).toNatClampNeg (-1 : Int32)), me.2.2.2.2.2.2.2.2.1, me.2.2.2.2.2.2.2.2.2.1, (upd me.2.2.2.2.2.2.2.2.2.2.1 (v6).toNatClampNeg (vp_nar .boolean (0 : Int32))), (upd me.2.2.2.2.2.2.2.2.2.2.2.1 (v6).toNatClampNeg (vp_nar .boolean (0 : Int32))), (upd me.2.2.2.2.2.2.2.2.2.2.2.2.1 (v5).toNatClampNeg (vp_nar .boolean (0 : Int32))), (upd me.2.2.2.2.2.2.2.2.2.2.2.2.2.1 (v5).toNatClampNeg (vp_nar .boolean (0 : Int32))), me.2.2.2.2.2.2.2.2.2.2.2.2.2.2.1, (upd me.2.2.2.2.2.2.2.2.2.2.2.2.2.2.2.1 (v5).toNatClampNeg (vp_nar .boolean (0 : Int32))), me.2.2.2.2.2.2.2.2.2.2.2.2.2.2.2.2.1, me.2.2.2.2.2.2.2.2.2.2.2.2.2.2.2.2.2.1, me.2.2.2.2.2.2.2.2.2.2.2.2.2.2.2.2.2.2) mr mp mg mw mf ml mq) H := hP
  refine lv_aload_n hx hb dX12_enters_238 rfl (lv_at hl 0 rfl) ?_
  refine gM0_13 C hK hP w1380 dX12_enters_239 ?_
  refine lv_aload_n hx hb dX12_enters_242 rfl (lv_at hl 0 rfl) ?_
  refine gM0_6 (v := mb.2.1) C hK hP rfl w1373 dX12_enters_243 ?_
  refine lv_dup2_11 hx hb dX12_enters_246 rfl rfl ?_
  obtain ⟨n13, h⟩ := grd h
  refine aM6 (f := me.1) C hK hP rfl n13 dX12_enters_247 ?_
  refine lv_iconst (v := (1 : Int32)) hx hb dX12_enters_248 (by decide) ?_
  refine lv_iadd hx hb dX12_enters_249 ?_
  obtain ⟨n14, h⟩ := grd h
  refine sM6 (f := me.1) C hI hK hP hS rfl n14 dX12_enters_250 (fun H locs hP hS => ?_)
  have hP : va_P D vwCl (GM cy ad mt mc mb mo ms mk my mu ma ((upd me.1 (mb.2.1).toNatClampNeg ((me.1 (mb.2.1).toNatClampNeg) + (1 : Int32))), me.2.1, (upd me.2.2.1 (z1).toNatClampNeg z0), (upd me.2.2.2.1 (v6).toNatClampNeg (mu.1 (mb.2.1).toNatClampNeg)), (upd me.2.2.2.2.1 (v6).toNatClampNeg (-1 : Int32)), (upd me.2.2.2.2.2.1 (v6).toNatClampNeg v3), (upd me.2.2.2.2.2.2.1 (v6).toNatClampNeg (0 : Int32)), (upd me.2.2.2.2.2.2.2.1 (v6).toNatClampNeg (-1 : Int32)), me.2.2.2.2.2.2.2.2.1, me.2.2.2.2.2.2.2.2.2.1, (upd me.2.2.2.2.2.2.2.2.2.2.1 (v6).toNatClampNeg (vp_nar .boolean (0 : Int32))), (upd me.2.2.2.2.2.2.2.2.2.2.2.1 (v6).toNatClampNeg (vp_nar .boolean (0 : Int32))), (upd me.2.2.2.2.2.2.2.2.2.2.2.2.1 (v5).toNatClampNeg (vp_nar .boolean (0 : Int32))), (upd me.2.2.2.2.2.2.2.2.2.2.2.2.2.1 (v5).toNatClampNeg (vp_nar .boolean (0 : Int32))), me.2.2.2.2.2.2.2.2.2.2.2.2.2.2.1, (upd me.2.2.2.2.2.2.2.2.2.2.2.2.2.2.2.1 (v5).toNatClampNeg (vp_nar .boolean (0 : Int32))), me.2.2.2.2.2.2.2.2.2.2.2.2.2.2.2.2.1, me.2.2.2.2.2.2.2.2.2.2.2.2.2.2.2.2.2.1, me.2.2.2.2.2.2.2.2.2.2.2.2.2.2.2.2.2.2) mr mp mg mw mf ml mq) H := hP
  refine lv_bipush (v := (16 : Int32)) hx hb dX12_enters_251 (by decide) ?_
  refine lv_iload hx hb dX12_enters_253 (lv_at hl 2 rfl) ?_
  refine lv_imul hx hb dX12_enters_255 ?_
  refine lv_istore (lv' := [(7, .int ((16 : Int32) * v4)), (0, .ref (ad 0)), (3, .int v3), (4, .int v4), (5, .int v5), (6, .int v6)]) hx hb dX12_enters_256 hl (by decide) rfl (fun ls hl => ?_)
  exact bX12_enters_258 C hI hK hN FU h (lv_sub hl [1, 3, 4, 0] rfl) hP hS
def X12_enters_75 (mb : Tmb) (ms : Tms) (ma : Tma)  (mc : Tmc) (mu : Tmu) (me : Tme) (mr : Tmr) (mp : Tmp) (v3 : Int32) (v4 : Int32) : Option (Tmc × Tmu × Tme × Tmr × Tmp) := (if (X12_isRight mc) = 0 then some (mc, mu, me, mr, mp) else (if inb mb.2.1 2 = true then (if inb v4 40 = true then (if inb (((400 : Int32) * mb.2.1) + (me.1 (mb.2.1).toNatClampNeg)) 800 = true then (if mp.2 = 0 then X12_enters_149 mb ms ma mc mu (me.1, (vp_updL me.2.1 ((((400 : Int32) * mb.2.1) + (me.1 (mb.2.1).toNatClampNeg))).toNatClampNeg (ma.2.2.1 (v4).toNatClampNeg)), me.2.2.1, me.2.2.2.1, me.2.2.2.2.1, me.2.2.2.2.2.1, me.2.2.2.2.2.2.1, me.2.2.2.2.2.2.2.1, me.2.2.2.2.2.2.2.2.1, me.2.2.2.2.2.2.2.2.2.1, me.2.2.2.2.2.2.2.2.2.2.1, me.2.2.2.2.2.2.2.2.2.2.2.1, me.2.2.2.2.2.2.2.2.2.2.2.2.1, me.2.2.2.2.2.2.2.2.2.2.2.2.2.1, me.2.2.2.2.2.2.2.2.2.2.2.2.2.2.1, me.2.2.2.2.2.2.2.2.2.2.2.2.2.2.2.1, me.2.2.2.2.2.2.2.2.2.2.2.2.2.2.2.2.1, me.2.2.2.2.2.2.2.2.2.2.2.2.2.2.2.2.2.1, me.2.2.2.2.2.2.2.2.2.2.2.2.2.2.2.2.2.2) mr mp v3 v4 (me.1 (mb.2.1).toNatClampNeg) (((400 : Int32) * mb.2.1) + (me.1 (mb.2.1).toNatClampNeg)) (-1 : Int32) (((400 : Int32) * mb.2.1) + (me.1 (mb.2.1).toNatClampNeg)) else (if inb (mp.2 - (1 : Int32)) 24 = true then X12_enters_149 mb ms ma mc mu (me.1, (vp_updL me.2.1 ((((400 : Int32) * mb.2.1) + (me.1 (mb.2.1).toNatClampNeg))).toNatClampNeg (ma.2.2.1 (v4).toNatClampNeg)), me.2.2.1, me.2.2.2.1, me.2.2.2.2.1, me.2.2.2.2.2.1, me.2.2.2.2.2.2.1, me.2.2.2.2.2.2.2.1, me.2.2.2.2.2.2.2.2.1, me.2.2.2.2.2.2.2.2.2.1, me.2.2.2.2.2.2.2.2.2.2.1, me.2.2.2.2.2.2.2.2.2.2.2.1, me.2.2.2.2.2.2.2.2.2.2.2.2.1, me.2.2.2.2.2.2.2.2.2.2.2.2.2.1, me.2.2.2.2.2.2.2.2.2.2.2.2.2.2.1, me.2.2.2.2.2.2.2.2.2.2.2.2.2.2.2.1, me.2.2.2.2.2.2.2.2.2.2.2.2.2.2.2.2.1, me.2.2.2.2.2.2.2.2.2.2.2.2.2.2.2.2.2.1, me.2.2.2.2.2.2.2.2.2.2.2.2.2.2.2.2.2.2) mr mp v3 v4 (me.1 (mb.2.1).toNatClampNeg) (((400 : Int32) * mb.2.1) + (me.1 (mb.2.1).toNatClampNeg)) (mp.1 ((mp.2 - (1 : Int32))).toNatClampNeg) (((400 : Int32) * mb.2.1) + (me.1 (mb.2.1).toNatClampNeg)) else none)) else none) else none) else none))
set_option maxRecDepth 20000 in
theorem bX12_enters_75 (C : Cx p s m args meth c cX12_enters 8 none RX12 (.code yX12_enters cX12_enters 8 none)) (hI : Apart ad 71) (hK : va_K D vwCl (tysX cy) s) (hN : NW s)  {q : Tmc × Tmu × Tme × Tmr × Tmp}  {v3 : Int32} {v4 : Int32} (h : X12_enters_75 mb ms ma mc mu me mr mp v3 v4 = some q) {ls : Array Slot} (hl : lv_has ls 8 [(0, .ref (ad 0)), (3, .int v3), (4, .int v4)]) {H : Heap} {locs : List Loc} (hP : va_P D vwCl (GM cy ad mt mc mb mo ms mk my mu ma me mr mp mg mw mf ml mq) H) (hS : va_S (Ac ad 71) s.heap H locs) : W p l e ({ frames := 4, cells := 0, slots := 0, locals := 100 } : Room) s m args below meth c H locs 0 0 (MQ below (QR none D (GM cy ad mt q.1 mb mo ms mk my q.2.1 ma q.2.2.1 q.2.2.2.1 q.2.2.2.2 mg mw mf ml mq) (Ac ad 71)) args s 0 0 (Ac ad 71)) (F0 m 75 ls []) := by
  obtain ⟨hx, hb, hml, hown, hts, hr, hlk⟩ := id C
  unfold X12_enters_75 at h
  refine lv_aload_n hx hb dX12_enters_75 rfl (lv_at hl 0 rfl) ?_
  refine cPi (run_V (rest := []) C (kX12_isRight rfl) caX12_isRight w1682 ⟨rfl, rfl, Nat.le_of_ble_eq_true rfl, Nat.le_of_ble_eq_true rfl⟩ hK hN hP (rM0 hK hP) rfl hl.1 rfl (Nat.le_of_ble_eq_true rfl) dX12_enters_76 ⟨Nat.zero_le _, Nat.zero_le _⟩) ?_
  refine lv_if_ne (tgt := 83) hx hb dX12_enters_79 (by decide) (fun c1 => ?_) (fun c1 => ?_)
  · rw [if_neg c1] at h
    refine lv_aload_n hx hb dX12_enters_83 rfl (lv_at hl 0 rfl) ?_
    refine gM0_13 C hK hP w1380 dX12_enters_84 ?_
    refine lv_aload_n hx hb dX12_enters_87 rfl (lv_at hl 0 rfl) ?_
    refine gM0_6 (v := mb.2.1) C hK hP rfl w1373 dX12_enters_88 ?_
    obtain ⟨n2, h⟩ := grd h
    refine aM6 (f := me.1) C hK hP rfl n2 dX12_enters_91 ?_
    refine lv_istore (lv' := [(5, .int (me.1 (mb.2.1).toNatClampNeg)), (0, .ref (ad 0)), (3, .int v3), (4, .int v4)]) hx hb dX12_enters_92 hl (by decide) rfl (fun ls hl => ?_)
    refine lv_sipush (v := (400 : Int32)) hx hb dX12_enters_94 (by decide) ?_
    refine lv_aload_n hx hb dX12_enters_97 rfl (lv_at hl 1 rfl) ?_
    refine gM0_6 (v := mb.2.1) C hK hP rfl w1373 dX12_enters_98 ?_
    refine lv_imul hx hb dX12_enters_101 ?_
    refine lv_iload hx hb dX12_enters_102 (lv_at hl 0 rfl) ?_
    refine lv_iadd hx hb dX12_enters_104 ?_
    refine lv_istore (lv' := [(6, .int (((400 : Int32) * mb.2.1) + (me.1 (mb.2.1).toNatClampNeg))), (5, .int (me.1 (mb.2.1).toNatClampNeg)), (0, .ref (ad 0)), (3, .int v3), (4, .int v4)]) hx hb dX12_enters_105 hl (by decide) rfl (fun ls hl => ?_)
    refine lv_aload_n hx hb dX12_enters_107 rfl (lv_at hl 2 rfl) ?_
    refine gM0_42 C hK hP w1409 dX12_enters_108 ?_
    refine lv_iload hx hb dX12_enters_111 (lv_at hl 0 rfl) ?_
    refine lv_aload_n hx hb dX12_enters_113 rfl (lv_at hl 2 rfl) ?_
    refine gM0_36 C hK hP w1403 dX12_enters_114 ?_
    refine lv_iload hx hb dX12_enters_117 (lv_at hl 4 rfl) ?_
    obtain ⟨n3, h⟩ := grd h
    refine aM28 (f := ma.2.2.1) C hK hP rfl n3 dX12_enters_119 ?_
    obtain ⟨n4, h⟩ := grd h
    refine sM34 (f := me.2.1) C hI hK hP hS rfl n4 dX12_enters_120 (fun H locs hP hS => ?_)
    have hP : va_P D vwCl (GM cy ad mt mc mb mo ms mk my mu ma (me.1, (vp_updL me.2.1 ((((400 : Int32) * mb.2.1) + (me.1 (mb.2.1).toNatClampNeg))).toNatClampNeg (ma.2.2.1 (v4).toNatClampNeg)), me.2.2.1, me.2.2.2.1, me.2.2.2.2.1, me.2.2.2.2.2.1, me.2.2.2.2.2.2.1, me.2.2.2.2.2.2.2.1, me.2.2.2.2.2.2.2.2.1, me.2.2.2.2.2.2.2.2.2.1, me.2.2.2.2.2.2.2.2.2.2.1, me.2.2.2.2.2.2.2.2.2.2.2.1, me.2.2.2.2.2.2.2.2.2.2.2.2.1, me.2.2.2.2.2.2.2.2.2.2.2.2.2.1, me.2.2.2.2.2.2.2.2.2.2.2.2.2.2.1, me.2.2.2.2.2.2.2.2.2.2.2.2.2.2.2.1, me.2.2.2.2.2.2.2.2.2.2.2.2.2.2.2.2.1, me.2.2.2.2.2.2.2.2.2.2.2.2.2.2.2.2.2.1, me.2.2.2.2.2.2.2.2.2.2.2.2.2.2.2.2.2.2) mr mp mg mw mf ml mq) H := hP
    refine lv_aload_n hx hb dX12_enters_121 rfl (lv_at hl 2 rfl) ?_
    refine gM0_43 C hK hP w1410 dX12_enters_122 ?_
    refine lv_iload hx hb dX12_enters_125 (lv_at hl 0 rfl) ?_
    refine lv_aload_n hx hb dX12_enters_127 rfl (lv_at hl 2 rfl) ?_
    refine gM0_66 (v := mp.2) C hK hP rfl w1433 dX12_enters_128 ?_
    refine lv_if_ne (tgt := 138) hx hb dX12_enters_131 (by decide) (fun c5 => ?_) (fun c5 => ?_)
    · rw [if_neg c5] at h
      refine lv_aload_n hx hb dX12_enters_138 rfl (lv_at hl 2 rfl) ?_
      refine gM0_65 C hK hP w1432 dX12_enters_139 ?_
      refine lv_aload_n hx hb dX12_enters_142 rfl (lv_at hl 2 rfl) ?_
      refine gM0_66 (v := mp.2) C hK hP rfl w1433 dX12_enters_143 ?_
      refine lv_iconst (v := (1 : Int32)) hx hb dX12_enters_146 (by decide) ?_
      refine lv_isub hx hb dX12_enters_147 ?_
      obtain ⟨n6, h⟩ := grd h
      refine aM56 (f := mp.1) C hK hP rfl n6 dX12_enters_148 ?_
      exact bX12_enters_149 C hI hK hN h (lv_sub hl [2, 3, 4, 1, 0] rfl) hP hS
    · rw [if_pos c5] at h
      refine lv_iconst (v := (-1 : Int32)) hx hb dX12_enters_134 (by decide) ?_
      refine lv_goto (tgt := 149) hx hb dX12_enters_135 (by decide) ?_
      exact bX12_enters_149 C hI hK hN h (lv_sub hl [2, 3, 4, 1, 0] rfl) hP hS
  · rw [if_pos c1] at h
    obtain rfl := Option.some.inj h
    exact W.vret hx hb hr (fun t ht _ => ⟨rfl, by rw [ht]; exact hP, hS.F ht⟩) hS.2.2 dX12_enters_82 hlk
def X12_enters_69 (mb : Tmb) (ms : Tms) (ma : Tma)  (mc : Tmc) (mu : Tmu) (me : Tme) (mr : Tmr) (mp : Tmp) (v3 : Int32) (v4 : Int32) : Option (Tmc × Tmu × Tme × Tmr × Tmp) := (letq (X12_fail mc (4 : Int32) v3) fun q1 => X12_enters_75 mb ms ma q1 mu me mr mp v3 v4)
set_option maxRecDepth 20000 in
theorem bX12_enters_69 (C : Cx p s m args meth c cX12_enters 8 none RX12 (.code yX12_enters cX12_enters 8 none)) (hI : Apart ad 71) (hK : va_K D vwCl (tysX cy) s) (hN : NW s)  {q : Tmc × Tmu × Tme × Tmr × Tmp}  {v3 : Int32} {v4 : Int32} (h : X12_enters_69 mb ms ma mc mu me mr mp v3 v4 = some q) {ls : Array Slot} (hl : lv_has ls 8 [(0, .ref (ad 0)), (3, .int v3), (4, .int v4)]) {H : Heap} {locs : List Loc} (hP : va_P D vwCl (GM cy ad mt mc mb mo ms mk my mu ma me mr mp mg mw mf ml mq) H) (hS : va_S (Ac ad 71) s.heap H locs) : W p l e ({ frames := 4, cells := 0, slots := 0, locals := 100 } : Room) s m args below meth c H locs 0 0 (MQ below (QR none D (GM cy ad mt q.1 mb mo ms mk my q.2.1 ma q.2.2.1 q.2.2.2.1 q.2.2.2.2 mg mw mf ml mq) (Ac ad 71)) args s 0 0 (Ac ad 71)) (F0 m 69 ls []) := by
  obtain ⟨hx, hb, hml, hown, hts, hr, hlk⟩ := id C
  unfold X12_enters_69 at h
  refine lv_aload_n hx hb dX12_enters_69 rfl (lv_at hl 0 rfl) ?_
  refine lv_iconst (v := (4 : Int32)) hx hb dX12_enters_70 (by decide) ?_
  refine lv_iload_n hx hb dX12_enters_71 rfl (lv_at hl 1 rfl) ?_
  obtain ⟨q1, h2, h⟩ := lets h
  refine cRv (run_V (rest := []) C (kX12_fail hI h2) caX12_fail w1678 ⟨rfl, rfl, Nat.le_of_ble_eq_true rfl, Nat.le_of_ble_eq_true rfl⟩ hK hN hP (rM0 hK hP) rfl hl.1 rfl (Nat.le_of_ble_eq_true rfl) dX12_enters_72 ⟨Nat.zero_le _, Nat.zero_le _⟩) hS (fun H locs hP hS => ?_)
  have hP : va_P D vwCl (GM cy ad mt q1 mb mo ms mk my mu ma me mr mp mg mw mf ml mq) H := hP
  exact bX12_enters_75 C hI hK hN h (lv_sub hl [0, 1, 2] rfl) hP hS
def X12_enters_45 (mb : Tmb) (ms : Tms) (ma : Tma)  (mc : Tmc) (mu : Tmu) (me : Tme) (mr : Tmr) (mp : Tmp) (v3 : Int32) (v4 : Int32) : Option (Tmc × Tmu × Tme × Tmr × Tmp) := (if inb mb.2.1 2 = true then (if (me.1 (mb.2.1).toNatClampNeg) = (400 : Int32) then X12_enters_69 mb ms ma mc mu me mr mp v3 v4 else (if mp.2 = (24 : Int32) then X12_enters_69 mb ms ma mc mu me mr mp v3 v4 else X12_enters_75 mb ms ma mc mu me mr mp v3 v4)) else none)
set_option maxRecDepth 20000 in
theorem bX12_enters_45 (C : Cx p s m args meth c cX12_enters 8 none RX12 (.code yX12_enters cX12_enters 8 none)) (hI : Apart ad 71) (hK : va_K D vwCl (tysX cy) s) (hN : NW s)  {q : Tmc × Tmu × Tme × Tmr × Tmp}  {v3 : Int32} {v4 : Int32} (h : X12_enters_45 mb ms ma mc mu me mr mp v3 v4 = some q) {ls : Array Slot} (hl : lv_has ls 8 [(0, .ref (ad 0)), (3, .int v3), (4, .int v4)]) {H : Heap} {locs : List Loc} (hP : va_P D vwCl (GM cy ad mt mc mb mo ms mk my mu ma me mr mp mg mw mf ml mq) H) (hS : va_S (Ac ad 71) s.heap H locs) : W p l e ({ frames := 4, cells := 0, slots := 0, locals := 100 } : Room) s m args below meth c H locs 0 0 (MQ below (QR none D (GM cy ad mt q.1 mb mo ms mk my q.2.1 ma q.2.2.1 q.2.2.2.1 q.2.2.2.2 mg mw mf ml mq) (Ac ad 71)) args s 0 0 (Ac ad 71)) (F0 m 45 ls []) := by
  obtain ⟨hx, hb, hml, hown, hts, hr, hlk⟩ := id C
  unfold X12_enters_45 at h
  refine lv_aload_n hx hb dX12_enters_45 rfl (lv_at hl 0 rfl) ?_
  refine gM0_13 C hK hP w1380 dX12_enters_46 ?_
  refine lv_aload_n hx hb dX12_enters_49 rfl (lv_at hl 0 rfl) ?_
  refine gM0_6 (v := mb.2.1) C hK hP rfl w1373 dX12_enters_50 ?_
  obtain ⟨n1, h⟩ := grd h
  refine aM6 (f := me.1) C hK hP rfl n1 dX12_enters_53 ?_
  refine lv_sipush (v := (400 : Int32)) hx hb dX12_enters_54 (by decide) ?_
  refine lv_icmp_eq (tgt := 69) hx hb dX12_enters_57 (by decide) (fun c2 => ?_) (fun c2 => ?_)
  · rw [if_pos c2] at h
    exact bX12_enters_69 C hI hK hN h (lv_sub hl [0, 1, 2] rfl) hP hS
  · rw [if_neg c2] at h
    refine lv_aload_n hx hb dX12_enters_60 rfl (lv_at hl 0 rfl) ?_
    refine gM0_66 (v := mp.2) C hK hP rfl w1433 dX12_enters_61 ?_
    refine lv_bipush (v := (24 : Int32)) hx hb dX12_enters_64 (by decide) ?_
    refine lv_icmp_ne (tgt := 75) hx hb dX12_enters_66 (by decide) (fun c3 => ?_) (fun c3 => ?_)
    · rw [if_neg c3] at h
      exact bX12_enters_75 C hI hK hN h (lv_sub hl [0, 1, 2] rfl) hP hS
    · rw [if_pos c3] at h
      exact bX12_enters_69 C hI hK hN h (lv_sub hl [0, 1, 2] rfl) hP hS
def X12_enters_30 (mb : Tmb) (ms : Tms) (ma : Tma)  (mc : Tmc) (mu : Tmu) (me : Tme) (mr : Tmr) (mp : Tmp) (v3 : Int32) (v4 : Int32) : Option (Tmc × Tmu × Tme × Tmr × Tmp) := (if v4 = ma.1 then (letq (X12_fail mc (3 : Int32) v3) fun q2 => X12_enters_45 mb ms ma q2 mu me mr mp v3 v4) else X12_enters_45 mb ms ma mc mu me mr mp v3 v4)
set_option maxRecDepth 20000 in
theorem bX12_enters_30 (C : Cx p s m args meth c cX12_enters 8 none RX12 (.code yX12_enters cX12_enters 8 none)) (hI : Apart ad 71) (hK : va_K D vwCl (tysX cy) s) (hN : NW s)  {q : Tmc × Tmu × Tme × Tmr × Tmp}  {v3 : Int32} {v4 : Int32} (h : X12_enters_30 mb ms ma mc mu me mr mp v3 v4 = some q) {ls : Array Slot} (hl : lv_has ls 8 [(0, .ref (ad 0)), (3, .int v3), (4, .int v4)]) {H : Heap} {locs : List Loc} (hP : va_P D vwCl (GM cy ad mt mc mb mo ms mk my mu ma me mr mp mg mw mf ml mq) H) (hS : va_S (Ac ad 71) s.heap H locs) : W p l e ({ frames := 4, cells := 0, slots := 0, locals := 100 } : Room) s m args below meth c H locs 0 0 (MQ below (QR none D (GM cy ad mt q.1 mb mo ms mk my q.2.1 ma q.2.2.1 q.2.2.2.1 q.2.2.2.2 mg mw mf ml mq) (Ac ad 71)) args s 0 0 (Ac ad 71)) (F0 m 30 ls []) := by
  obtain ⟨hx, hb, hml, hown, hts, hr, hlk⟩ := id C
  unfold X12_enters_30 at h
  refine lv_iload hx hb dX12_enters_30 (lv_at hl 2 rfl) ?_
  refine lv_aload_n hx hb dX12_enters_32 rfl (lv_at hl 0 rfl) ?_
  refine gM0_34 (v := ma.1) C hK hP rfl w1401 dX12_enters_33 ?_
  refine lv_icmp_ne (tgt := 45) hx hb dX12_enters_36 (by decide) (fun c1 => ?_) (fun c1 => ?_)
  · rw [if_neg c1] at h
    exact bX12_enters_45 C hI hK hN h (lv_sub hl [0, 1, 2] rfl) hP hS
  · rw [if_pos c1] at h
    refine lv_aload_n hx hb dX12_enters_39 rfl (lv_at hl 0 rfl) ?_
    refine lv_iconst (v := (3 : Int32)) hx hb dX12_enters_40 (by decide) ?_
    refine lv_iload_n hx hb dX12_enters_41 rfl (lv_at hl 1 rfl) ?_
    obtain ⟨q2, h3, h⟩ := lets h
    refine cRv (run_V (rest := []) C (kX12_fail hI h3) caX12_fail w1678 ⟨rfl, rfl, Nat.le_of_ble_eq_true rfl, Nat.le_of_ble_eq_true rfl⟩ hK hN hP (rM0 hK hP) rfl hl.1 rfl (Nat.le_of_ble_eq_true rfl) dX12_enters_42 ⟨Nat.zero_le _, Nat.zero_le _⟩) hS (fun H locs hP hS => ?_)
    have hP : va_P D vwCl (GM cy ad mt q2 mb mo ms mk my mu ma me mr mp mg mw mf ml mq) H := hP
    exact bX12_enters_45 C hI hK hN h (lv_sub hl [0, 1, 2] rfl) hP hS
def X12_enters_3b (mb : Tmb) (ms : Tms) (ma : Tma)  (k3 : Tmc → Tmu → Tme → Tmr → Tmp → Int64 → Int32 → Int32 → Option (Tmc × Tmu × Tme × Tmr × Tmp)) (mc : Tmc) (mu : Tmu) (me : Tme) (mr : Tmr) (mp : Tmp) (v1 : Int64) (v3 : Int32) (v4 : Int32) : Option (Tmc × Tmu × Tme × Tmr × Tmp) := (if v4 < ma.1 then (if inb v4 40 = true then (if (ma.2.1 (v4).toNatClampNeg) = v1 then X12_enters_30 mb ms ma mc mu me mr mp v3 v4 else k3 mc mu me mr mp v1 v3 (v4 + (1 : Int32))) else none) else X12_enters_30 mb ms ma mc mu me mr mp v3 v4)
def X12_enters_3 (mb : Tmb) (ms : Tms) (ma : Tma)  (n : Nat) (st : Tmc × Tmu × Tme × Tmr × Tmp × Int64 × Int32 × Int32) : Option (Tmc × Tmu × Tme × Tmr × Tmp) := lp (fun rec st => X12_enters_3b mb ms ma  (fun a0 a1 a2 a3 a4 a5 a6 a7 => rec (a0, a1, a2, a3, a4, a5, a6, a7)) st.1 st.2.1 st.2.2.1 st.2.2.2.1 st.2.2.2.2.1 st.2.2.2.2.2.1 st.2.2.2.2.2.2.1 st.2.2.2.2.2.2.2) n st
set_option maxRecDepth 20000 in
theorem bX12_enters_3 (C : Cx p s m args meth c cX12_enters 8 none RX12 (.code yX12_enters cX12_enters 8 none)) (hI : Apart ad 71) (hK : va_K D vwCl (tysX cy) s) (hN : NW s)  {q : Tmc × Tmu × Tme × Tmr × Tmp}  : ∀ (n : Nat) {mc : Tmc} {mu : Tmu} {me : Tme} {mr : Tmr} {mp : Tmp} {v1 : Int64} {v3 : Int32} {v4 : Int32}, X12_enters_3 mb ms ma  n (mc, mu, me, mr, mp, v1, v3, v4) = some q → ∀ {ls : Array Slot}, lv_has ls 8 [(0, .ref (ad 0)), (1, .long v1), (3, .int v3), (4, .int v4)] → ∀ {H : Heap} {locs : List Loc}, va_P D vwCl (GM cy ad mt mc mb mo ms mk my mu ma me mr mp mg mw mf ml mq) H → va_S (Ac ad 71) s.heap H locs → W p l e ({ frames := 4, cells := 0, slots := 0, locals := 100 } : Room) s m args below meth c H locs 0 0 (MQ below (QR none D (GM cy ad mt q.1 mb mo ms mk my q.2.1 ma q.2.2.1 q.2.2.2.1 q.2.2.2.2 mg mw mf ml mq) (Ac ad 71)) args s 0 0 (Ac ad 71)) (F0 m 3 ls []) := by
  obtain ⟨hx, hb, hml, hown, hts, hr, hlk⟩ := id C
  intro n
  induction n with
  | zero =>
    intro mc mu me mr mp v1 v3 v4 h ls hl H locs hP hS
    have h : (none : Option (Tmc × Tmu × Tme × Tmr × Tmp)) = some q := h
    cases h
  | succ n ih =>
    intro mc mu me mr mp v1 v3 v4 h ls hl H locs hP hS
    have h : X12_enters_3b mb ms ma  (fun a0 a1 a2 a3 a4 a5 a6 a7 => X12_enters_3 mb ms ma  n (a0, a1, a2, a3, a4, a5, a6, a7)) mc mu me mr mp v1 v3 v4 = some q := h
    unfold X12_enters_3b at h
    refine lv_iload hx hb dX12_enters_3 (lv_at hl 3 rfl) ?_
    refine lv_aload_n hx hb dX12_enters_5 rfl (lv_at hl 0 rfl) ?_
    refine gM0_34 (v := ma.1) C hK hP rfl w1401 dX12_enters_6 ?_
    refine b_icmp_ge (tgt := 30) hx hb dX12_enters_9 (by decide) (fun c1 => ?_) (fun c1 => ?_)
    · rw [if_neg c1] at h
      exact bX12_enters_30 C hI hK hN h (lv_sub hl [0, 2, 3] rfl) hP hS
    · rw [if_pos c1] at h
      refine lv_aload_n hx hb dX12_enters_12 rfl (lv_at hl 0 rfl) ?_
      refine gM0_35 C hK hP w1402 dX12_enters_13 ?_
      refine lv_iload hx hb dX12_enters_16 (lv_at hl 3 rfl) ?_
      obtain ⟨n2, h⟩ := grd h
      refine aM27 (f := ma.2.1) C hK hP rfl n2 dX12_enters_18 ?_
      refine lv_lload_n hx hb dX12_enters_19 rfl (lv_at hl 1 rfl) ?_
      refine lc_eq (tgt := 30) hx hb dX12_enters_20 dX12_enters_21 (by decide) (fun c3 => ?_) (fun c3 => ?_)
      · rw [if_pos c3] at h
        exact bX12_enters_30 C hI hK hN h (lv_sub hl [0, 2, 3] rfl) hP hS
      · rw [if_neg c3] at h
        refine lv_iinc (v := (v4 + (1 : Int32))) (lv' := [(4, .int (v4 + (1 : Int32))), (0, .ref (ad 0)), (1, .long v1), (3, .int v3)]) hx hb dX12_enters_24 hl (k := 3) rfl rfl (by decide) rfl (fun ls hl => ?_)
        refine lv_goto (tgt := 3) hx hb dX12_enters_27 (by decide) ?_
        exact ih h (lv_sub hl [1, 2, 3, 0] rfl) hP hS
def X12_enters (mc : Tmc) (mb : Tmb) (ms : Tms) (mu : Tmu) (ma : Tma) (me : Tme) (mr : Tmr) (mp : Tmp) (v1 : Int64) (v3 : Int32) : Option (Tmc × Tmu × Tme × Tmr × Tmp) := X12_enters_3 mb ms ma FU (mc, mu, me, mr, mp, v1, v3, (0 : Int32))
set_option maxRecDepth 20000 in
theorem bX12_enters_0 (C : Cx p s m args meth c cX12_enters 8 none RX12 (.code yX12_enters cX12_enters 8 none)) (hI : Apart ad 71) (hK : va_K D vwCl (tysX cy) s) (hN : NW s)  {q : Tmc × Tmu × Tme × Tmr × Tmp}  {v1 : Int64} {v3 : Int32} (h : X12_enters mc mb ms mu ma me mr mp v1 v3 = some q) {ls : Array Slot} (hl : lv_has ls 8 [(0, .ref (ad 0)), (1, .long v1), (3, .int v3)]) {H : Heap} {locs : List Loc} (hP : va_P D vwCl (GM cy ad mt mc mb mo ms mk my mu ma me mr mp mg mw mf ml mq) H) (hS : va_S (Ac ad 71) s.heap H locs) : W p l e ({ frames := 4, cells := 0, slots := 0, locals := 100 } : Room) s m args below meth c H locs 0 0 (MQ below (QR none D (GM cy ad mt q.1 mb mo ms mk my q.2.1 ma q.2.2.1 q.2.2.2.1 q.2.2.2.2 mg mw mf ml mq) (Ac ad 71)) args s 0 0 (Ac ad 71)) (F0 m 0 ls []) := by
  obtain ⟨hx, hb, hml, hown, hts, hr, hlk⟩ := id C
  unfold X12_enters at h
  refine lv_iconst (v := (0 : Int32)) hx hb dX12_enters_0 (by decide) ?_
  refine lv_istore (lv' := [(4, .int (0 : Int32)), (0, .ref (ad 0)), (1, .long v1), (3, .int v3)]) hx hb dX12_enters_1 hl (by decide) rfl (fun ls hl => ?_)
  exact bX12_enters_3 C hI hK hN FU h (lv_sub hl [1, 2, 3, 0] rfl) hP hS
theorem kX12_enters (hI : Apart ad 71) {v1 : Int64} {v3 : Int32} {q : Tmc × Tmu × Tme × Tmr × Tmp} (h : X12_enters mc mb ms mu ma me mr mp v1 v3 = some q) : Met l yX12_enters (.code yX12_enters cX12_enters 8 none :: WA) ({ frames := 4, cells := 0, slots := 0, locals := 100 } : Room) (va_Pc [.ref (ad 0), .long v1, .int v3] (PR D cy (GM cy ad mt mc mb mo ms mk my mu ma me mr mp mg mw mf ml mq))) (QR none D (GM cy ad mt q.1 mb mo ms mk my q.2.1 ma q.2.2.1 q.2.2.2.1 q.2.2.2.2 mg mw mf ml mq) (Ac ad 71)) 0 0 (Ac ad 71) :=
  met_of (by decide) (Nat.le_of_ble_eq_true rfl) (fun p e s m below meth c ls C hP hK hN hl => bX12_enters_0 C hI hK hN h hl hP va_S.rf)
def X12_entries_101 (mb : Tmb) (ms : Tms) (ma : Tma) (k9 : Tmc → Tmu → Tme → Tmr → Tmp → Int32 → Int32 → Int32 → Option (Tmc × Tmu × Tme × Tmr × Tmp)) (mc : Tmc) (mu : Tmu) (me : Tme) (mr : Tmr) (mp : Tmp) (v1 : Int32) (v3 : Int32) (z0 : Int32) : Option (Tmc × Tmu × Tme × Tmr × Tmp) := k9 mc mu me mr mp v1 z0 v3
set_option maxRecDepth 20000 in
theorem bX12_entries_101 (C : Cx p s m args meth c cX12_entries 7 none RX12 (.code yX12_entries cX12_entries 7 none)) (hI : Apart ad 71) (hK : va_K D vwCl (tysX cy) s) (hN : NW s) {k9 : Tmc → Tmu → Tme → Tmr → Tmp → Int32 → Int32 → Int32 → Option (Tmc × Tmu × Tme × Tmr × Tmp)} {q : Tmc × Tmu × Tme × Tmr × Tmp} (hk9 : ∀ {mc : Tmc} {mu : Tmu} {me : Tme} {mr : Tmr} {mp : Tmp} {v1 : Int32} {v2 : Int32} {v3 : Int32}, k9 mc mu me mr mp v1 v2 v3 = some q → ∀ {ls : Array Slot}, lv_has ls 7 [(0, .ref (ad 0)), (1, .int v1), (2, .int v2), (3, .int v3)] → ∀ {H : Heap} {locs : List Loc}, va_P D vwCl (GM cy ad mt mc mb mo ms mk my mu ma me mr mp mg mw mf ml mq) H → va_S (Ac ad 71) s.heap H locs → W p l e ({ frames := 5, cells := 0, slots := 0, locals := 127 } : Room) s m args below meth c H locs 0 0 (MQ below (QR none D (GM cy ad mt q.1 mb mo ms mk my q.2.1 ma q.2.2.1 q.2.2.2.1 q.2.2.2.2 mg mw mf ml mq) (Ac ad 71)) args s 0 0 (Ac ad 71)) (F0 m 9 ls [])) {v1 : Int32} {v3 : Int32} {z0 : Int32} (h : X12_entries_101 mb ms ma k9 mc mu me mr mp v1 v3 z0 = some q) {ls : Array Slot} (hl : lv_has ls 7 [(0, .ref (ad 0)), (1, .int v1), (3, .int v3)]) {H : Heap} {locs : List Loc} (hP : va_P D vwCl (GM cy ad mt mc mb mo ms mk my mu ma me mr mp mg mw mf ml mq) H) (hS : va_S (Ac ad 71) s.heap H locs) : W p l e ({ frames := 5, cells := 0, slots := 0, locals := 127 } : Room) s m args below meth c H locs 0 0 (MQ below (QR none D (GM cy ad mt q.1 mb mo ms mk my q.2.1 ma q.2.2.1 q.2.2.2.1 q.2.2.2.2 mg mw mf ml mq) (Ac ad 71)) args s 0 0 (Ac ad 71)) (F0 m 101 ls [.int z0]) := by
  obtain ⟨hx, hb, hml, hown, hts, hr, hlk⟩ := id C
  unfold X12_entries_101 at h
  refine lv_istore_n (lv' := [(2, .int z0), (0, .ref (ad 0)), (1, .int v1), (3, .int v3)]) hx hb dX12_entries_101 rfl hl (by decide) rfl (fun ls hl => ?_)
  refine lv_goto (tgt := 9) hx hb dX12_entries_102 (by decide) ?_
  exact hk9 h (lv_sub hl [1, 2, 0, 3] rfl) hP hS
def X12_entries_87 (mb : Tmb) (ms : Tms) (ma : Tma) (k9 : Tmc → Tmu → Tme → Tmr → Tmp → Int32 → Int32 → Int32 → Option (Tmc × Tmu × Tme × Tmr × Tmp)) (mc : Tmc) (mu : Tmu) (me : Tme) (mr : Tmr) (mp : Tmp) (v1 : Int32) : Option (Tmc × Tmu × Tme × Tmr × Tmp) := (if 0 < mp.2 then X12_entries_101 mb ms ma k9 mc mu me mr mp v1 (0 : Int32) (1 : Int32) else X12_entries_101 mb ms ma k9 mc mu me mr mp v1 (0 : Int32) (0 : Int32))
set_option maxRecDepth 20000 in
theorem bX12_entries_87 (C : Cx p s m args meth c cX12_entries 7 none RX12 (.code yX12_entries cX12_entries 7 none)) (hI : Apart ad 71) (hK : va_K D vwCl (tysX cy) s) (hN : NW s) {k9 : Tmc → Tmu → Tme → Tmr → Tmp → Int32 → Int32 → Int32 → Option (Tmc × Tmu × Tme × Tmr × Tmp)} {q : Tmc × Tmu × Tme × Tmr × Tmp} (hk9 : ∀ {mc : Tmc} {mu : Tmu} {me : Tme} {mr : Tmr} {mp : Tmp} {v1 : Int32} {v2 : Int32} {v3 : Int32}, k9 mc mu me mr mp v1 v2 v3 = some q → ∀ {ls : Array Slot}, lv_has ls 7 [(0, .ref (ad 0)), (1, .int v1), (2, .int v2), (3, .int v3)] → ∀ {H : Heap} {locs : List Loc}, va_P D vwCl (GM cy ad mt mc mb mo ms mk my mu ma me mr mp mg mw mf ml mq) H → va_S (Ac ad 71) s.heap H locs → W p l e ({ frames := 5, cells := 0, slots := 0, locals := 127 } : Room) s m args below meth c H locs 0 0 (MQ below (QR none D (GM cy ad mt q.1 mb mo ms mk my q.2.1 ma q.2.2.1 q.2.2.2.1 q.2.2.2.2 mg mw mf ml mq) (Ac ad 71)) args s 0 0 (Ac ad 71)) (F0 m 9 ls [])) {v1 : Int32} (h : X12_entries_87 mb ms ma k9 mc mu me mr mp v1 = some q) {ls : Array Slot} (hl : lv_has ls 7 [(0, .ref (ad 0)), (1, .int v1)]) {H : Heap} {locs : List Loc} (hP : va_P D vwCl (GM cy ad mt mc mb mo ms mk my mu ma me mr mp mg mw mf ml mq) H) (hS : va_S (Ac ad 71) s.heap H locs) : W p l e ({ frames := 5, cells := 0, slots := 0, locals := 127 } : Room) s m args below meth c H locs 0 0 (MQ below (QR none D (GM cy ad mt q.1 mb mo ms mk my q.2.1 ma q.2.2.1 q.2.2.2.1 q.2.2.2.2 mg mw mf ml mq) (Ac ad 71)) args s 0 0 (Ac ad 71)) (F0 m 87 ls []) := by
  obtain ⟨hx, hb, hml, hown, hts, hr, hlk⟩ := id C
  unfold X12_entries_87 at h
  refine lv_iconst (v := (0 : Int32)) hx hb dX12_entries_87 (by decide) ?_
  refine lv_istore_n (lv' := [(3, .int (0 : Int32)), (0, .ref (ad 0)), (1, .int v1)]) hx hb dX12_entries_88 rfl hl (by decide) rfl (fun ls hl => ?_)
  refine lv_aload_n hx hb dX12_entries_89 rfl (lv_at hl 1 rfl) ?_
  refine gM0_66 (v := mp.2) C hK hP rfl w1433 dX12_entries_90 ?_
  refine b_if_le (tgt := 100) hx hb dX12_entries_93 (by decide) (fun c1 => ?_) (fun c1 => ?_)
  · rw [if_neg c1] at h
    refine lv_iconst (v := (0 : Int32)) hx hb dX12_entries_100 (by decide) ?_
    exact bX12_entries_101 C hI hK hN @hk9 h (lv_sub hl [1, 2, 0] rfl) hP hS
  · rw [if_pos c1] at h
    refine lv_iconst (v := (1 : Int32)) hx hb dX12_entries_96 (by decide) ?_
    refine lv_goto (tgt := 101) hx hb dX12_entries_97 (by decide) ?_
    exact bX12_entries_101 C hI hK hN @hk9 h (lv_sub hl [1, 2, 0] rfl) hP hS
def X12_entries_59 (mb : Tmb) (ms : Tms) (ma : Tma) (k9 : Tmc → Tmu → Tme → Tmr → Tmp → Int32 → Int32 → Int32 → Option (Tmc × Tmu × Tme × Tmr × Tmp)) (mc : Tmc) (mu : Tmu) (me : Tme) (mr : Tmr) (mp : Tmp) (v1 : Int32) (v4 : Int32) (v5 : Int64) : Option (Tmc × Tmu × Tme × Tmr × Tmp) := (if v5 = (0 : Int64) then X12_entries_87 mb ms ma k9 mc mu me mr (mp.1, (mp.2 - (1 : Int32))) v1 else ((X12_enters mc mb ms mu ma me mr mp v5 v4).bind fun q2 => X12_entries_87 mb ms ma k9 q2.1 q2.2.1 q2.2.2.1 q2.2.2.2.1 q2.2.2.2.2 v1))
set_option maxRecDepth 20000 in
theorem bX12_entries_59 (C : Cx p s m args meth c cX12_entries 7 none RX12 (.code yX12_entries cX12_entries 7 none)) (hI : Apart ad 71) (hK : va_K D vwCl (tysX cy) s) (hN : NW s) {k9 : Tmc → Tmu → Tme → Tmr → Tmp → Int32 → Int32 → Int32 → Option (Tmc × Tmu × Tme × Tmr × Tmp)} {q : Tmc × Tmu × Tme × Tmr × Tmp} (hk9 : ∀ {mc : Tmc} {mu : Tmu} {me : Tme} {mr : Tmr} {mp : Tmp} {v1 : Int32} {v2 : Int32} {v3 : Int32}, k9 mc mu me mr mp v1 v2 v3 = some q → ∀ {ls : Array Slot}, lv_has ls 7 [(0, .ref (ad 0)), (1, .int v1), (2, .int v2), (3, .int v3)] → ∀ {H : Heap} {locs : List Loc}, va_P D vwCl (GM cy ad mt mc mb mo ms mk my mu ma me mr mp mg mw mf ml mq) H → va_S (Ac ad 71) s.heap H locs → W p l e ({ frames := 5, cells := 0, slots := 0, locals := 127 } : Room) s m args below meth c H locs 0 0 (MQ below (QR none D (GM cy ad mt q.1 mb mo ms mk my q.2.1 ma q.2.2.1 q.2.2.2.1 q.2.2.2.2 mg mw mf ml mq) (Ac ad 71)) args s 0 0 (Ac ad 71)) (F0 m 9 ls [])) {v1 : Int32} {v4 : Int32} {v5 : Int64} (h : X12_entries_59 mb ms ma k9 mc mu me mr mp v1 v4 v5 = some q) {ls : Array Slot} (hl : lv_has ls 7 [(0, .ref (ad 0)), (1, .int v1), (4, .int v4), (5, .long v5)]) {H : Heap} {locs : List Loc} (hP : va_P D vwCl (GM cy ad mt mc mb mo ms mk my mu ma me mr mp mg mw mf ml mq) H) (hS : va_S (Ac ad 71) s.heap H locs) : W p l e ({ frames := 5, cells := 0, slots := 0, locals := 127 } : Room) s m args below meth c H locs 0 0 (MQ below (QR none D (GM cy ad mt q.1 mb mo ms mk my q.2.1 ma q.2.2.1 q.2.2.2.1 q.2.2.2.2 mg mw mf ml mq) (Ac ad 71)) args s 0 0 (Ac ad 71)) (F0 m 59 ls []) := by
  obtain ⟨hx, hb, hml, hown, hts, hr, hlk⟩ := id C
  unfold X12_entries_59 at h
  refine lv_lload hx hb dX12_entries_59 (lv_at hl 3 rfl) ?_
  refine lv_lconst (v := (0 : Int64)) hx hb dX12_entries_61 (by decide) ?_
  refine lc_ne (tgt := 79) hx hb dX12_entries_62 dX12_entries_63 (by decide) (fun c1 => ?_) (fun c1 => ?_)
  · rw [if_neg c1] at h
    refine lv_aload_n hx hb dX12_entries_79 rfl (lv_at hl 0 rfl) ?_
    refine lv_lload hx hb dX12_entries_80 (lv_at hl 3 rfl) ?_
    refine lv_iload hx hb dX12_entries_82 (lv_at hl 2 rfl) ?_
    obtain ⟨q2, h3, h⟩ := bnd h
    refine cRv (run_V (rest := []) C (kX12_enters hI h3) caX12_enters w1773 ⟨rfl, rfl, Nat.le_of_ble_eq_true rfl, Nat.le_of_ble_eq_true rfl⟩ hK hN hP (rM0 hK hP) rfl hl.1 rfl (Nat.le_of_ble_eq_true rfl) dX12_entries_84 ⟨Nat.zero_le _, Nat.zero_le _⟩) hS (fun H locs hP hS => ?_)
    have hP : va_P D vwCl (GM cy ad mt q2.1 mb mo ms mk my q2.2.1 ma q2.2.2.1 q2.2.2.2.1 q2.2.2.2.2 mg mw mf ml mq) H := hP
    exact bX12_entries_87 C hI hK hN @hk9 h (lv_sub hl [0, 1] rfl) hP hS
  · rw [if_pos c1] at h
    refine lv_aload_n hx hb dX12_entries_66 rfl (lv_at hl 0 rfl) ?_
    refine lv_dup hx hb dX12_entries_67 rfl ?_
    refine gM0_66 (v := mp.2) C hK hP rfl w1433 dX12_entries_68 ?_
    refine lv_iconst (v := (1 : Int32)) hx hb dX12_entries_71 (by decide) ?_
    refine lv_isub hx hb dX12_entries_72 ?_
    refine pM0_66 (v := (mp.2 - (1 : Int32))) C hI hK hP hS w1433 dX12_entries_73 (fun H locs hP hS => ?_)
    have hP : va_P D vwCl (GM cy ad mt mc mb mo ms mk my mu ma me mr (mp.1, (mp.2 - (1 : Int32))) mg mw mf ml mq) H := hP
    refine lv_goto (tgt := 87) hx hb dX12_entries_76 (by decide) ?_
    exact bX12_entries_87 C hI hK hN @hk9 h (lv_sub hl [0, 1] rfl) hP hS
def X12_entries_105 (mb : Tmb) (ms : Tms) (ma : Tma)  (mc : Tmc) (mu : Tmu) (me : Tme) (mr : Tmr) (mp : Tmp) (v1 : Int32) : Option (Tmc × Tmu × Tme × Tmr × Tmp) := (if (X12_isRight mc) = 0 then some (mc, mu, me, mr, mp) else (if mc.1 < v1 then (letq (X12_fail mc (2 : Int32) mc.1) fun q3 => some (q3, mu, me, mr, mp)) else some (mc, mu, me, mr, mp)))
set_option maxRecDepth 20000 in
theorem bX12_entries_105 (C : Cx p s m args meth c cX12_entries 7 none RX12 (.code yX12_entries cX12_entries 7 none)) (hI : Apart ad 71) (hK : va_K D vwCl (tysX cy) s) (hN : NW s)  {q : Tmc × Tmu × Tme × Tmr × Tmp}  {v1 : Int32} (h : X12_entries_105 mb ms ma mc mu me mr mp v1 = some q) {ls : Array Slot} (hl : lv_has ls 7 [(0, .ref (ad 0)), (1, .int v1)]) {H : Heap} {locs : List Loc} (hP : va_P D vwCl (GM cy ad mt mc mb mo ms mk my mu ma me mr mp mg mw mf ml mq) H) (hS : va_S (Ac ad 71) s.heap H locs) : W p l e ({ frames := 5, cells := 0, slots := 0, locals := 127 } : Room) s m args below meth c H locs 0 0 (MQ below (QR none D (GM cy ad mt q.1 mb mo ms mk my q.2.1 ma q.2.2.1 q.2.2.2.1 q.2.2.2.2 mg mw mf ml mq) (Ac ad 71)) args s 0 0 (Ac ad 71)) (F0 m 105 ls []) := by
  obtain ⟨hx, hb, hml, hown, hts, hr, hlk⟩ := id C
  unfold X12_entries_105 at h
  refine lv_aload_n hx hb dX12_entries_105 rfl (lv_at hl 0 rfl) ?_
  refine cPi (run_V (rest := []) C (kX12_isRight rfl) caX12_isRight w1682 ⟨rfl, rfl, Nat.le_of_ble_eq_true rfl, Nat.le_of_ble_eq_true rfl⟩ hK hN hP (rM0 hK hP) rfl hl.1 rfl (Nat.le_of_ble_eq_true rfl) dX12_entries_106 ⟨Nat.zero_le _, Nat.zero_le _⟩) ?_
  refine lv_if_eq (tgt := 129) hx hb dX12_entries_109 (by decide) (fun c1 => ?_) (fun c1 => ?_)
  · rw [if_pos c1] at h
    obtain rfl := Option.some.inj h
    exact W.vret hx hb hr (fun t ht _ => ⟨rfl, by rw [ht]; exact hP, hS.F ht⟩) hS.2.2 dX12_entries_129 hlk
  · rw [if_neg c1] at h
    refine lv_aload_n hx hb dX12_entries_112 rfl (lv_at hl 0 rfl) ?_
    refine gM0_77 (v := mc.1) C hK hP rfl w1444 dX12_entries_113 ?_
    refine lv_iload_n hx hb dX12_entries_116 rfl (lv_at hl 1 rfl) ?_
    refine b_icmp_ge (tgt := 129) hx hb dX12_entries_117 (by decide) (fun c2 => ?_) (fun c2 => ?_)
    · rw [if_neg c2] at h
      obtain rfl := Option.some.inj h
      exact W.vret hx hb hr (fun t ht _ => ⟨rfl, by rw [ht]; exact hP, hS.F ht⟩) hS.2.2 dX12_entries_129 hlk
    · rw [if_pos c2] at h
      refine lv_aload_n hx hb dX12_entries_120 rfl (lv_at hl 0 rfl) ?_
      refine lv_iconst (v := (2 : Int32)) hx hb dX12_entries_121 (by decide) ?_
      refine lv_aload_n hx hb dX12_entries_122 rfl (lv_at hl 0 rfl) ?_
      refine gM0_77 (v := mc.1) C hK hP rfl w1444 dX12_entries_123 ?_
      obtain ⟨q3, h4, h⟩ := lets h
      refine cRv (run_V (rest := []) C (kX12_fail hI h4) caX12_fail w1678 ⟨rfl, rfl, Nat.le_of_ble_eq_true rfl, Nat.le_of_ble_eq_true rfl⟩ hK hN hP (rM0 hK hP) rfl hl.1 rfl (Nat.le_of_ble_eq_true rfl) dX12_entries_126 ⟨Nat.zero_le _, Nat.zero_le _⟩) hS (fun H locs hP hS => ?_)
      have hP : va_P D vwCl (GM cy ad mt q3 mb mo ms mk my mu ma me mr mp mg mw mf ml mq) H := hP
      obtain rfl := Option.some.inj h
      exact W.vret hx hb hr (fun t ht _ => ⟨rfl, by rw [ht]; exact hP, hS.F ht⟩) hS.2.2 dX12_entries_129 hlk
def X12_entries_9b (mb : Tmb) (ms : Tms) (ma : Tma)  (k9 : Tmc → Tmu → Tme → Tmr → Tmp → Int32 → Int32 → Int32 → Option (Tmc × Tmu × Tme × Tmr × Tmp)) (mc : Tmc) (mu : Tmu) (me : Tme) (mr : Tmr) (mp : Tmp) (v1 : Int32) (v2 : Int32) (v3 : Int32) : Option (Tmc × Tmu × Tme × Tmr × Tmp) := (if v2 = 0 then X12_entries_105 mb ms ma mc mu me mr mp v1 else (if (X12_isRight mc) = 0 then X12_entries_105 mb ms ma mc mu me mr mp v1 else ((X12_uleb mc mb).bind fun q3 => (if (X12_isRight q3.2) = 0 then some (q3.2, mu, me, mr, mp) else (if q3.1 = (0 : Int64) then (if v3 = 0 then X12_entries_59 mb ms ma k9 q3.2 mu me mr mp v1 mc.1 q3.1 else (letq (X12_fail q3.2 (2 : Int32) mc.1) fun q8 => some (q8, mu, me, mr, mp))) else X12_entries_59 mb ms ma k9 q3.2 mu me mr mp v1 mc.1 q3.1)))))
def X12_entries_9 (mb : Tmb) (ms : Tms) (ma : Tma)  (n : Nat) (st : Tmc × Tmu × Tme × Tmr × Tmp × Int32 × Int32 × Int32) : Option (Tmc × Tmu × Tme × Tmr × Tmp) := lp (fun rec st => X12_entries_9b mb ms ma  (fun a0 a1 a2 a3 a4 a5 a6 a7 => rec (a0, a1, a2, a3, a4, a5, a6, a7)) st.1 st.2.1 st.2.2.1 st.2.2.2.1 st.2.2.2.2.1 st.2.2.2.2.2.1 st.2.2.2.2.2.2.1 st.2.2.2.2.2.2.2) n st
set_option maxRecDepth 20000 in
theorem bX12_entries_9 (C : Cx p s m args meth c cX12_entries 7 none RX12 (.code yX12_entries cX12_entries 7 none)) (hI : Apart ad 71) (hK : va_K D vwCl (tysX cy) s) (hN : NW s)  {q : Tmc × Tmu × Tme × Tmr × Tmp}  : ∀ (n : Nat) {mc : Tmc} {mu : Tmu} {me : Tme} {mr : Tmr} {mp : Tmp} {v1 : Int32} {v2 : Int32} {v3 : Int32}, X12_entries_9 mb ms ma  n (mc, mu, me, mr, mp, v1, v2, v3) = some q → ∀ {ls : Array Slot}, lv_has ls 7 [(0, .ref (ad 0)), (1, .int v1), (2, .int v2), (3, .int v3)] → ∀ {H : Heap} {locs : List Loc}, va_P D vwCl (GM cy ad mt mc mb mo ms mk my mu ma me mr mp mg mw mf ml mq) H → va_S (Ac ad 71) s.heap H locs → W p l e ({ frames := 5, cells := 0, slots := 0, locals := 127 } : Room) s m args below meth c H locs 0 0 (MQ below (QR none D (GM cy ad mt q.1 mb mo ms mk my q.2.1 ma q.2.2.1 q.2.2.2.1 q.2.2.2.2 mg mw mf ml mq) (Ac ad 71)) args s 0 0 (Ac ad 71)) (F0 m 9 ls []) := by
  obtain ⟨hx, hb, hml, hown, hts, hr, hlk⟩ := id C
  intro n
  induction n with
  | zero =>
    intro mc mu me mr mp v1 v2 v3 h ls hl H locs hP hS
    have h : (none : Option (Tmc × Tmu × Tme × Tmr × Tmp)) = some q := h
    cases h
  | succ n ih =>
    intro mc mu me mr mp v1 v2 v3 h ls hl H locs hP hS
    have h : X12_entries_9b mb ms ma  (fun a0 a1 a2 a3 a4 a5 a6 a7 => X12_entries_9 mb ms ma  n (a0, a1, a2, a3, a4, a5, a6, a7)) mc mu me mr mp v1 v2 v3 = some q := h
    unfold X12_entries_9b at h
    refine lv_iload_n hx hb dX12_entries_9 rfl (lv_at hl 2 rfl) ?_
    refine lv_if_eq (tgt := 105) hx hb dX12_entries_10 (by decide) (fun c1 => ?_) (fun c1 => ?_)
    · rw [if_pos c1] at h
      exact bX12_entries_105 C hI hK hN h (lv_sub hl [0, 1] rfl) hP hS
    · rw [if_neg c1] at h
      refine lv_aload_n hx hb dX12_entries_13 rfl (lv_at hl 0 rfl) ?_
      refine cPi (run_V (rest := []) C (kX12_isRight rfl) caX12_isRight w1682 ⟨rfl, rfl, Nat.le_of_ble_eq_true rfl, Nat.le_of_ble_eq_true rfl⟩ hK hN hP (rM0 hK hP) rfl hl.1 rfl (Nat.le_of_ble_eq_true rfl) dX12_entries_14 ⟨Nat.zero_le _, Nat.zero_le _⟩) ?_
      refine lv_if_eq (tgt := 105) hx hb dX12_entries_17 (by decide) (fun c2 => ?_) (fun c2 => ?_)
      · rw [if_pos c2] at h
        exact bX12_entries_105 C hI hK hN h (lv_sub hl [0, 1] rfl) hP hS
      · rw [if_neg c2] at h
        refine lv_aload_n hx hb dX12_entries_20 rfl (lv_at hl 0 rfl) ?_
        refine gM0_77 (v := mc.1) C hK hP rfl w1444 dX12_entries_21 ?_
        refine lv_istore (lv' := [(4, .int mc.1), (0, .ref (ad 0)), (1, .int v1), (2, .int v2), (3, .int v3)]) hx hb dX12_entries_24 hl (by decide) rfl (fun ls hl => ?_)
        refine lv_aload_n hx hb dX12_entries_26 rfl (lv_at hl 1 rfl) ?_
        obtain ⟨q3, h4, h⟩ := bnd h
        refine cRl (run_V (rest := []) C (kX12_uleb hI h4) caX12_uleb w1741 ⟨rfl, rfl, Nat.le_of_ble_eq_true rfl, Nat.le_of_ble_eq_true rfl⟩ hK hN hP (rM0 hK hP) rfl hl.1 rfl (Nat.le_of_ble_eq_true rfl) dX12_entries_27 ⟨Nat.zero_le _, Nat.zero_le _⟩) hS (fun H locs hP hS => ?_)
        have hP : va_P D vwCl (GM cy ad mt q3.2 mb mo ms mk my mu ma me mr mp mg mw mf ml mq) H := hP
        refine lv_lstore (lv' := [(5, .long q3.1), (4, .int mc.1), (0, .ref (ad 0)), (1, .int v1), (2, .int v2), (3, .int v3)]) hx hb dX12_entries_30 hl (by decide) rfl (fun ls hl => ?_)
        refine lv_aload_n hx hb dX12_entries_32 rfl (lv_at hl 2 rfl) ?_
        refine cPi (run_V (rest := []) C (kX12_isRight rfl) caX12_isRight w1682 ⟨rfl, rfl, Nat.le_of_ble_eq_true rfl, Nat.le_of_ble_eq_true rfl⟩ hK hN hP (rM0 hK hP) rfl hl.1 rfl (Nat.le_of_ble_eq_true rfl) dX12_entries_33 ⟨Nat.zero_le _, Nat.zero_le _⟩) ?_
        refine lv_if_ne (tgt := 40) hx hb dX12_entries_36 (by decide) (fun c5 => ?_) (fun c5 => ?_)
        · rw [if_neg c5] at h
          refine lv_lload hx hb dX12_entries_40 (lv_at hl 0 rfl) ?_
          refine lv_lconst (v := (0 : Int64)) hx hb dX12_entries_42 (by decide) ?_
          refine lc_ne (tgt := 59) hx hb dX12_entries_43 dX12_entries_44 (by decide) (fun c6 => ?_) (fun c6 => ?_)
          · rw [if_neg c6] at h
            exact bX12_entries_59 C hI hK hN @ih h (lv_sub hl [2, 3, 1, 0] rfl) hP hS
          · rw [if_pos c6] at h
            refine lv_iload_n hx hb dX12_entries_47 rfl (lv_at hl 5 rfl) ?_
            refine lv_if_eq (tgt := 59) hx hb dX12_entries_48 (by decide) (fun c7 => ?_) (fun c7 => ?_)
            · rw [if_pos c7] at h
              exact bX12_entries_59 C hI hK hN @ih h (lv_sub hl [2, 3, 1, 0] rfl) hP hS
            · rw [if_neg c7] at h
              refine lv_aload_n hx hb dX12_entries_51 rfl (lv_at hl 2 rfl) ?_
              refine lv_iconst (v := (2 : Int32)) hx hb dX12_entries_52 (by decide) ?_
              refine lv_iload hx hb dX12_entries_53 (lv_at hl 1 rfl) ?_
              obtain ⟨q8, h9, h⟩ := lets h
              refine cRv (run_V (rest := []) C (kX12_fail hI h9) caX12_fail w1678 ⟨rfl, rfl, Nat.le_of_ble_eq_true rfl, Nat.le_of_ble_eq_true rfl⟩ hK hN hP (rM0 hK hP) rfl hl.1 rfl (Nat.le_of_ble_eq_true rfl) dX12_entries_55 ⟨Nat.zero_le _, Nat.zero_le _⟩) hS (fun H locs hP hS => ?_)
              have hP : va_P D vwCl (GM cy ad mt q8 mb mo ms mk my mu ma me mr mp mg mw mf ml mq) H := hP
              obtain rfl := Option.some.inj h
              exact W.vret hx hb hr (fun t ht _ => ⟨rfl, by rw [ht]; exact hP, hS.F ht⟩) hS.2.2 dX12_entries_58 hlk
        · rw [if_pos c5] at h
          obtain rfl := Option.some.inj h
          exact W.vret hx hb hr (fun t ht _ => ⟨rfl, by rw [ht]; exact hP, hS.F ht⟩) hS.2.2 dX12_entries_39 hlk
def X12_entries (mc : Tmc) (mb : Tmb) (ms : Tms) (mu : Tmu) (ma : Tma) (me : Tme) (mr : Tmr) (mp : Tmp) (v1 : Int32) : Option (Tmc × Tmu × Tme × Tmr × Tmp) := X12_entries_9 mb ms ma FU (mc, mu, me, mr, (mp.1, (0 : Int32)), v1, (1 : Int32), (1 : Int32))
set_option maxRecDepth 20000 in
theorem bX12_entries_0 (C : Cx p s m args meth c cX12_entries 7 none RX12 (.code yX12_entries cX12_entries 7 none)) (hI : Apart ad 71) (hK : va_K D vwCl (tysX cy) s) (hN : NW s)  {q : Tmc × Tmu × Tme × Tmr × Tmp}  {v1 : Int32} (h : X12_entries mc mb ms mu ma me mr mp v1 = some q) {ls : Array Slot} (hl : lv_has ls 7 [(0, .ref (ad 0)), (1, .int v1)]) {H : Heap} {locs : List Loc} (hP : va_P D vwCl (GM cy ad mt mc mb mo ms mk my mu ma me mr mp mg mw mf ml mq) H) (hS : va_S (Ac ad 71) s.heap H locs) : W p l e ({ frames := 5, cells := 0, slots := 0, locals := 127 } : Room) s m args below meth c H locs 0 0 (MQ below (QR none D (GM cy ad mt q.1 mb mo ms mk my q.2.1 ma q.2.2.1 q.2.2.2.1 q.2.2.2.2 mg mw mf ml mq) (Ac ad 71)) args s 0 0 (Ac ad 71)) (F0 m 0 ls []) := by
  obtain ⟨hx, hb, hml, hown, hts, hr, hlk⟩ := id C
  unfold X12_entries at h
  refine lv_aload_n hx hb dX12_entries_0 rfl (lv_at hl 0 rfl) ?_
  refine lv_iconst (v := (0 : Int32)) hx hb dX12_entries_1 (by decide) ?_
  refine pM0_66 (v := (0 : Int32)) C hI hK hP hS w1433 dX12_entries_2 (fun H locs hP hS => ?_)
  have hP : va_P D vwCl (GM cy ad mt mc mb mo ms mk my mu ma me mr (mp.1, (0 : Int32)) mg mw mf ml mq) H := hP
  refine lv_iconst (v := (1 : Int32)) hx hb dX12_entries_5 (by decide) ?_
  refine lv_istore_n (lv' := [(2, .int (1 : Int32)), (0, .ref (ad 0)), (1, .int v1)]) hx hb dX12_entries_6 rfl hl (by decide) rfl (fun ls hl => ?_)
  refine lv_iconst (v := (1 : Int32)) hx hb dX12_entries_7 (by decide) ?_
  refine lv_istore_n (lv' := [(3, .int (1 : Int32)), (2, .int (1 : Int32)), (0, .ref (ad 0)), (1, .int v1)]) hx hb dX12_entries_8 rfl hl (by decide) rfl (fun ls hl => ?_)
  exact bX12_entries_9 C hI hK hN FU h (lv_sub hl [2, 3, 1, 0] rfl) hP hS
theorem kX12_entries (hI : Apart ad 71) {v1 : Int32} {q : Tmc × Tmu × Tme × Tmr × Tmp} (h : X12_entries mc mb ms mu ma me mr mp v1 = some q) : Met l yX12_entries (.code yX12_entries cX12_entries 7 none :: WA) ({ frames := 5, cells := 0, slots := 0, locals := 127 } : Room) (va_Pc [.ref (ad 0), .int v1] (PR D cy (GM cy ad mt mc mb mo ms mk my mu ma me mr mp mg mw mf ml mq))) (QR none D (GM cy ad mt q.1 mb mo ms mk my q.2.1 ma q.2.2.1 q.2.2.2.1 q.2.2.2.2 mg mw mf ml mq) (Ac ad 71)) 0 0 (Ac ad 71) :=
  met_of (by decide) (Nat.le_of_ble_eq_true rfl) (fun p e s m below meth c ls C hP hK hN hl => bX12_entries_0 C hI hK hN h hl hP va_S.rf)
def X12_resolves_95 (mb : Tmb) (mu : Tmu) (k27 : Tmc → Tme → Tmr → Int32 → Int32 → Int32 → Option (Tmc × Tme × Tmr)) (k48 : Tmc → Tme → Tmr → Int32 → Int32 → Int32 → Int32 → Int32 → Option (Tmc × Tme × Tmr)) (mc : Tmc) (me : Tme) (mr : Tmr) (v1 : Int32) (v2 : Int32) (v3 : Int32) (v4 : Int32) (v5 : Int32) : Option (Tmc × Tme × Tmr) := k48 mc me mr v1 v2 v3 v4 (v5 + (1 : Int32))
set_option maxRecDepth 20000 in
theorem bX12_resolves_95 (C : Cx p s m args meth c cX12_resolves 6 none RX12 (.code yX12_resolves cX12_resolves 6 none)) (hI : Apart ad 71) (hK : va_K D vwCl (tysX cy) s) (hN : NW s) {k27 : Tmc → Tme → Tmr → Int32 → Int32 → Int32 → Option (Tmc × Tme × Tmr)} {k48 : Tmc → Tme → Tmr → Int32 → Int32 → Int32 → Int32 → Int32 → Option (Tmc × Tme × Tmr)} {q : Tmc × Tme × Tmr} (hk27 : ∀ {mc : Tmc} {me : Tme} {mr : Tmr} {v1 : Int32} {v2 : Int32} {v3 : Int32}, k27 mc me mr v1 v2 v3 = some q → ∀ {ls : Array Slot}, lv_has ls 6 [(0, .ref (ad 0)), (1, .int v1), (2, .int v2), (3, .int v3)] → ∀ {H : Heap} {locs : List Loc}, va_P D vwCl (GM cy ad mt mc mb mo ms mk my mu ma me mr mp mg mw mf ml mq) H → va_S (Ac ad 71) s.heap H locs → W p l e ({ frames := 1, cells := 0, slots := 0, locals := 22 } : Room) s m args below meth c H locs 0 0 (MQ below (QR none D (GM cy ad mt q.1 mb mo ms mk my mu ma q.2.1 q.2.2 mp mg mw mf ml mq) (Ac ad 71)) args s 0 0 (Ac ad 71)) (F0 m 27 ls [])) (hk48 : ∀ {mc : Tmc} {me : Tme} {mr : Tmr} {v1 : Int32} {v2 : Int32} {v3 : Int32} {v4 : Int32} {v5 : Int32}, k48 mc me mr v1 v2 v3 v4 v5 = some q → ∀ {ls : Array Slot}, lv_has ls 6 [(0, .ref (ad 0)), (1, .int v1), (2, .int v2), (3, .int v3), (4, .int v4), (5, .int v5)] → ∀ {H : Heap} {locs : List Loc}, va_P D vwCl (GM cy ad mt mc mb mo ms mk my mu ma me mr mp mg mw mf ml mq) H → va_S (Ac ad 71) s.heap H locs → W p l e ({ frames := 1, cells := 0, slots := 0, locals := 22 } : Room) s m args below meth c H locs 0 0 (MQ below (QR none D (GM cy ad mt q.1 mb mo ms mk my mu ma q.2.1 q.2.2 mp mg mw mf ml mq) (Ac ad 71)) args s 0 0 (Ac ad 71)) (F0 m 48 ls [])) {v1 : Int32} {v2 : Int32} {v3 : Int32} {v4 : Int32} {v5 : Int32} (h : X12_resolves_95 mb mu k27 k48 mc me mr v1 v2 v3 v4 v5 = some q) {ls : Array Slot} (hl : lv_has ls 6 [(0, .ref (ad 0)), (1, .int v1), (2, .int v2), (3, .int v3), (4, .int v4), (5, .int v5)]) {H : Heap} {locs : List Loc} (hP : va_P D vwCl (GM cy ad mt mc mb mo ms mk my mu ma me mr mp mg mw mf ml mq) H) (hS : va_S (Ac ad 71) s.heap H locs) : W p l e ({ frames := 1, cells := 0, slots := 0, locals := 22 } : Room) s m args below meth c H locs 0 0 (MQ below (QR none D (GM cy ad mt q.1 mb mo ms mk my mu ma q.2.1 q.2.2 mp mg mw mf ml mq) (Ac ad 71)) args s 0 0 (Ac ad 71)) (F0 m 95 ls []) := by
  obtain ⟨hx, hb, hml, hown, hts, hr, hlk⟩ := id C
  unfold X12_resolves_95 at h
  refine lv_iinc (v := (v5 + (1 : Int32))) (lv' := [(5, .int (v5 + (1 : Int32))), (0, .ref (ad 0)), (1, .int v1), (2, .int v2), (3, .int v3), (4, .int v4)]) hx hb dX12_resolves_95 hl (k := 5) rfl rfl (by decide) rfl (fun ls hl => ?_)
  refine lv_goto (tgt := 48) hx hb dX12_resolves_98 (by decide) ?_
  exact hk48 h (lv_sub hl [1, 2, 3, 4, 5, 0] rfl) hP hS
def X12_resolves_48b (mb : Tmb) (mu : Tmu) (k27 : Tmc → Tme → Tmr → Int32 → Int32 → Int32 → Option (Tmc × Tme × Tmr)) (k48 : Tmc → Tme → Tmr → Int32 → Int32 → Int32 → Int32 → Int32 → Option (Tmc × Tme × Tmr)) (mc : Tmc) (me : Tme) (mr : Tmr) (v1 : Int32) (v2 : Int32) (v3 : Int32) (v4 : Int32) (v5 : Int32) : Option (Tmc × Tme × Tmr) := (if inb mb.2.1 2 = true then (if v5 < (me.1 (mb.2.1).toNatClampNeg) then (if inb (((400 : Int32) * mb.2.1) + v5) 800 = true then (if inb v3 2001 = true then (if ((((me.2.2.2.2.2.1 ((((400 : Int32) * mb.2.1) + v5)).toNatClampNeg) - v1)).toInt64) = (mr.2.2.1 (v3).toNatClampNeg) then X12_resolves_95 mb mu k27 k48 mc me mr v1 v2 v3 v5 v5 else X12_resolves_95 mb mu k27 k48 mc me mr v1 v2 v3 v4 v5) else none) else none) else (if v4 = (-1 : Int32) then (if inb v3 2001 = true then (letq (X12_fail mc (3 : Int32) (mr.2.1 (v3).toNatClampNeg)) fun q6 => some (q6, me, mr)) else none) else (if inb v3 2001 = true then k27 mc me (mr.1, mr.2.1, (vp_updL mr.2.2.1 (v3).toNatClampNeg ((v4).toInt64)), mr.2.2.2.1, mr.2.2.2.2) v1 v2 (v3 + (1 : Int32)) else none))) else none)
def X12_resolves_48 (mb : Tmb) (mu : Tmu) (k27 : Tmc → Tme → Tmr → Int32 → Int32 → Int32 → Option (Tmc × Tme × Tmr)) (n : Nat) (st : Tmc × Tme × Tmr × Int32 × Int32 × Int32 × Int32 × Int32) : Option (Tmc × Tme × Tmr) := lp (fun rec st => X12_resolves_48b mb mu k27 (fun a0 a1 a2 a3 a4 a5 a6 a7 => rec (a0, a1, a2, a3, a4, a5, a6, a7)) st.1 st.2.1 st.2.2.1 st.2.2.2.1 st.2.2.2.2.1 st.2.2.2.2.2.1 st.2.2.2.2.2.2.1 st.2.2.2.2.2.2.2) n st
set_option maxRecDepth 20000 in
theorem bX12_resolves_48 (C : Cx p s m args meth c cX12_resolves 6 none RX12 (.code yX12_resolves cX12_resolves 6 none)) (hI : Apart ad 71) (hK : va_K D vwCl (tysX cy) s) (hN : NW s) {k27 : Tmc → Tme → Tmr → Int32 → Int32 → Int32 → Option (Tmc × Tme × Tmr)} {q : Tmc × Tme × Tmr} (hk27 : ∀ {mc : Tmc} {me : Tme} {mr : Tmr} {v1 : Int32} {v2 : Int32} {v3 : Int32}, k27 mc me mr v1 v2 v3 = some q → ∀ {ls : Array Slot}, lv_has ls 6 [(0, .ref (ad 0)), (1, .int v1), (2, .int v2), (3, .int v3)] → ∀ {H : Heap} {locs : List Loc}, va_P D vwCl (GM cy ad mt mc mb mo ms mk my mu ma me mr mp mg mw mf ml mq) H → va_S (Ac ad 71) s.heap H locs → W p l e ({ frames := 1, cells := 0, slots := 0, locals := 22 } : Room) s m args below meth c H locs 0 0 (MQ below (QR none D (GM cy ad mt q.1 mb mo ms mk my mu ma q.2.1 q.2.2 mp mg mw mf ml mq) (Ac ad 71)) args s 0 0 (Ac ad 71)) (F0 m 27 ls [])) : ∀ (n : Nat) {mc : Tmc} {me : Tme} {mr : Tmr} {v1 : Int32} {v2 : Int32} {v3 : Int32} {v4 : Int32} {v5 : Int32}, X12_resolves_48 mb mu k27 n (mc, me, mr, v1, v2, v3, v4, v5) = some q → ∀ {ls : Array Slot}, lv_has ls 6 [(0, .ref (ad 0)), (1, .int v1), (2, .int v2), (3, .int v3), (4, .int v4), (5, .int v5)] → ∀ {H : Heap} {locs : List Loc}, va_P D vwCl (GM cy ad mt mc mb mo ms mk my mu ma me mr mp mg mw mf ml mq) H → va_S (Ac ad 71) s.heap H locs → W p l e ({ frames := 1, cells := 0, slots := 0, locals := 22 } : Room) s m args below meth c H locs 0 0 (MQ below (QR none D (GM cy ad mt q.1 mb mo ms mk my mu ma q.2.1 q.2.2 mp mg mw mf ml mq) (Ac ad 71)) args s 0 0 (Ac ad 71)) (F0 m 48 ls []) := by
  obtain ⟨hx, hb, hml, hown, hts, hr, hlk⟩ := id C
  intro n
  induction n with
  | zero =>
    intro mc me mr v1 v2 v3 v4 v5 h ls hl H locs hP hS
    have h : (none : Option (Tmc × Tme × Tmr)) = some q := h
    cases h
  | succ n ih =>
    intro mc me mr v1 v2 v3 v4 v5 h ls hl H locs hP hS
    have h : X12_resolves_48b mb mu k27 (fun a0 a1 a2 a3 a4 a5 a6 a7 => X12_resolves_48 mb mu k27 n (a0, a1, a2, a3, a4, a5, a6, a7)) mc me mr v1 v2 v3 v4 v5 = some q := h
    unfold X12_resolves_48b at h
    refine lv_iload hx hb dX12_resolves_48 (lv_at hl 5 rfl) ?_
    refine lv_aload_n hx hb dX12_resolves_50 rfl (lv_at hl 0 rfl) ?_
    refine gM0_13 C hK hP w1380 dX12_resolves_51 ?_
    refine lv_aload_n hx hb dX12_resolves_54 rfl (lv_at hl 0 rfl) ?_
    refine gM0_6 (v := mb.2.1) C hK hP rfl w1373 dX12_resolves_55 ?_
    obtain ⟨n1, h⟩ := grd h
    refine aM6 (f := me.1) C hK hP rfl n1 dX12_resolves_58 ?_
    refine b_icmp_ge (tgt := 101) hx hb dX12_resolves_59 (by decide) (fun c2 => ?_) (fun c2 => ?_)
    · rw [if_neg c2] at h
      refine lv_iload hx hb dX12_resolves_101 (lv_at hl 4 rfl) ?_
      refine lv_iconst (v := (-1 : Int32)) hx hb dX12_resolves_103 (by decide) ?_
      refine lv_icmp_ne (tgt := 119) hx hb dX12_resolves_104 (by decide) (fun c3 => ?_) (fun c3 => ?_)
      · rw [if_neg c3] at h
        refine lv_aload_n hx hb dX12_resolves_119 rfl (lv_at hl 0 rfl) ?_
        refine gM0_62 C hK hP w1429 dX12_resolves_120 ?_
        refine lv_iload_n hx hb dX12_resolves_123 rfl (lv_at hl 3 rfl) ?_
        refine lv_iload hx hb dX12_resolves_124 (lv_at hl 4 rfl) ?_
        refine lv_i2l (v := ((v4).toInt64)) hx hb dX12_resolves_126 rfl ?_
        obtain ⟨n4, h⟩ := grd h
        refine sM53 (f := mr.2.2.1) C hI hK hP hS rfl n4 dX12_resolves_127 (fun H locs hP hS => ?_)
        have hP : va_P D vwCl (GM cy ad mt mc mb mo ms mk my mu ma me (mr.1, mr.2.1, (vp_updL mr.2.2.1 (v3).toNatClampNeg ((v4).toInt64)), mr.2.2.2.1, mr.2.2.2.2) mp mg mw mf ml mq) H := hP
        refine lv_iinc (v := (v3 + (1 : Int32))) (lv' := [(3, .int (v3 + (1 : Int32))), (0, .ref (ad 0)), (1, .int v1), (2, .int v2), (4, .int v4), (5, .int v5)]) hx hb dX12_resolves_128 hl (k := 3) rfl rfl (by decide) rfl (fun ls hl => ?_)
        refine lv_goto (tgt := 27) hx hb dX12_resolves_131 (by decide) ?_
        exact hk27 h (lv_sub hl [1, 2, 3, 0] rfl) hP hS
      · rw [if_pos c3] at h
        refine lv_aload_n hx hb dX12_resolves_107 rfl (lv_at hl 0 rfl) ?_
        refine lv_iconst (v := (3 : Int32)) hx hb dX12_resolves_108 (by decide) ?_
        refine lv_aload_n hx hb dX12_resolves_109 rfl (lv_at hl 0 rfl) ?_
        refine gM0_61 C hK hP w1428 dX12_resolves_110 ?_
        refine lv_iload_n hx hb dX12_resolves_113 rfl (lv_at hl 3 rfl) ?_
        obtain ⟨n5, h⟩ := grd h
        refine aM52 (f := mr.2.1) C hK hP rfl n5 dX12_resolves_114 ?_
        obtain ⟨q6, h7, h⟩ := lets h
        refine cRv (run_V (rest := []) C (kX12_fail hI h7) caX12_fail w1678 ⟨rfl, rfl, Nat.le_of_ble_eq_true rfl, Nat.le_of_ble_eq_true rfl⟩ hK hN hP (rM0 hK hP) rfl hl.1 rfl (Nat.le_of_ble_eq_true rfl) dX12_resolves_115 ⟨Nat.zero_le _, Nat.zero_le _⟩) hS (fun H locs hP hS => ?_)
        have hP : va_P D vwCl (GM cy ad mt q6 mb mo ms mk my mu ma me mr mp mg mw mf ml mq) H := hP
        obtain rfl := Option.some.inj h
        exact W.vret hx hb hr (fun t ht _ => ⟨rfl, by rw [ht]; exact hP, hS.F ht⟩) hS.2.2 dX12_resolves_118 hlk
    · rw [if_pos c2] at h
      refine lv_aload_n hx hb dX12_resolves_62 rfl (lv_at hl 0 rfl) ?_
      refine gM0_46 C hK hP w1413 dX12_resolves_63 ?_
      refine lv_sipush (v := (400 : Int32)) hx hb dX12_resolves_66 (by decide) ?_
      refine lv_aload_n hx hb dX12_resolves_69 rfl (lv_at hl 0 rfl) ?_
      refine gM0_6 (v := mb.2.1) C hK hP rfl w1373 dX12_resolves_70 ?_
      refine lv_imul hx hb dX12_resolves_73 ?_
      refine lv_iload hx hb dX12_resolves_74 (lv_at hl 5 rfl) ?_
      refine lv_iadd hx hb dX12_resolves_76 ?_
      obtain ⟨n8, h⟩ := grd h
      refine aM38 (f := me.2.2.2.2.2.1) C hK hP rfl n8 dX12_resolves_77 ?_
      refine lv_iload_n hx hb dX12_resolves_78 rfl (lv_at hl 1 rfl) ?_
      refine lv_isub hx hb dX12_resolves_79 ?_
      refine lv_i2l (v := ((((me.2.2.2.2.2.1 ((((400 : Int32) * mb.2.1) + v5)).toNatClampNeg) - v1)).toInt64)) hx hb dX12_resolves_80 rfl ?_
      refine lv_aload_n hx hb dX12_resolves_81 rfl (lv_at hl 0 rfl) ?_
      refine gM0_62 C hK hP w1429 dX12_resolves_82 ?_
      refine lv_iload_n hx hb dX12_resolves_85 rfl (lv_at hl 3 rfl) ?_
      obtain ⟨n9, h⟩ := grd h
      refine aM53 (f := mr.2.2.1) C hK hP rfl n9 dX12_resolves_86 ?_
      refine lc_ne (tgt := 95) hx hb dX12_resolves_87 dX12_resolves_88 (by decide) (fun c10 => ?_) (fun c10 => ?_)
      · rw [if_neg c10] at h
        exact bX12_resolves_95 C hI hK hN @hk27 @ih h (lv_sub hl [0, 1, 2, 3, 4, 5] rfl) hP hS
      · rw [if_pos c10] at h
        refine lv_iload hx hb dX12_resolves_91 (lv_at hl 5 rfl) ?_
        refine lv_istore (lv' := [(4, .int v5), (0, .ref (ad 0)), (1, .int v1), (2, .int v2), (3, .int v3), (5, .int v5)]) hx hb dX12_resolves_93 hl (by decide) rfl (fun ls hl => ?_)
        exact bX12_resolves_95 C hI hK hN @hk27 @ih h (lv_sub hl [1, 2, 3, 4, 0, 5] rfl) hP hS
def X12_resolves_200 (mb : Tmb) (mu : Tmu) (k136 : Tmc → Tme → Tmr → Int32 → Option (Tmc × Tme × Tmr)) (k148 : Tmc → Tme → Tmr → Int32 → Int32 → Option (Tmc × Tme × Tmr)) (mc : Tmc) (me : Tme) (mr : Tmr) (v3 : Int32) (v4 : Int32) : Option (Tmc × Tme × Tmr) := k148 mc me mr v3 (v4 + (-1 : Int32))
set_option maxRecDepth 20000 in
theorem bX12_resolves_200 (C : Cx p s m args meth c cX12_resolves 6 none RX12 (.code yX12_resolves cX12_resolves 6 none)) (hI : Apart ad 71) (hK : va_K D vwCl (tysX cy) s) (hN : NW s) {k136 : Tmc → Tme → Tmr → Int32 → Option (Tmc × Tme × Tmr)} {k148 : Tmc → Tme → Tmr → Int32 → Int32 → Option (Tmc × Tme × Tmr)} {q : Tmc × Tme × Tmr} (hk136 : ∀ {mc : Tmc} {me : Tme} {mr : Tmr} {v3 : Int32}, k136 mc me mr v3 = some q → ∀ {ls : Array Slot}, lv_has ls 6 [(0, .ref (ad 0)), (3, .int v3)] → ∀ {H : Heap} {locs : List Loc}, va_P D vwCl (GM cy ad mt mc mb mo ms mk my mu ma me mr mp mg mw mf ml mq) H → va_S (Ac ad 71) s.heap H locs → W p l e ({ frames := 1, cells := 0, slots := 0, locals := 22 } : Room) s m args below meth c H locs 0 0 (MQ below (QR none D (GM cy ad mt q.1 mb mo ms mk my mu ma q.2.1 q.2.2 mp mg mw mf ml mq) (Ac ad 71)) args s 0 0 (Ac ad 71)) (F0 m 136 ls [])) (hk148 : ∀ {mc : Tmc} {me : Tme} {mr : Tmr} {v3 : Int32} {v4 : Int32}, k148 mc me mr v3 v4 = some q → ∀ {ls : Array Slot}, lv_has ls 6 [(0, .ref (ad 0)), (3, .int v3), (4, .int v4)] → ∀ {H : Heap} {locs : List Loc}, va_P D vwCl (GM cy ad mt mc mb mo ms mk my mu ma me mr mp mg mw mf ml mq) H → va_S (Ac ad 71) s.heap H locs → W p l e ({ frames := 1, cells := 0, slots := 0, locals := 22 } : Room) s m args below meth c H locs 0 0 (MQ below (QR none D (GM cy ad mt q.1 mb mo ms mk my mu ma q.2.1 q.2.2 mp mg mw mf ml mq) (Ac ad 71)) args s 0 0 (Ac ad 71)) (F0 m 148 ls [])) {v3 : Int32} {v4 : Int32} (h : X12_resolves_200 mb mu k136 k148 mc me mr v3 v4 = some q) {ls : Array Slot} (hl : lv_has ls 6 [(0, .ref (ad 0)), (3, .int v3), (4, .int v4)]) {H : Heap} {locs : List Loc} (hP : va_P D vwCl (GM cy ad mt mc mb mo ms mk my mu ma me mr mp mg mw mf ml mq) H) (hS : va_S (Ac ad 71) s.heap H locs) : W p l e ({ frames := 1, cells := 0, slots := 0, locals := 22 } : Room) s m args below meth c H locs 0 0 (MQ below (QR none D (GM cy ad mt q.1 mb mo ms mk my mu ma q.2.1 q.2.2 mp mg mw mf ml mq) (Ac ad 71)) args s 0 0 (Ac ad 71)) (F0 m 200 ls []) := by
  obtain ⟨hx, hb, hml, hown, hts, hr, hlk⟩ := id C
  unfold X12_resolves_200 at h
  refine lv_iinc (v := (v4 + (-1 : Int32))) (lv' := [(4, .int (v4 + (-1 : Int32))), (0, .ref (ad 0)), (3, .int v3)]) hx hb dX12_resolves_200 hl (k := 2) rfl rfl (by decide) rfl (fun ls hl => ?_)
  refine lv_goto (tgt := 148) hx hb dX12_resolves_203 (by decide) ?_
  exact hk148 h (lv_sub hl [1, 2, 0] rfl) hP hS
def X12_resolves_206 (mb : Tmb) (mu : Tmu) (k136 : Tmc → Tme → Tmr → Int32 → Option (Tmc × Tme × Tmr)) (mc : Tmc) (me : Tme) (mr : Tmr) (v3 : Int32) : Option (Tmc × Tme × Tmr) := k136 mc me mr (v3 + (-1 : Int32))
set_option maxRecDepth 20000 in
theorem bX12_resolves_206 (C : Cx p s m args meth c cX12_resolves 6 none RX12 (.code yX12_resolves cX12_resolves 6 none)) (hI : Apart ad 71) (hK : va_K D vwCl (tysX cy) s) (hN : NW s) {k136 : Tmc → Tme → Tmr → Int32 → Option (Tmc × Tme × Tmr)} {q : Tmc × Tme × Tmr} (hk136 : ∀ {mc : Tmc} {me : Tme} {mr : Tmr} {v3 : Int32}, k136 mc me mr v3 = some q → ∀ {ls : Array Slot}, lv_has ls 6 [(0, .ref (ad 0)), (3, .int v3)] → ∀ {H : Heap} {locs : List Loc}, va_P D vwCl (GM cy ad mt mc mb mo ms mk my mu ma me mr mp mg mw mf ml mq) H → va_S (Ac ad 71) s.heap H locs → W p l e ({ frames := 1, cells := 0, slots := 0, locals := 22 } : Room) s m args below meth c H locs 0 0 (MQ below (QR none D (GM cy ad mt q.1 mb mo ms mk my mu ma q.2.1 q.2.2 mp mg mw mf ml mq) (Ac ad 71)) args s 0 0 (Ac ad 71)) (F0 m 136 ls [])) {v3 : Int32} (h : X12_resolves_206 mb mu k136 mc me mr v3 = some q) {ls : Array Slot} (hl : lv_has ls 6 [(0, .ref (ad 0)), (3, .int v3)]) {H : Heap} {locs : List Loc} (hP : va_P D vwCl (GM cy ad mt mc mb mo ms mk my mu ma me mr mp mg mw mf ml mq) H) (hS : va_S (Ac ad 71) s.heap H locs) : W p l e ({ frames := 1, cells := 0, slots := 0, locals := 22 } : Room) s m args below meth c H locs 0 0 (MQ below (QR none D (GM cy ad mt q.1 mb mo ms mk my mu ma q.2.1 q.2.2 mp mg mw mf ml mq) (Ac ad 71)) args s 0 0 (Ac ad 71)) (F0 m 206 ls []) := by
  obtain ⟨hx, hb, hml, hown, hts, hr, hlk⟩ := id C
  unfold X12_resolves_206 at h
  refine lv_iinc (v := (v3 + (-1 : Int32))) (lv' := [(3, .int (v3 + (-1 : Int32))), (0, .ref (ad 0))]) hx hb dX12_resolves_206 hl (k := 1) rfl rfl (by decide) rfl (fun ls hl => ?_)
  refine lv_goto (tgt := 136) hx hb dX12_resolves_209 (by decide) ?_
  exact hk136 h (lv_sub hl [1, 0] rfl) hP hS
def X12_resolves_148b (mb : Tmb) (mu : Tmu) (k136 : Tmc → Tme → Tmr → Int32 → Option (Tmc × Tme × Tmr)) (k148 : Tmc → Tme → Tmr → Int32 → Int32 → Option (Tmc × Tme × Tmr)) (mc : Tmc) (me : Tme) (mr : Tmr) (v3 : Int32) (v4 : Int32) : Option (Tmc × Tme × Tmr) := (if v4 < 0 then X12_resolves_206 mb mu k136 mc me mr v3 else (if (X12_isRight mc) = 0 then X12_resolves_206 mb mu k136 mc me mr v3 else (if inb v4 2001 = true then (if (mr.2.2.2.2 (v4).toNatClampNeg) = v3 then (if inb v4 2001 = true then (if inb v4 2001 = true then (if inb (((400 : Int32) * mb.2.1) + (mr.2.2.2.1 (v4).toNatClampNeg)) 800 = true then X12_resolves_200 mb mu k136 k148 mc (me.1, me.2.1, me.2.2.1, me.2.2.2.1, (upd me.2.2.2.2.1 ((((400 : Int32) * mb.2.1) + (mr.2.2.2.1 (v4).toNatClampNeg))).toNatClampNeg (((mr.2.2.1 (v4).toNatClampNeg)).toInt32)), me.2.2.2.2.2.1, me.2.2.2.2.2.2.1, me.2.2.2.2.2.2.2.1, me.2.2.2.2.2.2.2.2.1, me.2.2.2.2.2.2.2.2.2.1, me.2.2.2.2.2.2.2.2.2.2.1, me.2.2.2.2.2.2.2.2.2.2.2.1, me.2.2.2.2.2.2.2.2.2.2.2.2.1, me.2.2.2.2.2.2.2.2.2.2.2.2.2.1, me.2.2.2.2.2.2.2.2.2.2.2.2.2.2.1, me.2.2.2.2.2.2.2.2.2.2.2.2.2.2.2.1, me.2.2.2.2.2.2.2.2.2.2.2.2.2.2.2.2.1, me.2.2.2.2.2.2.2.2.2.2.2.2.2.2.2.2.2.1, me.2.2.2.2.2.2.2.2.2.2.2.2.2.2.2.2.2.2) mr v3 v4 else none) else none) else none) else X12_resolves_200 mb mu k136 k148 mc me mr v3 v4) else none)))
def X12_resolves_148 (mb : Tmb) (mu : Tmu) (k136 : Tmc → Tme → Tmr → Int32 → Option (Tmc × Tme × Tmr)) (n : Nat) (st : Tmc × Tme × Tmr × Int32 × Int32) : Option (Tmc × Tme × Tmr) := lp (fun rec st => X12_resolves_148b mb mu k136 (fun a0 a1 a2 a3 a4 => rec (a0, a1, a2, a3, a4)) st.1 st.2.1 st.2.2.1 st.2.2.2.1 st.2.2.2.2) n st
set_option maxRecDepth 20000 in
theorem bX12_resolves_148 (C : Cx p s m args meth c cX12_resolves 6 none RX12 (.code yX12_resolves cX12_resolves 6 none)) (hI : Apart ad 71) (hK : va_K D vwCl (tysX cy) s) (hN : NW s) {k136 : Tmc → Tme → Tmr → Int32 → Option (Tmc × Tme × Tmr)} {q : Tmc × Tme × Tmr} (hk136 : ∀ {mc : Tmc} {me : Tme} {mr : Tmr} {v3 : Int32}, k136 mc me mr v3 = some q → ∀ {ls : Array Slot}, lv_has ls 6 [(0, .ref (ad 0)), (3, .int v3)] → ∀ {H : Heap} {locs : List Loc}, va_P D vwCl (GM cy ad mt mc mb mo ms mk my mu ma me mr mp mg mw mf ml mq) H → va_S (Ac ad 71) s.heap H locs → W p l e ({ frames := 1, cells := 0, slots := 0, locals := 22 } : Room) s m args below meth c H locs 0 0 (MQ below (QR none D (GM cy ad mt q.1 mb mo ms mk my mu ma q.2.1 q.2.2 mp mg mw mf ml mq) (Ac ad 71)) args s 0 0 (Ac ad 71)) (F0 m 136 ls [])) : ∀ (n : Nat) {mc : Tmc} {me : Tme} {mr : Tmr} {v3 : Int32} {v4 : Int32}, X12_resolves_148 mb mu k136 n (mc, me, mr, v3, v4) = some q → ∀ {ls : Array Slot}, lv_has ls 6 [(0, .ref (ad 0)), (3, .int v3), (4, .int v4)] → ∀ {H : Heap} {locs : List Loc}, va_P D vwCl (GM cy ad mt mc mb mo ms mk my mu ma me mr mp mg mw mf ml mq) H → va_S (Ac ad 71) s.heap H locs → W p l e ({ frames := 1, cells := 0, slots := 0, locals := 22 } : Room) s m args below meth c H locs 0 0 (MQ below (QR none D (GM cy ad mt q.1 mb mo ms mk my mu ma q.2.1 q.2.2 mp mg mw mf ml mq) (Ac ad 71)) args s 0 0 (Ac ad 71)) (F0 m 148 ls []) := by
  obtain ⟨hx, hb, hml, hown, hts, hr, hlk⟩ := id C
  intro n
  induction n with
  | zero =>
    intro mc me mr v3 v4 h ls hl H locs hP hS
    have h : (none : Option (Tmc × Tme × Tmr)) = some q := h
    cases h
  | succ n ih =>
    intro mc me mr v3 v4 h ls hl H locs hP hS
    have h : X12_resolves_148b mb mu k136 (fun a0 a1 a2 a3 a4 => X12_resolves_148 mb mu k136 n (a0, a1, a2, a3, a4)) mc me mr v3 v4 = some q := h
    unfold X12_resolves_148b at h
    refine lv_iload hx hb dX12_resolves_148 (lv_at hl 2 rfl) ?_
    refine lv_if_lt (tgt := 206) hx hb dX12_resolves_150 (by decide) (fun c1 => ?_) (fun c1 => ?_)
    · rw [if_pos c1] at h
      exact bX12_resolves_206 C hI hK hN @hk136 h (lv_sub hl [0, 1] rfl) hP hS
    · rw [if_neg c1] at h
      refine lv_aload_n hx hb dX12_resolves_153 rfl (lv_at hl 0 rfl) ?_
      refine cPi (run_V (rest := []) C (kX12_isRight rfl) caX12_isRight w1682 ⟨rfl, rfl, Nat.le_of_ble_eq_true rfl, Nat.le_of_ble_eq_true rfl⟩ hK hN hP (rM0 hK hP) rfl hl.1 rfl (Nat.le_of_ble_eq_true rfl) dX12_resolves_154 ⟨Nat.zero_le _, Nat.zero_le _⟩) ?_
      refine lv_if_eq (tgt := 206) hx hb dX12_resolves_157 (by decide) (fun c2 => ?_) (fun c2 => ?_)
      · rw [if_pos c2] at h
        exact bX12_resolves_206 C hI hK hN @hk136 h (lv_sub hl [0, 1] rfl) hP hS
      · rw [if_neg c2] at h
        refine lv_aload_n hx hb dX12_resolves_160 rfl (lv_at hl 0 rfl) ?_
        refine gM0_64 C hK hP w1431 dX12_resolves_161 ?_
        refine lv_iload hx hb dX12_resolves_164 (lv_at hl 2 rfl) ?_
        obtain ⟨n3, h⟩ := grd h
        refine aM55 (f := mr.2.2.2.2) C hK hP rfl n3 dX12_resolves_166 ?_
        refine lv_iload_n hx hb dX12_resolves_167 rfl (lv_at hl 1 rfl) ?_
        refine lv_icmp_ne (tgt := 200) hx hb dX12_resolves_168 (by decide) (fun c4 => ?_) (fun c4 => ?_)
        · rw [if_neg c4] at h
          exact bX12_resolves_200 C hI hK hN @hk136 @ih h (lv_sub hl [0, 1, 2] rfl) hP hS
        · rw [if_pos c4] at h
          refine lv_aload_n hx hb dX12_resolves_171 rfl (lv_at hl 0 rfl) ?_
          refine gM0_45 C hK hP w1412 dX12_resolves_172 ?_
          refine lv_sipush (v := (400 : Int32)) hx hb dX12_resolves_175 (by decide) ?_
          refine lv_aload_n hx hb dX12_resolves_178 rfl (lv_at hl 0 rfl) ?_
          refine gM0_6 (v := mb.2.1) C hK hP rfl w1373 dX12_resolves_179 ?_
          refine lv_imul hx hb dX12_resolves_182 ?_
          refine lv_aload_n hx hb dX12_resolves_183 rfl (lv_at hl 0 rfl) ?_
          refine gM0_63 C hK hP w1430 dX12_resolves_184 ?_
          refine lv_iload hx hb dX12_resolves_187 (lv_at hl 2 rfl) ?_
          obtain ⟨n5, h⟩ := grd h
          refine aM54 (f := mr.2.2.2.1) C hK hP rfl n5 dX12_resolves_189 ?_
          refine lv_iadd hx hb dX12_resolves_190 ?_
          refine lv_aload_n hx hb dX12_resolves_191 rfl (lv_at hl 0 rfl) ?_
          refine gM0_62 C hK hP w1429 dX12_resolves_192 ?_
          refine lv_iload hx hb dX12_resolves_195 (lv_at hl 2 rfl) ?_
          obtain ⟨n6, h⟩ := grd h
          refine aM53 (f := mr.2.2.1) C hK hP rfl n6 dX12_resolves_197 ?_
          refine lv_l2i (v := (((mr.2.2.1 (v4).toNatClampNeg)).toInt32)) hx hb dX12_resolves_198 rfl ?_
          obtain ⟨n7, h⟩ := grd h
          refine sM37 (f := me.2.2.2.2.1) C hI hK hP hS rfl n7 dX12_resolves_199 (fun H locs hP hS => ?_)
          have hP : va_P D vwCl (GM cy ad mt mc mb mo ms mk my mu ma (me.1, me.2.1, me.2.2.1, me.2.2.2.1, (upd me.2.2.2.2.1 ((((400 : Int32) * mb.2.1) + (mr.2.2.2.1 (v4).toNatClampNeg))).toNatClampNeg (((mr.2.2.1 (v4).toNatClampNeg)).toInt32)), me.2.2.2.2.2.1, me.2.2.2.2.2.2.1, me.2.2.2.2.2.2.2.1, me.2.2.2.2.2.2.2.2.1, me.2.2.2.2.2.2.2.2.2.1, me.2.2.2.2.2.2.2.2.2.2.1, me.2.2.2.2.2.2.2.2.2.2.2.1, me.2.2.2.2.2.2.2.2.2.2.2.2.1, me.2.2.2.2.2.2.2.2.2.2.2.2.2.1, me.2.2.2.2.2.2.2.2.2.2.2.2.2.2.1, me.2.2.2.2.2.2.2.2.2.2.2.2.2.2.2.1, me.2.2.2.2.2.2.2.2.2.2.2.2.2.2.2.2.1, me.2.2.2.2.2.2.2.2.2.2.2.2.2.2.2.2.2.1, me.2.2.2.2.2.2.2.2.2.2.2.2.2.2.2.2.2.2) mr mp mg mw mf ml mq) H := hP
          exact bX12_resolves_200 C hI hK hN @hk136 @ih h (lv_sub hl [0, 1, 2] rfl) hP hS
def X12_resolves_136b (mb : Tmb) (mu : Tmu)  (k136 : Tmc → Tme → Tmr → Int32 → Option (Tmc × Tme × Tmr)) (mc : Tmc) (me : Tme) (mr : Tmr) (v3 : Int32) : Option (Tmc × Tme × Tmr) := (if 0 < v3 then X12_resolves_148 mb mu k136 FU (mc, me, mr, v3, (mr.1 - (1 : Int32))) else some (mc, me, mr))
def X12_resolves_136 (mb : Tmb) (mu : Tmu)  (n : Nat) (st : Tmc × Tme × Tmr × Int32) : Option (Tmc × Tme × Tmr) := lp (fun rec st => X12_resolves_136b mb mu  (fun a0 a1 a2 a3 => rec (a0, a1, a2, a3)) st.1 st.2.1 st.2.2.1 st.2.2.2) n st
set_option maxRecDepth 20000 in
theorem bX12_resolves_136 (C : Cx p s m args meth c cX12_resolves 6 none RX12 (.code yX12_resolves cX12_resolves 6 none)) (hI : Apart ad 71) (hK : va_K D vwCl (tysX cy) s) (hN : NW s)  {q : Tmc × Tme × Tmr}  : ∀ (n : Nat) {mc : Tmc} {me : Tme} {mr : Tmr} {v3 : Int32}, X12_resolves_136 mb mu  n (mc, me, mr, v3) = some q → ∀ {ls : Array Slot}, lv_has ls 6 [(0, .ref (ad 0)), (3, .int v3)] → ∀ {H : Heap} {locs : List Loc}, va_P D vwCl (GM cy ad mt mc mb mo ms mk my mu ma me mr mp mg mw mf ml mq) H → va_S (Ac ad 71) s.heap H locs → W p l e ({ frames := 1, cells := 0, slots := 0, locals := 22 } : Room) s m args below meth c H locs 0 0 (MQ below (QR none D (GM cy ad mt q.1 mb mo ms mk my mu ma q.2.1 q.2.2 mp mg mw mf ml mq) (Ac ad 71)) args s 0 0 (Ac ad 71)) (F0 m 136 ls []) := by
  obtain ⟨hx, hb, hml, hown, hts, hr, hlk⟩ := id C
  intro n
  induction n with
  | zero =>
    intro mc me mr v3 h ls hl H locs hP hS
    have h : (none : Option (Tmc × Tme × Tmr)) = some q := h
    cases h
  | succ n ih =>
    intro mc me mr v3 h ls hl H locs hP hS
    have h : X12_resolves_136b mb mu  (fun a0 a1 a2 a3 => X12_resolves_136 mb mu  n (a0, a1, a2, a3)) mc me mr v3 = some q := h
    unfold X12_resolves_136b at h
    refine lv_iload_n hx hb dX12_resolves_136 rfl (lv_at hl 1 rfl) ?_
    refine b_if_le (tgt := 212) hx hb dX12_resolves_137 (by decide) (fun c1 => ?_) (fun c1 => ?_)
    · rw [if_neg c1] at h
      obtain rfl := Option.some.inj h
      exact W.vret hx hb hr (fun t ht _ => ⟨rfl, by rw [ht]; exact hP, hS.F ht⟩) hS.2.2 dX12_resolves_212 hlk
    · rw [if_pos c1] at h
      refine lv_aload_n hx hb dX12_resolves_140 rfl (lv_at hl 0 rfl) ?_
      refine gM0_60 (v := mr.1) C hK hP rfl w1427 dX12_resolves_141 ?_
      refine lv_iconst (v := (1 : Int32)) hx hb dX12_resolves_144 (by decide) ?_
      refine lv_isub hx hb dX12_resolves_145 ?_
      refine lv_istore (lv' := [(4, .int (mr.1 - (1 : Int32))), (0, .ref (ad 0)), (3, .int v3)]) hx hb dX12_resolves_146 hl (by decide) rfl (fun ls hl => ?_)
      exact bX12_resolves_148 C hI hK hN @ih FU h (lv_sub hl [1, 2, 0] rfl) hP hS
def X12_resolves_134 (mb : Tmb) (mu : Tmu)  (mc : Tmc) (me : Tme) (mr : Tmr)  : Option (Tmc × Tme × Tmr) := X12_resolves_136 mb mu FU (mc, me, mr, (2 : Int32))
set_option maxRecDepth 20000 in
theorem bX12_resolves_134 (C : Cx p s m args meth c cX12_resolves 6 none RX12 (.code yX12_resolves cX12_resolves 6 none)) (hI : Apart ad 71) (hK : va_K D vwCl (tysX cy) s) (hN : NW s)  {q : Tmc × Tme × Tmr}   (h : X12_resolves_134 mb mu mc me mr = some q) {ls : Array Slot} (hl : lv_has ls 6 [(0, .ref (ad 0))]) {H : Heap} {locs : List Loc} (hP : va_P D vwCl (GM cy ad mt mc mb mo ms mk my mu ma me mr mp mg mw mf ml mq) H) (hS : va_S (Ac ad 71) s.heap H locs) : W p l e ({ frames := 1, cells := 0, slots := 0, locals := 22 } : Room) s m args below meth c H locs 0 0 (MQ below (QR none D (GM cy ad mt q.1 mb mo ms mk my mu ma q.2.1 q.2.2 mp mg mw mf ml mq) (Ac ad 71)) args s 0 0 (Ac ad 71)) (F0 m 134 ls []) := by
  obtain ⟨hx, hb, hml, hown, hts, hr, hlk⟩ := id C
  unfold X12_resolves_134 at h
  refine lv_iconst (v := (2 : Int32)) hx hb dX12_resolves_134 (by decide) ?_
  refine lv_istore_n (lv' := [(3, .int (2 : Int32)), (0, .ref (ad 0))]) hx hb dX12_resolves_135 rfl hl (by decide) rfl (fun ls hl => ?_)
  exact bX12_resolves_136 C hI hK hN FU h (lv_sub hl [1, 0] rfl) hP hS
def X12_resolves_27b (mb : Tmb) (mu : Tmu)  (k27 : Tmc → Tme → Tmr → Int32 → Int32 → Int32 → Option (Tmc × Tme × Tmr)) (mc : Tmc) (me : Tme) (mr : Tmr) (v1 : Int32) (v2 : Int32) (v3 : Int32) : Option (Tmc × Tme × Tmr) := (if v3 < mr.1 then (if (X12_isRight mc) = 0 then X12_resolves_134 mb mu mc me mr else X12_resolves_48 mb mu k27 FU (mc, me, mr, v1, v2, v3, (-1 : Int32), v2)) else X12_resolves_134 mb mu mc me mr)
def X12_resolves_27 (mb : Tmb) (mu : Tmu)  (n : Nat) (st : Tmc × Tme × Tmr × Int32 × Int32 × Int32) : Option (Tmc × Tme × Tmr) := lp (fun rec st => X12_resolves_27b mb mu  (fun a0 a1 a2 a3 a4 a5 => rec (a0, a1, a2, a3, a4, a5)) st.1 st.2.1 st.2.2.1 st.2.2.2.1 st.2.2.2.2.1 st.2.2.2.2.2) n st
set_option maxRecDepth 20000 in
theorem bX12_resolves_27 (C : Cx p s m args meth c cX12_resolves 6 none RX12 (.code yX12_resolves cX12_resolves 6 none)) (hI : Apart ad 71) (hK : va_K D vwCl (tysX cy) s) (hN : NW s)  {q : Tmc × Tme × Tmr}  : ∀ (n : Nat) {mc : Tmc} {me : Tme} {mr : Tmr} {v1 : Int32} {v2 : Int32} {v3 : Int32}, X12_resolves_27 mb mu  n (mc, me, mr, v1, v2, v3) = some q → ∀ {ls : Array Slot}, lv_has ls 6 [(0, .ref (ad 0)), (1, .int v1), (2, .int v2), (3, .int v3)] → ∀ {H : Heap} {locs : List Loc}, va_P D vwCl (GM cy ad mt mc mb mo ms mk my mu ma me mr mp mg mw mf ml mq) H → va_S (Ac ad 71) s.heap H locs → W p l e ({ frames := 1, cells := 0, slots := 0, locals := 22 } : Room) s m args below meth c H locs 0 0 (MQ below (QR none D (GM cy ad mt q.1 mb mo ms mk my mu ma q.2.1 q.2.2 mp mg mw mf ml mq) (Ac ad 71)) args s 0 0 (Ac ad 71)) (F0 m 27 ls []) := by
  obtain ⟨hx, hb, hml, hown, hts, hr, hlk⟩ := id C
  intro n
  induction n with
  | zero =>
    intro mc me mr v1 v2 v3 h ls hl H locs hP hS
    have h : (none : Option (Tmc × Tme × Tmr)) = some q := h
    cases h
  | succ n ih =>
    intro mc me mr v1 v2 v3 h ls hl H locs hP hS
    have h : X12_resolves_27b mb mu  (fun a0 a1 a2 a3 a4 a5 => X12_resolves_27 mb mu  n (a0, a1, a2, a3, a4, a5)) mc me mr v1 v2 v3 = some q := h
    unfold X12_resolves_27b at h
    refine lv_iload_n hx hb dX12_resolves_27 rfl (lv_at hl 3 rfl) ?_
    refine lv_aload_n hx hb dX12_resolves_28 rfl (lv_at hl 0 rfl) ?_
    refine gM0_60 (v := mr.1) C hK hP rfl w1427 dX12_resolves_29 ?_
    refine b_icmp_ge (tgt := 134) hx hb dX12_resolves_32 (by decide) (fun c1 => ?_) (fun c1 => ?_)
    · rw [if_neg c1] at h
      exact bX12_resolves_134 C hI hK hN h (lv_sub hl [0] rfl) hP hS
    · rw [if_pos c1] at h
      refine lv_aload_n hx hb dX12_resolves_35 rfl (lv_at hl 0 rfl) ?_
      refine cPi (run_V (rest := []) C (kX12_isRight rfl) caX12_isRight w1682 ⟨rfl, rfl, Nat.le_of_ble_eq_true rfl, Nat.le_of_ble_eq_true rfl⟩ hK hN hP (rM0 hK hP) rfl hl.1 rfl (Nat.le_of_ble_eq_true rfl) dX12_resolves_36 ⟨Nat.zero_le _, Nat.zero_le _⟩) ?_
      refine lv_if_eq (tgt := 134) hx hb dX12_resolves_39 (by decide) (fun c2 => ?_) (fun c2 => ?_)
      · rw [if_pos c2] at h
        exact bX12_resolves_134 C hI hK hN h (lv_sub hl [0] rfl) hP hS
      · rw [if_neg c2] at h
        refine lv_iconst (v := (-1 : Int32)) hx hb dX12_resolves_42 (by decide) ?_
        refine lv_istore (lv' := [(4, .int (-1 : Int32)), (0, .ref (ad 0)), (1, .int v1), (2, .int v2), (3, .int v3)]) hx hb dX12_resolves_43 hl (by decide) rfl (fun ls hl => ?_)
        refine lv_iload_n hx hb dX12_resolves_45 rfl (lv_at hl 3 rfl) ?_
        refine lv_istore (lv' := [(5, .int v2), (4, .int (-1 : Int32)), (0, .ref (ad 0)), (1, .int v1), (2, .int v2), (3, .int v3)]) hx hb dX12_resolves_46 hl (by decide) rfl (fun ls hl => ?_)
        exact bX12_resolves_48 C hI hK hN @ih FU h (lv_sub hl [2, 3, 4, 5, 1, 0] rfl) hP hS
def X12_resolves (mc : Tmc) (mb : Tmb) (mu : Tmu) (me : Tme) (mr : Tmr) (v1 : Int32) : Option (Tmc × Tme × Tmr) := (if inb mb.2.1 2 = true then (if inb ((((20 : Int32) * mb.2.1) + (mu.1 (mb.2.1).toNatClampNeg)) - (1 : Int32)) 40 = true then X12_resolves_27 mb mu FU (mc, me, mr, v1, (mu.2.2.1 (((((20 : Int32) * mb.2.1) + (mu.1 (mb.2.1).toNatClampNeg)) - (1 : Int32))).toNatClampNeg), (0 : Int32)) else none) else none)
set_option maxRecDepth 20000 in
theorem bX12_resolves_0 (C : Cx p s m args meth c cX12_resolves 6 none RX12 (.code yX12_resolves cX12_resolves 6 none)) (hI : Apart ad 71) (hK : va_K D vwCl (tysX cy) s) (hN : NW s)  {q : Tmc × Tme × Tmr}  {v1 : Int32} (h : X12_resolves mc mb mu me mr v1 = some q) {ls : Array Slot} (hl : lv_has ls 6 [(0, .ref (ad 0)), (1, .int v1)]) {H : Heap} {locs : List Loc} (hP : va_P D vwCl (GM cy ad mt mc mb mo ms mk my mu ma me mr mp mg mw mf ml mq) H) (hS : va_S (Ac ad 71) s.heap H locs) : W p l e ({ frames := 1, cells := 0, slots := 0, locals := 22 } : Room) s m args below meth c H locs 0 0 (MQ below (QR none D (GM cy ad mt q.1 mb mo ms mk my mu ma q.2.1 q.2.2 mp mg mw mf ml mq) (Ac ad 71)) args s 0 0 (Ac ad 71)) (F0 m 0 ls []) := by
  obtain ⟨hx, hb, hml, hown, hts, hr, hlk⟩ := id C
  unfold X12_resolves at h
  refine lv_aload_n hx hb dX12_resolves_0 rfl (lv_at hl 0 rfl) ?_
  refine gM0_29 C hK hP w1396 dX12_resolves_1 ?_
  refine lv_bipush (v := (20 : Int32)) hx hb dX12_resolves_4 (by decide) ?_
  refine lv_aload_n hx hb dX12_resolves_6 rfl (lv_at hl 0 rfl) ?_
  refine gM0_6 (v := mb.2.1) C hK hP rfl w1373 dX12_resolves_7 ?_
  refine lv_imul hx hb dX12_resolves_10 ?_
  refine lv_aload_n hx hb dX12_resolves_11 rfl (lv_at hl 0 rfl) ?_
  refine gM0_12 C hK hP w1379 dX12_resolves_12 ?_
  refine lv_aload_n hx hb dX12_resolves_15 rfl (lv_at hl 0 rfl) ?_
  refine gM0_6 (v := mb.2.1) C hK hP rfl w1373 dX12_resolves_16 ?_
  obtain ⟨n1, h⟩ := grd h
  refine aM5 (f := mu.1) C hK hP rfl n1 dX12_resolves_19 ?_
  refine lv_iadd hx hb dX12_resolves_20 ?_
  refine lv_iconst (v := (1 : Int32)) hx hb dX12_resolves_21 (by decide) ?_
  refine lv_isub hx hb dX12_resolves_22 ?_
  obtain ⟨n2, h⟩ := grd h
  refine aM22 (f := mu.2.2.1) C hK hP rfl n2 dX12_resolves_23 ?_
  refine lv_istore_n (lv' := [(2, .int (mu.2.2.1 (((((20 : Int32) * mb.2.1) + (mu.1 (mb.2.1).toNatClampNeg)) - (1 : Int32))).toNatClampNeg)), (0, .ref (ad 0)), (1, .int v1)]) hx hb dX12_resolves_24 rfl hl (by decide) rfl (fun ls hl => ?_)
  refine lv_iconst (v := (0 : Int32)) hx hb dX12_resolves_25 (by decide) ?_
  refine lv_istore_n (lv' := [(3, .int (0 : Int32)), (2, .int (mu.2.2.1 (((((20 : Int32) * mb.2.1) + (mu.1 (mb.2.1).toNatClampNeg)) - (1 : Int32))).toNatClampNeg)), (0, .ref (ad 0)), (1, .int v1)]) hx hb dX12_resolves_26 rfl hl (by decide) rfl (fun ls hl => ?_)
  exact bX12_resolves_27 C hI hK hN FU h (lv_sub hl [2, 3, 1, 0] rfl) hP hS
theorem kX12_resolves (hI : Apart ad 71) {v1 : Int32} {q : Tmc × Tme × Tmr} (h : X12_resolves mc mb mu me mr v1 = some q) : Met l yX12_resolves (.code yX12_resolves cX12_resolves 6 none :: WA) ({ frames := 1, cells := 0, slots := 0, locals := 22 } : Room) (va_Pc [.ref (ad 0), .int v1] (PR D cy (GM cy ad mt mc mb mo ms mk my mu ma me mr mp mg mw mf ml mq))) (QR none D (GM cy ad mt q.1 mb mo ms mk my mu ma q.2.1 q.2.2 mp mg mw mf ml mq) (Ac ad 71)) 0 0 (Ac ad 71) :=
  met_of (by decide) (Nat.le_of_ble_eq_true rfl) (fun p e s m below meth c ls C hP hK hN hl => bX12_resolves_0 C hI hK hN h hl hP va_S.rf)
def X12_unit_57 (mb : Tmb) (ms : Tms)  (mc : Tmc) (mu : Tmu) (ma : Tma) (me : Tme) (mr : Tmr) (mp : Tmp) (v1 : Int32) (v2 : Int32) (v4 : Int64) : Option (Tmc × Tmu × Tma × Tme × Tmr × Tmp) := (if (X12_isRight mc) = 0 then some (mc, mu, ma, me, mr, mp) else (if inb (2 : Int32) 7 = true then ((X12_endOf ms (2 : Int32)).bind fun q3 => ((X12_abbreviations (((ms.2.2.2.2.1 ((2 : Int32)).toNatClampNeg) + ((v4).toInt32)), q3, mc.2.2.1, mc.2.2.2) mb ma).bind fun q5 => (if (X12_isRight q5.1) = 0 then some (q5.1, mu, q5.2, me, mr, mp) else (if inb mb.2.1 2 = true then (if inb (((20 : Int32) * mb.2.1) + (mu.1 (mb.2.1).toNatClampNeg)) 40 = true then (if inb mb.2.1 2 = true then (if inb (((20 : Int32) * mb.2.1) + (mu.1 (mb.2.1).toNatClampNeg)) 40 = true then (if inb (((20 : Int32) * mb.2.1) + (mu.1 (mb.2.1).toNatClampNeg)) 40 = true then (if inb (((20 : Int32) * mb.2.1) + (mu.1 (mb.2.1).toNatClampNeg)) 40 = true then (if inb mb.2.1 2 = true then (if inb (mu.1 (mb.2.1).toNatClampNeg) 20 = true then ((X12_entries (mc.1, v2, q5.1.2.2.1, q5.1.2.2.2) mb ms (mu.1, (upd mu.2.1 ((((20 : Int32) * mb.2.1) + (mu.1 (mb.2.1).toNatClampNeg))).toNatClampNeg v1), (upd mu.2.2.1 ((((20 : Int32) * mb.2.1) + (mu.1 (mb.2.1).toNatClampNeg))).toNatClampNeg (me.1 (mb.2.1).toNatClampNeg)), (upd mu.2.2.2.1 ((((20 : Int32) * mb.2.1) + (mu.1 (mb.2.1).toNatClampNeg))).toNatClampNeg (0 : Int32)), (upd mu.2.2.2.2.1 ((((20 : Int32) * mb.2.1) + (mu.1 (mb.2.1).toNatClampNeg))).toNatClampNeg (0 : Int32)), (upd mu.2.2.2.2.2.1 ((mu.1 (mb.2.1).toNatClampNeg)).toNatClampNeg (vp_nar .boolean (0 : Int32))), mu.2.2.2.2.2.2) q5.2 me ((0 : Int32), mr.2.1, mr.2.2.1, mr.2.2.2.1, mr.2.2.2.2) mp v2).bind fun q16 => (if inb mb.2.1 2 = true then (if inb mb.2.1 2 = true then ((X12_resolves q16.1 mb ((upd q16.2.1.1 (mb.2.1).toNatClampNeg ((q16.2.1.1 (mb.2.1).toNatClampNeg) + (1 : Int32))), q16.2.1.2.1, q16.2.1.2.2.1, q16.2.1.2.2.2.1, q16.2.1.2.2.2.2.1, q16.2.1.2.2.2.2.2.1, q16.2.1.2.2.2.2.2.2) q16.2.2.1 q16.2.2.2.1 v1).bind fun q20 => some (q20.1, ((upd q16.2.1.1 (mb.2.1).toNatClampNeg ((q16.2.1.1 (mb.2.1).toNatClampNeg) + (1 : Int32))), q16.2.1.2.1, q16.2.1.2.2.1, q16.2.1.2.2.2.1, q16.2.1.2.2.2.2.1, q16.2.1.2.2.2.2.2.1, q16.2.1.2.2.2.2.2.2), q5.2, q20.2.1, q20.2.2, q16.2.2.2.2)) else none) else none)) else none) else none) else none) else none) else none) else none) else none) else none)))) else none))
set_option maxRecDepth 20000 in
theorem bX12_unit_57 (C : Cx p s m args meth c cX12_unit 8 none RX12 (.code yX12_unit cX12_unit 8 none)) (hI : Apart ad 71) (hK : va_K D vwCl (tysX cy) s) (hN : NW s)  {q : Tmc × Tmu × Tma × Tme × Tmr × Tmp}  {v1 : Int32} {v2 : Int32} {v4 : Int64} (h : X12_unit_57 mb ms mc mu ma me mr mp v1 v2 v4 = some q) {ls : Array Slot} (hl : lv_has ls 8 [(0, .ref (ad 0)), (1, .int v1), (2, .int v2), (4, .long v4)]) {H : Heap} {locs : List Loc} (hP : va_P D vwCl (GM cy ad mt mc mb mo ms mk my mu ma me mr mp mg mw mf ml mq) H) (hS : va_S (Ac ad 71) s.heap H locs) : W p l e ({ frames := 6, cells := 0, slots := 0, locals := 153 } : Room) s m args below meth c H locs 0 0 (MQ below (QR none D (GM cy ad mt q.1 mb mo ms mk my q.2.1 q.2.2.1 q.2.2.2.1 q.2.2.2.2.1 q.2.2.2.2.2 mg mw mf ml mq) (Ac ad 71)) args s 0 0 (Ac ad 71)) (F0 m 57 ls []) := by
  obtain ⟨hx, hb, hml, hown, hts, hr, hlk⟩ := id C
  unfold X12_unit_57 at h
  refine lv_aload_n hx hb dX12_unit_57 rfl (lv_at hl 0 rfl) ?_
  refine cPi (run_V (rest := []) C (kX12_isRight rfl) caX12_isRight w1682 ⟨rfl, rfl, Nat.le_of_ble_eq_true rfl, Nat.le_of_ble_eq_true rfl⟩ hK hN hP (rM0 hK hP) rfl hl.1 rfl (Nat.le_of_ble_eq_true rfl) dX12_unit_58 ⟨Nat.zero_le _, Nat.zero_le _⟩) ?_
  refine lv_if_ne (tgt := 65) hx hb dX12_unit_61 (by decide) (fun c1 => ?_) (fun c1 => ?_)
  · rw [if_neg c1] at h
    refine lv_aload_n hx hb dX12_unit_65 rfl (lv_at hl 0 rfl) ?_
    refine gM0_77 (v := mc.1) C hK hP rfl w1444 dX12_unit_66 ?_
    refine lv_istore (lv' := [(6, .int mc.1), (0, .ref (ad 0)), (1, .int v1), (2, .int v2), (4, .long v4)]) hx hb dX12_unit_69 hl (by decide) rfl (fun ls hl => ?_)
    refine lv_aload_n hx hb dX12_unit_71 rfl (lv_at hl 1 rfl) ?_
    refine lv_aload_n hx hb dX12_unit_72 rfl (lv_at hl 1 rfl) ?_
    refine gM0_20 C hK hP w1387 dX12_unit_73 ?_
    refine lv_iconst (v := (2 : Int32)) hx hb dX12_unit_76 (by decide) ?_
    obtain ⟨n2, h⟩ := grd h
    refine aM13 (f := ms.2.2.2.2.1) C hK hP rfl n2 dX12_unit_77 ?_
    refine lv_lload hx hb dX12_unit_78 (lv_at hl 4 rfl) ?_
    refine lv_l2i (v := ((v4).toInt32)) hx hb dX12_unit_80 rfl ?_
    refine lv_iadd hx hb dX12_unit_81 ?_
    refine pM0_77 (v := ((ms.2.2.2.2.1 ((2 : Int32)).toNatClampNeg) + ((v4).toInt32))) C hI hK hP hS w1444 dX12_unit_82 (fun H locs hP hS => ?_)
    have hP : va_P D vwCl (GM cy ad mt (((ms.2.2.2.2.1 ((2 : Int32)).toNatClampNeg) + ((v4).toInt32)), mc.2.1, mc.2.2.1, mc.2.2.2) mb mo ms mk my mu ma me mr mp mg mw mf ml mq) H := hP
    refine lv_aload_n hx hb dX12_unit_85 rfl (lv_at hl 1 rfl) ?_
    refine lv_aload_n hx hb dX12_unit_86 rfl (lv_at hl 1 rfl) ?_
    refine lv_iconst (v := (2 : Int32)) hx hb dX12_unit_87 (by decide) ?_
    obtain ⟨q3, h4, h⟩ := bnd h
    refine cPi (run_V (rest := [.ref (ad 0)]) C (kX12_endOf h4) caX12_endOf w1712 ⟨rfl, rfl, Nat.le_of_ble_eq_true rfl, Nat.le_of_ble_eq_true rfl⟩ hK hN hP (rM0 hK hP) rfl hl.1 rfl (Nat.le_of_ble_eq_true rfl) dX12_unit_88 ⟨Nat.zero_le _, Nat.zero_le _⟩) ?_
    refine pM0_78 (v := q3) C hI hK hP hS w1445 dX12_unit_91 (fun H locs hP hS => ?_)
    have hP : va_P D vwCl (GM cy ad mt (((ms.2.2.2.2.1 ((2 : Int32)).toNatClampNeg) + ((v4).toInt32)), q3, mc.2.2.1, mc.2.2.2) mb mo ms mk my mu ma me mr mp mg mw mf ml mq) H := hP
    refine lv_aload_n hx hb dX12_unit_94 rfl (lv_at hl 1 rfl) ?_
    obtain ⟨q5, h6, h⟩ := bnd h
    refine cRv (run_V (rest := []) C (kX12_abbreviations hI h6) caX12_abbreviations w1737 ⟨rfl, rfl, Nat.le_of_ble_eq_true rfl, Nat.le_of_ble_eq_true rfl⟩ hK hN hP (rM0 hK hP) rfl hl.1 rfl (Nat.le_of_ble_eq_true rfl) dX12_unit_95 ⟨Nat.zero_le _, Nat.zero_le _⟩) hS (fun H locs hP hS => ?_)
    have hP : va_P D vwCl (GM cy ad mt q5.1 mb mo ms mk my mu q5.2 me mr mp mg mw mf ml mq) H := hP
    refine lv_aload_n hx hb dX12_unit_98 rfl (lv_at hl 1 rfl) ?_
    refine cPi (run_V (rest := []) C (kX12_isRight rfl) caX12_isRight w1682 ⟨rfl, rfl, Nat.le_of_ble_eq_true rfl, Nat.le_of_ble_eq_true rfl⟩ hK hN hP (rM0 hK hP) rfl hl.1 rfl (Nat.le_of_ble_eq_true rfl) dX12_unit_99 ⟨Nat.zero_le _, Nat.zero_le _⟩) ?_
    refine lv_if_ne (tgt := 106) hx hb dX12_unit_102 (by decide) (fun c7 => ?_) (fun c7 => ?_)
    · rw [if_neg c7] at h
      refine lv_bipush (v := (20 : Int32)) hx hb dX12_unit_106 (by decide) ?_
      refine lv_aload_n hx hb dX12_unit_108 rfl (lv_at hl 1 rfl) ?_
      refine gM0_6 (v := mb.2.1) C hK hP rfl w1373 dX12_unit_109 ?_
      refine lv_imul hx hb dX12_unit_112 ?_
      refine lv_aload_n hx hb dX12_unit_113 rfl (lv_at hl 1 rfl) ?_
      refine gM0_12 C hK hP w1379 dX12_unit_114 ?_
      refine lv_aload_n hx hb dX12_unit_117 rfl (lv_at hl 1 rfl) ?_
      refine gM0_6 (v := mb.2.1) C hK hP rfl w1373 dX12_unit_118 ?_
      obtain ⟨n8, h⟩ := grd h
      refine aM5 (f := mu.1) C hK hP rfl n8 dX12_unit_121 ?_
      refine lv_iadd hx hb dX12_unit_122 ?_
      refine lv_istore (lv' := [(7, .int (((20 : Int32) * mb.2.1) + (mu.1 (mb.2.1).toNatClampNeg))), (6, .int mc.1), (0, .ref (ad 0)), (1, .int v1), (2, .int v2), (4, .long v4)]) hx hb dX12_unit_123 hl (by decide) rfl (fun ls hl => ?_)
      refine lv_aload_n hx hb dX12_unit_125 rfl (lv_at hl 2 rfl) ?_
      refine gM0_28 C hK hP w1395 dX12_unit_126 ?_
      refine lv_iload hx hb dX12_unit_129 (lv_at hl 0 rfl) ?_
      refine lv_iload_n hx hb dX12_unit_131 rfl (lv_at hl 3 rfl) ?_
      obtain ⟨n9, h⟩ := grd h
      refine sM21 (f := mu.2.1) C hI hK hP hS rfl n9 dX12_unit_132 (fun H locs hP hS => ?_)
      have hP : va_P D vwCl (GM cy ad mt q5.1 mb mo ms mk my (mu.1, (upd mu.2.1 ((((20 : Int32) * mb.2.1) + (mu.1 (mb.2.1).toNatClampNeg))).toNatClampNeg v1), mu.2.2.1, mu.2.2.2.1, mu.2.2.2.2.1, mu.2.2.2.2.2.1, mu.2.2.2.2.2.2) q5.2 me mr mp mg mw mf ml mq) H := hP
      refine lv_aload_n hx hb dX12_unit_133 rfl (lv_at hl 2 rfl) ?_
      refine gM0_29 C hK hP w1396 dX12_unit_134 ?_
      refine lv_iload hx hb dX12_unit_137 (lv_at hl 0 rfl) ?_
      refine lv_aload_n hx hb dX12_unit_139 rfl (lv_at hl 2 rfl) ?_
      refine gM0_13 C hK hP w1380 dX12_unit_140 ?_
      refine lv_aload_n hx hb dX12_unit_143 rfl (lv_at hl 2 rfl) ?_
      refine gM0_6 (v := mb.2.1) C hK hP rfl w1373 dX12_unit_144 ?_
      obtain ⟨n10, h⟩ := grd h
      refine aM6 (f := me.1) C hK hP rfl n10 dX12_unit_147 ?_
      obtain ⟨n11, h⟩ := grd h
      refine sM22 (f := mu.2.2.1) C hI hK hP hS rfl n11 dX12_unit_148 (fun H locs hP hS => ?_)
      have hP : va_P D vwCl (GM cy ad mt q5.1 mb mo ms mk my (mu.1, (upd mu.2.1 ((((20 : Int32) * mb.2.1) + (mu.1 (mb.2.1).toNatClampNeg))).toNatClampNeg v1), (upd mu.2.2.1 ((((20 : Int32) * mb.2.1) + (mu.1 (mb.2.1).toNatClampNeg))).toNatClampNeg (me.1 (mb.2.1).toNatClampNeg)), mu.2.2.2.1, mu.2.2.2.2.1, mu.2.2.2.2.2.1, mu.2.2.2.2.2.2) q5.2 me mr mp mg mw mf ml mq) H := hP
      refine lv_aload_n hx hb dX12_unit_149 rfl (lv_at hl 2 rfl) ?_
      refine gM0_30 C hK hP w1397 dX12_unit_150 ?_
      refine lv_iload hx hb dX12_unit_153 (lv_at hl 0 rfl) ?_
      refine lv_iconst (v := (0 : Int32)) hx hb dX12_unit_155 (by decide) ?_
      obtain ⟨n12, h⟩ := grd h
      refine sM23 (f := mu.2.2.2.1) C hI hK hP hS rfl n12 dX12_unit_156 (fun H locs hP hS => ?_)
      have hP : va_P D vwCl (GM cy ad mt q5.1 mb mo ms mk my (mu.1, (upd mu.2.1 ((((20 : Int32) * mb.2.1) + (mu.1 (mb.2.1).toNatClampNeg))).toNatClampNeg v1), (upd mu.2.2.1 ((((20 : Int32) * mb.2.1) + (mu.1 (mb.2.1).toNatClampNeg))).toNatClampNeg (me.1 (mb.2.1).toNatClampNeg)), (upd mu.2.2.2.1 ((((20 : Int32) * mb.2.1) + (mu.1 (mb.2.1).toNatClampNeg))).toNatClampNeg (0 : Int32)), mu.2.2.2.2.1, mu.2.2.2.2.2.1, mu.2.2.2.2.2.2) q5.2 me mr mp mg mw mf ml mq) H := hP
      refine lv_aload_n hx hb dX12_unit_157 rfl (lv_at hl 2 rfl) ?_
      refine gM0_31 C hK hP w1398 dX12_unit_158 ?_
      refine lv_iload hx hb dX12_unit_161 (lv_at hl 0 rfl) ?_
      refine lv_iconst (v := (0 : Int32)) hx hb dX12_unit_163 (by decide) ?_
      obtain ⟨n13, h⟩ := grd h
      refine sM24 (f := mu.2.2.2.2.1) C hI hK hP hS rfl n13 dX12_unit_164 (fun H locs hP hS => ?_)
      have hP : va_P D vwCl (GM cy ad mt q5.1 mb mo ms mk my (mu.1, (upd mu.2.1 ((((20 : Int32) * mb.2.1) + (mu.1 (mb.2.1).toNatClampNeg))).toNatClampNeg v1), (upd mu.2.2.1 ((((20 : Int32) * mb.2.1) + (mu.1 (mb.2.1).toNatClampNeg))).toNatClampNeg (me.1 (mb.2.1).toNatClampNeg)), (upd mu.2.2.2.1 ((((20 : Int32) * mb.2.1) + (mu.1 (mb.2.1).toNatClampNeg))).toNatClampNeg (0 : Int32)), (upd mu.2.2.2.2.1 ((((20 : Int32) * mb.2.1) + (mu.1 (mb.2.1).toNatClampNeg))).toNatClampNeg (0 : Int32)), mu.2.2.2.2.2.1, mu.2.2.2.2.2.2) q5.2 me mr mp mg mw mf ml mq) H := hP
      refine lv_aload_n hx hb dX12_unit_165 rfl (lv_at hl 2 rfl) ?_
      refine gM0_32 C hK hP w1399 dX12_unit_166 ?_
      refine lv_aload_n hx hb dX12_unit_169 rfl (lv_at hl 2 rfl) ?_
      refine gM0_12 C hK hP w1379 dX12_unit_170 ?_
      refine lv_aload_n hx hb dX12_unit_173 rfl (lv_at hl 2 rfl) ?_
      refine gM0_6 (v := mb.2.1) C hK hP rfl w1373 dX12_unit_174 ?_
      obtain ⟨n14, h⟩ := grd h
      refine aM5 (f := mu.1) C hK hP rfl n14 dX12_unit_177 ?_
      refine lv_iconst (v := (0 : Int32)) hx hb dX12_unit_178 (by decide) ?_
      obtain ⟨n15, h⟩ := grd h
      refine sM25 (f := mu.2.2.2.2.2.1) C hI hK hP hS rfl n15 dX12_unit_179 (fun H locs hP hS => ?_)
      have hP : va_P D vwCl (GM cy ad mt q5.1 mb mo ms mk my (mu.1, (upd mu.2.1 ((((20 : Int32) * mb.2.1) + (mu.1 (mb.2.1).toNatClampNeg))).toNatClampNeg v1), (upd mu.2.2.1 ((((20 : Int32) * mb.2.1) + (mu.1 (mb.2.1).toNatClampNeg))).toNatClampNeg (me.1 (mb.2.1).toNatClampNeg)), (upd mu.2.2.2.1 ((((20 : Int32) * mb.2.1) + (mu.1 (mb.2.1).toNatClampNeg))).toNatClampNeg (0 : Int32)), (upd mu.2.2.2.2.1 ((((20 : Int32) * mb.2.1) + (mu.1 (mb.2.1).toNatClampNeg))).toNatClampNeg (0 : Int32)), (upd mu.2.2.2.2.2.1 ((mu.1 (mb.2.1).toNatClampNeg)).toNatClampNeg (vp_nar .boolean (0 : Int32))), mu.2.2.2.2.2.2) q5.2 me mr mp mg mw mf ml mq) H := hP
      refine lv_aload_n hx hb dX12_unit_180 rfl (lv_at hl 2 rfl) ?_
      refine lv_iload hx hb dX12_unit_181 (lv_at hl 1 rfl) ?_
      refine pM0_77 (v := mc.1) C hI hK hP hS w1444 dX12_unit_183 (fun H locs hP hS => ?_)
      have hP : va_P D vwCl (GM cy ad mt (mc.1, q5.1.2.1, q5.1.2.2.1, q5.1.2.2.2) mb mo ms mk my (mu.1, (upd mu.2.1 ((((20 : Int32) * mb.2.1) + (mu.1 (mb.2.1).toNatClampNeg))).toNatClampNeg v1), (upd mu.2.2.1 ((((20 : Int32) * mb.2.1) + (mu.1 (mb.2.1).toNatClampNeg))).toNatClampNeg (me.1 (mb.2.1).toNatClampNeg)), (upd mu.2.2.2.1 ((((20 : Int32) * mb.2.1) + (mu.1 (mb.2.1).toNatClampNeg))).toNatClampNeg (0 : Int32)), (upd mu.2.2.2.2.1 ((((20 : Int32) * mb.2.1) + (mu.1 (mb.2.1).toNatClampNeg))).toNatClampNeg (0 : Int32)), (upd mu.2.2.2.2.2.1 ((mu.1 (mb.2.1).toNatClampNeg)).toNatClampNeg (vp_nar .boolean (0 : Int32))), mu.2.2.2.2.2.2) q5.2 me mr mp mg mw mf ml mq) H := hP
      refine lv_aload_n hx hb dX12_unit_186 rfl (lv_at hl 2 rfl) ?_
      refine lv_iload_n hx hb dX12_unit_187 rfl (lv_at hl 4 rfl) ?_
      refine pM0_78 (v := v2) C hI hK hP hS w1445 dX12_unit_188 (fun H locs hP hS => ?_)
      have hP : va_P D vwCl (GM cy ad mt (mc.1, v2, q5.1.2.2.1, q5.1.2.2.2) mb mo ms mk my (mu.1, (upd mu.2.1 ((((20 : Int32) * mb.2.1) + (mu.1 (mb.2.1).toNatClampNeg))).toNatClampNeg v1), (upd mu.2.2.1 ((((20 : Int32) * mb.2.1) + (mu.1 (mb.2.1).toNatClampNeg))).toNatClampNeg (me.1 (mb.2.1).toNatClampNeg)), (upd mu.2.2.2.1 ((((20 : Int32) * mb.2.1) + (mu.1 (mb.2.1).toNatClampNeg))).toNatClampNeg (0 : Int32)), (upd mu.2.2.2.2.1 ((((20 : Int32) * mb.2.1) + (mu.1 (mb.2.1).toNatClampNeg))).toNatClampNeg (0 : Int32)), (upd mu.2.2.2.2.2.1 ((mu.1 (mb.2.1).toNatClampNeg)).toNatClampNeg (vp_nar .boolean (0 : Int32))), mu.2.2.2.2.2.2) q5.2 me mr mp mg mw mf ml mq) H := hP
      refine lv_aload_n hx hb dX12_unit_191 rfl (lv_at hl 2 rfl) ?_
      refine lv_iconst (v := (0 : Int32)) hx hb dX12_unit_192 (by decide) ?_
      refine pM0_60 (v := (0 : Int32)) C hI hK hP hS w1427 dX12_unit_193 (fun H locs hP hS => ?_)
      have hP : va_P D vwCl (GM cy ad mt (mc.1, v2, q5.1.2.2.1, q5.1.2.2.2) mb mo ms mk my (mu.1, (upd mu.2.1 ((((20 : Int32) * mb.2.1) + (mu.1 (mb.2.1).toNatClampNeg))).toNatClampNeg v1), (upd mu.2.2.1 ((((20 : Int32) * mb.2.1) + (mu.1 (mb.2.1).toNatClampNeg))).toNatClampNeg (me.1 (mb.2.1).toNatClampNeg)), (upd mu.2.2.2.1 ((((20 : Int32) * mb.2.1) + (mu.1 (mb.2.1).toNatClampNeg))).toNatClampNeg (0 : Int32)), (upd mu.2.2.2.2.1 ((((20 : Int32) * mb.2.1) + (mu.1 (mb.2.1).toNatClampNeg))).toNatClampNeg (0 : Int32)), (upd mu.2.2.2.2.2.1 ((mu.1 (mb.2.1).toNatClampNeg)).toNatClampNeg (vp_nar .boolean (0 : Int32))), mu.2.2.2.2.2.2) q5.2 me ((0 : Int32), mr.2.1, mr.2.2.1, mr.2.2.2.1, mr.2.2.2.2) mp mg mw mf ml mq) H := hP
      refine lv_aload_n hx hb dX12_unit_196 rfl (lv_at hl 2 rfl) ?_
      refine lv_iload_n hx hb dX12_unit_197 rfl (lv_at hl 4 rfl) ?_
      obtain ⟨q16, h17, h⟩ := bnd h
      refine cRv (run_V (rest := []) C (kX12_entries hI h17) caX12_entries w1769 ⟨rfl, rfl, Nat.le_of_ble_eq_true rfl, Nat.le_of_ble_eq_true rfl⟩ hK hN hP (rM0 hK hP) rfl hl.1 rfl (Nat.le_of_ble_eq_true rfl) dX12_unit_198 ⟨Nat.zero_le _, Nat.zero_le _⟩) hS (fun H locs hP hS => ?_)
      have hP : va_P D vwCl (GM cy ad mt q16.1 mb mo ms mk my q16.2.1 q5.2 q16.2.2.1 q16.2.2.2.1 q16.2.2.2.2 mg mw mf ml mq) H := hP
      refine lv_aload_n hx hb dX12_unit_201 rfl (lv_at hl 2 rfl) ?_
      refine gM0_12 C hK hP w1379 dX12_unit_202 ?_
      refine lv_aload_n hx hb dX12_unit_205 rfl (lv_at hl 2 rfl) ?_
      refine gM0_6 (v := mb.2.1) C hK hP rfl w1373 dX12_unit_206 ?_
      refine lv_dup2_11 hx hb dX12_unit_209 rfl rfl ?_
      obtain ⟨n18, h⟩ := grd h
      refine aM5 (f := q16.2.1.1) C hK hP rfl n18 dX12_unit_210 ?_
      refine lv_iconst (v := (1 : Int32)) hx hb dX12_unit_211 (by decide) ?_
      refine lv_iadd hx hb dX12_unit_212 ?_
      obtain ⟨n19, h⟩ := grd h
      refine sM5 (f := q16.2.1.1) C hI hK hP hS rfl n19 dX12_unit_213 (fun H locs hP hS => ?_)
      have hP : va_P D vwCl (GM cy ad mt q16.1 mb mo ms mk my ((upd q16.2.1.1 (mb.2.1).toNatClampNeg ((q16.2.1.1 (mb.2.1).toNatClampNeg) + (1 : Int32))), q16.2.1.2.1, q16.2.1.2.2.1, q16.2.1.2.2.2.1, q16.2.1.2.2.2.2.1, q16.2.1.2.2.2.2.2.1, q16.2.1.2.2.2.2.2.2) q5.2 q16.2.2.1 q16.2.2.2.1 q16.2.2.2.2 mg mw mf ml mq) H := hP
      refine lv_aload_n hx hb dX12_unit_214 rfl (lv_at hl 2 rfl) ?_
      refine lv_iload_n hx hb dX12_unit_215 rfl (lv_at hl 3 rfl) ?_
      obtain ⟨q20, h21, h⟩ := bnd h
      refine cRv (run_V (rest := []) C (kX12_resolves hI h21) caX12_resolves w1813 ⟨rfl, rfl, Nat.le_of_ble_eq_true rfl, Nat.le_of_ble_eq_true rfl⟩ hK hN hP (rM0 hK hP) rfl hl.1 rfl (Nat.le_of_ble_eq_true rfl) dX12_unit_216 ⟨Nat.zero_le _, Nat.zero_le _⟩) hS (fun H locs hP hS => ?_)
      have hP : va_P D vwCl (GM cy ad mt q20.1 mb mo ms mk my ((upd q16.2.1.1 (mb.2.1).toNatClampNeg ((q16.2.1.1 (mb.2.1).toNatClampNeg) + (1 : Int32))), q16.2.1.2.1, q16.2.1.2.2.1, q16.2.1.2.2.2.1, q16.2.1.2.2.2.2.1, q16.2.1.2.2.2.2.2.1, q16.2.1.2.2.2.2.2.2) q5.2 q20.2.1 q20.2.2 q16.2.2.2.2 mg mw mf ml mq) H := hP
      obtain rfl := Option.some.inj h
      exact W.vret hx hb hr (fun t ht _ => ⟨rfl, by rw [ht]; exact hP, hS.F ht⟩) hS.2.2 dX12_unit_219 hlk
    · rw [if_pos c7] at h
      obtain rfl := Option.some.inj h
      exact W.vret hx hb hr (fun t ht _ => ⟨rfl, by rw [ht]; exact hP, hS.F ht⟩) hS.2.2 dX12_unit_105 hlk
  · rw [if_pos c1] at h
    obtain rfl := Option.some.inj h
    exact W.vret hx hb hr (fun t ht _ => ⟨rfl, by rw [ht]; exact hP, hS.F ht⟩) hS.2.2 dX12_unit_64 hlk
def X12_unit (mc : Tmc) (mb : Tmb) (ms : Tms) (mu : Tmu) (ma : Tma) (me : Tme) (mr : Tmr) (mp : Tmp) (v1 : Int32) (v2 : Int32) : Option (Tmc × Tmu × Tma × Tme × Tmr × Tmp) := ((X12_must mc mb (2 : Int32) (5 : Int32)).bind fun q1 => ((X12_must q1 mb (1 : Int32) (1 : Int32)).bind fun q3 => ((X12_must q3 mb (1 : Int32) (8 : Int32)).bind fun q5 => ((X12_number q5 mb (4 : Int32)).bind fun q7 => (if (X12_isRight q7.2) = 0 then X12_unit_57 mb ms q7.2 mu ma me mr mp v1 v2 q7.1 else (if inb (2 : Int32) 7 = true then (if q7.1 < (((ms.2.2.2.2.2 ((2 : Int32)).toNatClampNeg)).toInt64) then X12_unit_57 mb ms q7.2 mu ma me mr mp v1 v2 q7.1 else (letq (X12_fail q7.2 (3 : Int32) q5.1) fun q12 => X12_unit_57 mb ms q12 mu ma me mr mp v1 v2 q7.1)) else none))))))
set_option maxRecDepth 20000 in
theorem bX12_unit_0 (C : Cx p s m args meth c cX12_unit 8 none RX12 (.code yX12_unit cX12_unit 8 none)) (hI : Apart ad 71) (hK : va_K D vwCl (tysX cy) s) (hN : NW s)  {q : Tmc × Tmu × Tma × Tme × Tmr × Tmp}  {v1 : Int32} {v2 : Int32} (h : X12_unit mc mb ms mu ma me mr mp v1 v2 = some q) {ls : Array Slot} (hl : lv_has ls 8 [(0, .ref (ad 0)), (1, .int v1), (2, .int v2)]) {H : Heap} {locs : List Loc} (hP : va_P D vwCl (GM cy ad mt mc mb mo ms mk my mu ma me mr mp mg mw mf ml mq) H) (hS : va_S (Ac ad 71) s.heap H locs) : W p l e ({ frames := 6, cells := 0, slots := 0, locals := 153 } : Room) s m args below meth c H locs 0 0 (MQ below (QR none D (GM cy ad mt q.1 mb mo ms mk my q.2.1 q.2.2.1 q.2.2.2.1 q.2.2.2.2.1 q.2.2.2.2.2 mg mw mf ml mq) (Ac ad 71)) args s 0 0 (Ac ad 71)) (F0 m 0 ls []) := by
  obtain ⟨hx, hb, hml, hown, hts, hr, hlk⟩ := id C
  unfold X12_unit at h
  refine lv_aload_n hx hb dX12_unit_0 rfl (lv_at hl 0 rfl) ?_
  refine lv_iconst (v := (2 : Int32)) hx hb dX12_unit_1 (by decide) ?_
  refine lv_iconst (v := (5 : Int32)) hx hb dX12_unit_2 (by decide) ?_
  obtain ⟨q1, h2, h⟩ := bnd h
  refine cRv (run_V (rest := []) C (kX12_must hI h2) caX12_must w1733 ⟨rfl, rfl, Nat.le_of_ble_eq_true rfl, Nat.le_of_ble_eq_true rfl⟩ hK hN hP (rM0 hK hP) rfl hl.1 rfl (Nat.le_of_ble_eq_true rfl) dX12_unit_3 ⟨Nat.zero_le _, Nat.zero_le _⟩) hS (fun H locs hP hS => ?_)
  have hP : va_P D vwCl (GM cy ad mt q1 mb mo ms mk my mu ma me mr mp mg mw mf ml mq) H := hP
  refine lv_aload_n hx hb dX12_unit_6 rfl (lv_at hl 0 rfl) ?_
  refine lv_iconst (v := (1 : Int32)) hx hb dX12_unit_7 (by decide) ?_
  refine lv_iconst (v := (1 : Int32)) hx hb dX12_unit_8 (by decide) ?_
  obtain ⟨q3, h4, h⟩ := bnd h
  refine cRv (run_V (rest := []) C (kX12_must hI h4) caX12_must w1733 ⟨rfl, rfl, Nat.le_of_ble_eq_true rfl, Nat.le_of_ble_eq_true rfl⟩ hK hN hP (rM0 hK hP) rfl hl.1 rfl (Nat.le_of_ble_eq_true rfl) dX12_unit_9 ⟨Nat.zero_le _, Nat.zero_le _⟩) hS (fun H locs hP hS => ?_)
  have hP : va_P D vwCl (GM cy ad mt q3 mb mo ms mk my mu ma me mr mp mg mw mf ml mq) H := hP
  refine lv_aload_n hx hb dX12_unit_12 rfl (lv_at hl 0 rfl) ?_
  refine lv_iconst (v := (1 : Int32)) hx hb dX12_unit_13 (by decide) ?_
  refine lv_bipush (v := (8 : Int32)) hx hb dX12_unit_14 (by decide) ?_
  obtain ⟨q5, h6, h⟩ := bnd h
  refine cRv (run_V (rest := []) C (kX12_must hI h6) caX12_must w1733 ⟨rfl, rfl, Nat.le_of_ble_eq_true rfl, Nat.le_of_ble_eq_true rfl⟩ hK hN hP (rM0 hK hP) rfl hl.1 rfl (Nat.le_of_ble_eq_true rfl) dX12_unit_16 ⟨Nat.zero_le _, Nat.zero_le _⟩) hS (fun H locs hP hS => ?_)
  have hP : va_P D vwCl (GM cy ad mt q5 mb mo ms mk my mu ma me mr mp mg mw mf ml mq) H := hP
  refine lv_aload_n hx hb dX12_unit_19 rfl (lv_at hl 0 rfl) ?_
  refine gM0_77 (v := q5.1) C hK hP rfl w1444 dX12_unit_20 ?_
  refine lv_istore_n (lv' := [(3, .int q5.1), (0, .ref (ad 0)), (1, .int v1), (2, .int v2)]) hx hb dX12_unit_23 rfl hl (by decide) rfl (fun ls hl => ?_)
  refine lv_aload_n hx hb dX12_unit_24 rfl (lv_at hl 1 rfl) ?_
  refine lv_iconst (v := (4 : Int32)) hx hb dX12_unit_25 (by decide) ?_
  obtain ⟨q7, h8, h⟩ := bnd h
  refine cRl (run_V (rest := []) C (kX12_number hI h8) caX12_number w1724 ⟨rfl, rfl, Nat.le_of_ble_eq_true rfl, Nat.le_of_ble_eq_true rfl⟩ hK hN hP (rM0 hK hP) rfl hl.1 rfl (Nat.le_of_ble_eq_true rfl) dX12_unit_26 ⟨Nat.zero_le _, Nat.zero_le _⟩) hS (fun H locs hP hS => ?_)
  have hP : va_P D vwCl (GM cy ad mt q7.2 mb mo ms mk my mu ma me mr mp mg mw mf ml mq) H := hP
  refine lv_lstore (lv' := [(4, .long q7.1), (3, .int q5.1), (0, .ref (ad 0)), (1, .int v1), (2, .int v2)]) hx hb dX12_unit_29 hl (by decide) rfl (fun ls hl => ?_)
  refine lv_aload_n hx hb dX12_unit_31 rfl (lv_at hl 2 rfl) ?_
  refine cPi (run_V (rest := []) C (kX12_isRight rfl) caX12_isRight w1682 ⟨rfl, rfl, Nat.le_of_ble_eq_true rfl, Nat.le_of_ble_eq_true rfl⟩ hK hN hP (rM0 hK hP) rfl hl.1 rfl (Nat.le_of_ble_eq_true rfl) dX12_unit_32 ⟨Nat.zero_le _, Nat.zero_le _⟩) ?_
  refine lv_if_eq (tgt := 57) hx hb dX12_unit_35 (by decide) (fun c9 => ?_) (fun c9 => ?_)
  · rw [if_pos c9] at h
    exact bX12_unit_57 C hI hK hN h (lv_sub hl [2, 3, 4, 0] rfl) hP hS
  · rw [if_neg c9] at h
    refine lv_lload hx hb dX12_unit_38 (lv_at hl 0 rfl) ?_
    refine lv_aload_n hx hb dX12_unit_40 rfl (lv_at hl 2 rfl) ?_
    refine gM0_21 C hK hP w1388 dX12_unit_41 ?_
    refine lv_iconst (v := (2 : Int32)) hx hb dX12_unit_44 (by decide) ?_
    obtain ⟨n10, h⟩ := grd h
    refine aM14 (f := ms.2.2.2.2.2) C hK hP rfl n10 dX12_unit_45 ?_
    refine lv_i2l (v := (((ms.2.2.2.2.2 ((2 : Int32)).toNatClampNeg)).toInt64)) hx hb dX12_unit_46 rfl ?_
    refine lc_lt (tgt := 57) hx hb dX12_unit_47 dX12_unit_48 (by decide) (fun c11 => ?_) (fun c11 => ?_)
    · rw [if_pos c11] at h
      exact bX12_unit_57 C hI hK hN h (lv_sub hl [2, 3, 4, 0] rfl) hP hS
    · rw [if_neg c11] at h
      refine lv_aload_n hx hb dX12_unit_51 rfl (lv_at hl 2 rfl) ?_
      refine lv_iconst (v := (3 : Int32)) hx hb dX12_unit_52 (by decide) ?_
      refine lv_iload_n hx hb dX12_unit_53 rfl (lv_at hl 1 rfl) ?_
      obtain ⟨q12, h13, h⟩ := lets h
      refine cRv (run_V (rest := []) C (kX12_fail hI h13) caX12_fail w1678 ⟨rfl, rfl, Nat.le_of_ble_eq_true rfl, Nat.le_of_ble_eq_true rfl⟩ hK hN hP (rM0 hK hP) rfl hl.1 rfl (Nat.le_of_ble_eq_true rfl) dX12_unit_54 ⟨Nat.zero_le _, Nat.zero_le _⟩) hS (fun H locs hP hS => ?_)
      have hP : va_P D vwCl (GM cy ad mt q12 mb mo ms mk my mu ma me mr mp mg mw mf ml mq) H := hP
      exact bX12_unit_57 C hI hK hN h (lv_sub hl [2, 3, 4, 0] rfl) hP hS
theorem kX12_unit (hI : Apart ad 71) {v1 : Int32} {v2 : Int32} {q : Tmc × Tmu × Tma × Tme × Tmr × Tmp} (h : X12_unit mc mb ms mu ma me mr mp v1 v2 = some q) : Met l yX12_unit (.code yX12_unit cX12_unit 8 none :: WA) ({ frames := 6, cells := 0, slots := 0, locals := 153 } : Room) (va_Pc [.ref (ad 0), .int v1, .int v2] (PR D cy (GM cy ad mt mc mb mo ms mk my mu ma me mr mp mg mw mf ml mq))) (QR none D (GM cy ad mt q.1 mb mo ms mk my q.2.1 q.2.2.1 q.2.2.2.1 q.2.2.2.2.1 q.2.2.2.2.2 mg mw mf ml mq) (Ac ad 71)) 0 0 (Ac ad 71) :=
  met_of (by decide) (Nat.le_of_ble_eq_true rfl) (fun p e s m below meth c ls C hP hK hN hl => bX12_unit_0 C hI hK hN h hl hP va_S.rf)
def X12_units_80 (mb : Tmb) (ms : Tms) (k10 : Tmc → Tmu → Tma → Tme → Tmr → Tmp → Option (Tmc × Tmu × Tma × Tme × Tmr × Tmp)) (mc : Tmc) (mu : Tmu) (ma : Tma) (me : Tme) (mr : Tmr) (mp : Tmp) (v1 : Int32) (v2 : Int32) : Option (Tmc × Tmu × Tma × Tme × Tmr × Tmp) := (if (X12_isRight mc) = 0 then some (mc, mu, ma, me, mr, mp) else ((X12_unit (mc.1, v2, mc.2.2.1, mc.2.2.2) mb ms mu ma me mr mp v1 v2).bind fun q2 => k10 (v2, q2.1.2.1, q2.1.2.2.1, q2.1.2.2.2) q2.2.1 q2.2.2.1 q2.2.2.2.1 q2.2.2.2.2.1 q2.2.2.2.2.2))
set_option maxRecDepth 20000 in
theorem bX12_units_80 (C : Cx p s m args meth c cX12_units 3 none RX12 (.code yX12_units cX12_units 3 none)) (hI : Apart ad 71) (hK : va_K D vwCl (tysX cy) s) (hN : NW s) {k10 : Tmc → Tmu → Tma → Tme → Tmr → Tmp → Option (Tmc × Tmu × Tma × Tme × Tmr × Tmp)} {q : Tmc × Tmu × Tma × Tme × Tmr × Tmp} (hk10 : ∀ {mc : Tmc} {mu : Tmu} {ma : Tma} {me : Tme} {mr : Tmr} {mp : Tmp} , k10 mc mu ma me mr mp = some q → ∀ {ls : Array Slot}, lv_has ls 3 [(0, .ref (ad 0))] → ∀ {H : Heap} {locs : List Loc}, va_P D vwCl (GM cy ad mt mc mb mo ms mk my mu ma me mr mp mg mw mf ml mq) H → va_S (Ac ad 71) s.heap H locs → W p l e ({ frames := 7, cells := 0, slots := 0, locals := 180 } : Room) s m args below meth c H locs 0 0 (MQ below (QR none D (GM cy ad mt q.1 mb mo ms mk my q.2.1 q.2.2.1 q.2.2.2.1 q.2.2.2.2.1 q.2.2.2.2.2 mg mw mf ml mq) (Ac ad 71)) args s 0 0 (Ac ad 71)) (F0 m 10 ls [])) {v1 : Int32} {v2 : Int32} (h : X12_units_80 mb ms k10 mc mu ma me mr mp v1 v2 = some q) {ls : Array Slot} (hl : lv_has ls 3 [(0, .ref (ad 0)), (1, .int v1), (2, .int v2)]) {H : Heap} {locs : List Loc} (hP : va_P D vwCl (GM cy ad mt mc mb mo ms mk my mu ma me mr mp mg mw mf ml mq) H) (hS : va_S (Ac ad 71) s.heap H locs) : W p l e ({ frames := 7, cells := 0, slots := 0, locals := 180 } : Room) s m args below meth c H locs 0 0 (MQ below (QR none D (GM cy ad mt q.1 mb mo ms mk my q.2.1 q.2.2.1 q.2.2.2.1 q.2.2.2.2.1 q.2.2.2.2.2 mg mw mf ml mq) (Ac ad 71)) args s 0 0 (Ac ad 71)) (F0 m 80 ls []) := by
  obtain ⟨hx, hb, hml, hown, hts, hr, hlk⟩ := id C
  unfold X12_units_80 at h
  refine lv_aload_n hx hb dX12_units_80 rfl (lv_at hl 0 rfl) ?_
  refine cPi (run_V (rest := []) C (kX12_isRight rfl) caX12_isRight w1682 ⟨rfl, rfl, Nat.le_of_ble_eq_true rfl, Nat.le_of_ble_eq_true rfl⟩ hK hN hP (rM0 hK hP) rfl hl.1 rfl (Nat.le_of_ble_eq_true rfl) dX12_units_81 ⟨Nat.zero_le _, Nat.zero_le _⟩) ?_
  refine lv_if_ne (tgt := 88) hx hb dX12_units_84 (by decide) (fun c1 => ?_) (fun c1 => ?_)
  · rw [if_neg c1] at h
    refine lv_aload_n hx hb dX12_units_88 rfl (lv_at hl 0 rfl) ?_
    refine lv_iload_n hx hb dX12_units_89 rfl (lv_at hl 2 rfl) ?_
    refine pM0_78 (v := v2) C hI hK hP hS w1445 dX12_units_90 (fun H locs hP hS => ?_)
    have hP : va_P D vwCl (GM cy ad mt (mc.1, v2, mc.2.2.1, mc.2.2.2) mb mo ms mk my mu ma me mr mp mg mw mf ml mq) H := hP
    refine lv_aload_n hx hb dX12_units_93 rfl (lv_at hl 0 rfl) ?_
    refine lv_iload_n hx hb dX12_units_94 rfl (lv_at hl 1 rfl) ?_
    refine lv_iload_n hx hb dX12_units_95 rfl (lv_at hl 2 rfl) ?_
    obtain ⟨q2, h3, h⟩ := bnd h
    refine cRv (run_V (rest := []) C (kX12_unit hI h3) caX12_unit w1729 ⟨rfl, rfl, Nat.le_of_ble_eq_true rfl, Nat.le_of_ble_eq_true rfl⟩ hK hN hP (rM0 hK hP) rfl hl.1 rfl (Nat.le_of_ble_eq_true rfl) dX12_units_96 ⟨Nat.zero_le _, Nat.zero_le _⟩) hS (fun H locs hP hS => ?_)
    have hP : va_P D vwCl (GM cy ad mt q2.1 mb mo ms mk my q2.2.1 q2.2.2.1 q2.2.2.2.1 q2.2.2.2.2.1 q2.2.2.2.2.2 mg mw mf ml mq) H := hP
    refine lv_aload_n hx hb dX12_units_99 rfl (lv_at hl 0 rfl) ?_
    refine lv_iload_n hx hb dX12_units_100 rfl (lv_at hl 2 rfl) ?_
    refine pM0_77 (v := v2) C hI hK hP hS w1444 dX12_units_101 (fun H locs hP hS => ?_)
    have hP : va_P D vwCl (GM cy ad mt (v2, q2.1.2.1, q2.1.2.2.1, q2.1.2.2.2) mb mo ms mk my q2.2.1 q2.2.2.1 q2.2.2.2.1 q2.2.2.2.2.1 q2.2.2.2.2.2 mg mw mf ml mq) H := hP
    refine lv_goto (tgt := 10) hx hb dX12_units_104 (by decide) ?_
    exact hk10 h (lv_sub hl [0] rfl) hP hS
  · rw [if_pos c1] at h
    obtain rfl := Option.some.inj h
    exact W.vret hx hb hr (fun t ht _ => ⟨rfl, by rw [ht]; exact hP, hS.F ht⟩) hS.2.2 dX12_units_87 hlk
def X12_units_10b (mb : Tmb) (ms : Tms)  (k10 : Tmc → Tmu → Tma → Tme → Tmr → Tmp → Option (Tmc × Tmu × Tma × Tme × Tmr × Tmp)) (mc : Tmc) (mu : Tmu) (ma : Tma) (me : Tme) (mr : Tmr) (mp : Tmp)  : Option (Tmc × Tmu × Tma × Tme × Tmr × Tmp) := (if (X12_isRight mc) = 0 then some (mc, mu, ma, me, mr, mp) else ((X12_endOf ms (3 : Int32)).bind fun q2 => (if mc.1 < q2 then ((X12_endOf ms (3 : Int32)).bind fun q5 => ((X12_endOf ms (3 : Int32)).bind fun q7 => ((X12_lengthIn (mc.1, q5, mc.2.2.1, mc.2.2.2) mb q7).bind fun q9 => (if (X12_isRight q9.2) = 0 then X12_units_80 mb ms k10 q9.2 mu ma me mr mp mc.1 q9.1 else (if inb mb.2.1 2 = true then (if (mu.1 (mb.2.1).toNatClampNeg) = (20 : Int32) then (letq (X12_fail q9.2 (4 : Int32) mc.1) fun q14 => X12_units_80 mb ms k10 q14 mu ma me mr mp mc.1 q9.1) else X12_units_80 mb ms k10 q9.2 mu ma me mr mp mc.1 q9.1) else none))))) else some (mc, mu, ma, me, mr, mp))))
def X12_units_10 (mb : Tmb) (ms : Tms)  (n : Nat) (st : Tmc × Tmu × Tma × Tme × Tmr × Tmp) : Option (Tmc × Tmu × Tma × Tme × Tmr × Tmp) := lp (fun rec st => X12_units_10b mb ms  (fun a0 a1 a2 a3 a4 a5 => rec (a0, a1, a2, a3, a4, a5)) st.1 st.2.1 st.2.2.1 st.2.2.2.1 st.2.2.2.2.1 st.2.2.2.2.2) n st
set_option maxRecDepth 20000 in
theorem bX12_units_10 (C : Cx p s m args meth c cX12_units 3 none RX12 (.code yX12_units cX12_units 3 none)) (hI : Apart ad 71) (hK : va_K D vwCl (tysX cy) s) (hN : NW s)  {q : Tmc × Tmu × Tma × Tme × Tmr × Tmp}  : ∀ (n : Nat) {mc : Tmc} {mu : Tmu} {ma : Tma} {me : Tme} {mr : Tmr} {mp : Tmp} , X12_units_10 mb ms  n (mc, mu, ma, me, mr, mp) = some q → ∀ {ls : Array Slot}, lv_has ls 3 [(0, .ref (ad 0))] → ∀ {H : Heap} {locs : List Loc}, va_P D vwCl (GM cy ad mt mc mb mo ms mk my mu ma me mr mp mg mw mf ml mq) H → va_S (Ac ad 71) s.heap H locs → W p l e ({ frames := 7, cells := 0, slots := 0, locals := 180 } : Room) s m args below meth c H locs 0 0 (MQ below (QR none D (GM cy ad mt q.1 mb mo ms mk my q.2.1 q.2.2.1 q.2.2.2.1 q.2.2.2.2.1 q.2.2.2.2.2 mg mw mf ml mq) (Ac ad 71)) args s 0 0 (Ac ad 71)) (F0 m 10 ls []) := by
  obtain ⟨hx, hb, hml, hown, hts, hr, hlk⟩ := id C
  intro n
  induction n with
  | zero =>
    intro mc mu ma me mr mp h ls hl H locs hP hS
    have h : (none : Option (Tmc × Tmu × Tma × Tme × Tmr × Tmp)) = some q := h
    cases h
  | succ n ih =>
    intro mc mu ma me mr mp h ls hl H locs hP hS
    have h : X12_units_10b mb ms  (fun a0 a1 a2 a3 a4 a5 => X12_units_10 mb ms  n (a0, a1, a2, a3, a4, a5)) mc mu ma me mr mp = some q := h
    unfold X12_units_10b at h
    refine lv_aload_n hx hb dX12_units_10 rfl (lv_at hl 0 rfl) ?_
    refine cPi (run_V (rest := []) C (kX12_isRight rfl) caX12_isRight w1682 ⟨rfl, rfl, Nat.le_of_ble_eq_true rfl, Nat.le_of_ble_eq_true rfl⟩ hK hN hP (rM0 hK hP) rfl hl.1 rfl (Nat.le_of_ble_eq_true rfl) dX12_units_11 ⟨Nat.zero_le _, Nat.zero_le _⟩) ?_
    refine lv_if_eq (tgt := 107) hx hb dX12_units_14 (by decide) (fun c1 => ?_) (fun c1 => ?_)
    · rw [if_pos c1] at h
      obtain rfl := Option.some.inj h
      exact W.vret hx hb hr (fun t ht _ => ⟨rfl, by rw [ht]; exact hP, hS.F ht⟩) hS.2.2 dX12_units_107 hlk
    · rw [if_neg c1] at h
      refine lv_aload_n hx hb dX12_units_17 rfl (lv_at hl 0 rfl) ?_
      refine gM0_77 (v := mc.1) C hK hP rfl w1444 dX12_units_18 ?_
      refine lv_aload_n hx hb dX12_units_21 rfl (lv_at hl 0 rfl) ?_
      refine lv_iconst (v := (3 : Int32)) hx hb dX12_units_22 (by decide) ?_
      obtain ⟨q2, h3, h⟩ := bnd h
      refine cPi (run_V (rest := [.int mc.1]) C (kX12_endOf h3) caX12_endOf w1712 ⟨rfl, rfl, Nat.le_of_ble_eq_true rfl, Nat.le_of_ble_eq_true rfl⟩ hK hN hP (rM0 hK hP) rfl hl.1 rfl (Nat.le_of_ble_eq_true rfl) dX12_units_23 ⟨Nat.zero_le _, Nat.zero_le _⟩) ?_
      refine b_icmp_ge (tgt := 107) hx hb dX12_units_26 (by decide) (fun c4 => ?_) (fun c4 => ?_)
      · rw [if_neg c4] at h
        obtain rfl := Option.some.inj h
        exact W.vret hx hb hr (fun t ht _ => ⟨rfl, by rw [ht]; exact hP, hS.F ht⟩) hS.2.2 dX12_units_107 hlk
      · rw [if_pos c4] at h
        refine lv_aload_n hx hb dX12_units_29 rfl (lv_at hl 0 rfl) ?_
        refine gM0_77 (v := mc.1) C hK hP rfl w1444 dX12_units_30 ?_
        refine lv_istore_n (lv' := [(1, .int mc.1), (0, .ref (ad 0))]) hx hb dX12_units_33 rfl hl (by decide) rfl (fun ls hl => ?_)
        refine lv_aload_n hx hb dX12_units_34 rfl (lv_at hl 1 rfl) ?_
        refine lv_aload_n hx hb dX12_units_35 rfl (lv_at hl 1 rfl) ?_
        refine lv_iconst (v := (3 : Int32)) hx hb dX12_units_36 (by decide) ?_
        obtain ⟨q5, h6, h⟩ := bnd h
        refine cPi (run_V (rest := [.ref (ad 0)]) C (kX12_endOf h6) caX12_endOf w1712 ⟨rfl, rfl, Nat.le_of_ble_eq_true rfl, Nat.le_of_ble_eq_true rfl⟩ hK hN hP (rM0 hK hP) rfl hl.1 rfl (Nat.le_of_ble_eq_true rfl) dX12_units_37 ⟨Nat.zero_le _, Nat.zero_le _⟩) ?_
        refine pM0_78 (v := q5) C hI hK hP hS w1445 dX12_units_40 (fun H locs hP hS => ?_)
        have hP : va_P D vwCl (GM cy ad mt (mc.1, q5, mc.2.2.1, mc.2.2.2) mb mo ms mk my mu ma me mr mp mg mw mf ml mq) H := hP
        refine lv_aload_n hx hb dX12_units_43 rfl (lv_at hl 1 rfl) ?_
        refine lv_aload_n hx hb dX12_units_44 rfl (lv_at hl 1 rfl) ?_
        refine lv_iconst (v := (3 : Int32)) hx hb dX12_units_45 (by decide) ?_
        obtain ⟨q7, h8, h⟩ := bnd h
        refine cPi (run_V (rest := [.ref (ad 0)]) C (kX12_endOf h8) caX12_endOf w1712 ⟨rfl, rfl, Nat.le_of_ble_eq_true rfl, Nat.le_of_ble_eq_true rfl⟩ hK hN hP (rM0 hK hP) rfl hl.1 rfl (Nat.le_of_ble_eq_true rfl) dX12_units_46 ⟨Nat.zero_le _, Nat.zero_le _⟩) ?_
        obtain ⟨q9, h10, h⟩ := bnd h
        refine cRi (run_V (rest := []) C (kX12_lengthIn hI h10) caX12_lengthIn w1720 ⟨rfl, rfl, Nat.le_of_ble_eq_true rfl, Nat.le_of_ble_eq_true rfl⟩ hK hN hP (rM0 hK hP) rfl hl.1 rfl (Nat.le_of_ble_eq_true rfl) dX12_units_49 ⟨Nat.zero_le _, Nat.zero_le _⟩) hS (fun H locs hP hS => ?_)
        have hP : va_P D vwCl (GM cy ad mt q9.2 mb mo ms mk my mu ma me mr mp mg mw mf ml mq) H := hP
        refine lv_istore_n (lv' := [(2, .int q9.1), (1, .int mc.1), (0, .ref (ad 0))]) hx hb dX12_units_52 rfl hl (by decide) rfl (fun ls hl => ?_)
        refine lv_aload_n hx hb dX12_units_53 rfl (lv_at hl 2 rfl) ?_
        refine cPi (run_V (rest := []) C (kX12_isRight rfl) caX12_isRight w1682 ⟨rfl, rfl, Nat.le_of_ble_eq_true rfl, Nat.le_of_ble_eq_true rfl⟩ hK hN hP (rM0 hK hP) rfl hl.1 rfl (Nat.le_of_ble_eq_true rfl) dX12_units_54 ⟨Nat.zero_le _, Nat.zero_le _⟩) ?_
        refine lv_if_eq (tgt := 80) hx hb dX12_units_57 (by decide) (fun c11 => ?_) (fun c11 => ?_)
        · rw [if_pos c11] at h
          exact bX12_units_80 C hI hK hN @ih h (lv_sub hl [2, 1, 0] rfl) hP hS
        · rw [if_neg c11] at h
          refine lv_aload_n hx hb dX12_units_60 rfl (lv_at hl 2 rfl) ?_
          refine gM0_12 C hK hP w1379 dX12_units_61 ?_
          refine lv_aload_n hx hb dX12_units_64 rfl (lv_at hl 2 rfl) ?_
          refine gM0_6 (v := mb.2.1) C hK hP rfl w1373 dX12_units_65 ?_
          obtain ⟨n12, h⟩ := grd h
          refine aM5 (f := mu.1) C hK hP rfl n12 dX12_units_68 ?_
          refine lv_bipush (v := (20 : Int32)) hx hb dX12_units_69 (by decide) ?_
          refine lv_icmp_ne (tgt := 80) hx hb dX12_units_71 (by decide) (fun c13 => ?_) (fun c13 => ?_)
          · rw [if_neg c13] at h
            exact bX12_units_80 C hI hK hN @ih h (lv_sub hl [2, 1, 0] rfl) hP hS
          · rw [if_pos c13] at h
            refine lv_aload_n hx hb dX12_units_74 rfl (lv_at hl 2 rfl) ?_
            refine lv_iconst (v := (4 : Int32)) hx hb dX12_units_75 (by decide) ?_
            refine lv_iload_n hx hb dX12_units_76 rfl (lv_at hl 1 rfl) ?_
            obtain ⟨q14, h15, h⟩ := lets h
            refine cRv (run_V (rest := []) C (kX12_fail hI h15) caX12_fail w1678 ⟨rfl, rfl, Nat.le_of_ble_eq_true rfl, Nat.le_of_ble_eq_true rfl⟩ hK hN hP (rM0 hK hP) rfl hl.1 rfl (Nat.le_of_ble_eq_true rfl) dX12_units_77 ⟨Nat.zero_le _, Nat.zero_le _⟩) hS (fun H locs hP hS => ?_)
            have hP : va_P D vwCl (GM cy ad mt q14 mb mo ms mk my mu ma me mr mp mg mw mf ml mq) H := hP
            exact bX12_units_80 C hI hK hN @ih h (lv_sub hl [2, 1, 0] rfl) hP hS
def X12_units (mc : Tmc) (mb : Tmb) (ms : Tms) (mu : Tmu) (ma : Tma) (me : Tme) (mr : Tmr) (mp : Tmp)  : Option (Tmc × Tmu × Tma × Tme × Tmr × Tmp) := (if inb (3 : Int32) 7 = true then X12_units_10 mb ms FU (((ms.2.2.2.2.1 ((3 : Int32)).toNatClampNeg), mc.2.1, mc.2.2.1, mc.2.2.2), mu, ma, me, mr, mp) else none)
set_option maxRecDepth 20000 in
theorem bX12_units_0 (C : Cx p s m args meth c cX12_units 3 none RX12 (.code yX12_units cX12_units 3 none)) (hI : Apart ad 71) (hK : va_K D vwCl (tysX cy) s) (hN : NW s)  {q : Tmc × Tmu × Tma × Tme × Tmr × Tmp}   (h : X12_units mc mb ms mu ma me mr mp = some q) {ls : Array Slot} (hl : lv_has ls 3 [(0, .ref (ad 0))]) {H : Heap} {locs : List Loc} (hP : va_P D vwCl (GM cy ad mt mc mb mo ms mk my mu ma me mr mp mg mw mf ml mq) H) (hS : va_S (Ac ad 71) s.heap H locs) : W p l e ({ frames := 7, cells := 0, slots := 0, locals := 180 } : Room) s m args below meth c H locs 0 0 (MQ below (QR none D (GM cy ad mt q.1 mb mo ms mk my q.2.1 q.2.2.1 q.2.2.2.1 q.2.2.2.2.1 q.2.2.2.2.2 mg mw mf ml mq) (Ac ad 71)) args s 0 0 (Ac ad 71)) (F0 m 0 ls []) := by
  obtain ⟨hx, hb, hml, hown, hts, hr, hlk⟩ := id C
  unfold X12_units at h
  refine lv_aload_n hx hb dX12_units_0 rfl (lv_at hl 0 rfl) ?_
  refine lv_aload_n hx hb dX12_units_1 rfl (lv_at hl 0 rfl) ?_
  refine gM0_20 C hK hP w1387 dX12_units_2 ?_
  refine lv_iconst (v := (3 : Int32)) hx hb dX12_units_5 (by decide) ?_
  obtain ⟨n1, h⟩ := grd h
  refine aM13 (f := ms.2.2.2.2.1) C hK hP rfl n1 dX12_units_6 ?_
  refine pM0_77 (v := (ms.2.2.2.2.1 ((3 : Int32)).toNatClampNeg)) C hI hK hP hS w1444 dX12_units_7 (fun H locs hP hS => ?_)
  have hP : va_P D vwCl (GM cy ad mt ((ms.2.2.2.2.1 ((3 : Int32)).toNatClampNeg), mc.2.1, mc.2.2.1, mc.2.2.2) mb mo ms mk my mu ma me mr mp mg mw mf ml mq) H := hP
  exact bX12_units_10 C hI hK hN FU h (lv_sub hl [0] rfl) hP hS
theorem kX12_units (hI : Apart ad 71)  {q : Tmc × Tmu × Tma × Tme × Tmr × Tmp} (h : X12_units mc mb ms mu ma me mr mp = some q) : Met l yX12_units (.code yX12_units cX12_units 3 none :: WA) ({ frames := 7, cells := 0, slots := 0, locals := 180 } : Room) (va_Pc [.ref (ad 0)] (PR D cy (GM cy ad mt mc mb mo ms mk my mu ma me mr mp mg mw mf ml mq))) (QR none D (GM cy ad mt q.1 mb mo ms mk my q.2.1 q.2.2.1 q.2.2.2.1 q.2.2.2.2.1 q.2.2.2.2.2 mg mw mf ml mq) (Ac ad 71)) 0 0 (Ac ad 71) :=
  met_of (by decide) (Nat.le_of_ble_eq_true rfl) (fun p e s m below meth c ls C hP hK hN hl => bX12_units_0 C hI hK hN h hl hP va_S.rf)
def X12_range_29 (mb : Tmb)  (mc : Tmc) (mg : Tmg) (v1 : Int32) (v2 : Int64) (v4 : Int64) : Option (Tmc × Tmg) := (if (X12_isRight mc) = 0 then some (mc, mg) else (if inb mb.2.1 2 = true then (if inb (((200 : Int32) * mb.2.1) + (mg.1 (mb.2.1).toNatClampNeg)) 400 = true then (if inb (((200 : Int32) * mb.2.1) + (mg.1 (mb.2.1).toNatClampNeg)) 400 = true then (if inb (((200 : Int32) * mb.2.1) + (mg.1 (mb.2.1).toNatClampNeg)) 400 = true then (if inb mb.2.1 2 = true then (if inb mb.2.1 2 = true then some (mc, ((upd mg.1 (mb.2.1).toNatClampNeg ((mg.1 (mb.2.1).toNatClampNeg) + (1 : Int32))), (upd mg.2.1 ((((200 : Int32) * mb.2.1) + (mg.1 (mb.2.1).toNatClampNeg))).toNatClampNeg v1), (vp_updL mg.2.2.1 ((((200 : Int32) * mb.2.1) + (mg.1 (mb.2.1).toNatClampNeg))).toNatClampNeg v2), (vp_updL mg.2.2.2 ((((200 : Int32) * mb.2.1) + (mg.1 (mb.2.1).toNatClampNeg))).toNatClampNeg v4))) else none) else none) else none) else none) else none) else none))
set_option maxRecDepth 20000 in
theorem bX12_range_29 (C : Cx p s m args meth c cX12_range 8 none RX12 (.code yX12_range cX12_range 8 none)) (hI : Apart ad 71) (hK : va_K D vwCl (tysX cy) s) (hN : NW s)  {q : Tmc × Tmg}  {v1 : Int32} {v2 : Int64} {v4 : Int64} (h : X12_range_29 mb mc mg v1 v2 v4 = some q) {ls : Array Slot} (hl : lv_has ls 8 [(0, .ref (ad 0)), (1, .int v1), (2, .long v2), (4, .long v4)]) {H : Heap} {locs : List Loc} (hP : va_P D vwCl (GM cy ad mt mc mb mo ms mk my mu ma me mr mp mg mw mf ml mq) H) (hS : va_S (Ac ad 71) s.heap H locs) : W p l e ({ frames := 1, cells := 0, slots := 0, locals := 22 } : Room) s m args below meth c H locs 0 0 (MQ below (QR none D (GM cy ad mt q.1 mb mo ms mk my mu ma me mr mp q.2 mw mf ml mq) (Ac ad 71)) args s 0 0 (Ac ad 71)) (F0 m 29 ls []) := by
  obtain ⟨hx, hb, hml, hown, hts, hr, hlk⟩ := id C
  unfold X12_range_29 at h
  refine lv_aload_n hx hb dX12_range_29 rfl (lv_at hl 0 rfl) ?_
  refine cPi (run_V (rest := []) C (kX12_isRight rfl) caX12_isRight w1682 ⟨rfl, rfl, Nat.le_of_ble_eq_true rfl, Nat.le_of_ble_eq_true rfl⟩ hK hN hP (rM0 hK hP) rfl hl.1 rfl (Nat.le_of_ble_eq_true rfl) dX12_range_30 ⟨Nat.zero_le _, Nat.zero_le _⟩) ?_
  refine lv_if_ne (tgt := 37) hx hb dX12_range_33 (by decide) (fun c1 => ?_) (fun c1 => ?_)
  · rw [if_neg c1] at h
    refine lv_sipush (v := (200 : Int32)) hx hb dX12_range_37 (by decide) ?_
    refine lv_aload_n hx hb dX12_range_40 rfl (lv_at hl 0 rfl) ?_
    refine gM0_6 (v := mb.2.1) C hK hP rfl w1373 dX12_range_41 ?_
    refine lv_imul hx hb dX12_range_44 ?_
    refine lv_aload_n hx hb dX12_range_45 rfl (lv_at hl 0 rfl) ?_
    refine gM0_14 C hK hP w1381 dX12_range_46 ?_
    refine lv_aload_n hx hb dX12_range_49 rfl (lv_at hl 0 rfl) ?_
    refine gM0_6 (v := mb.2.1) C hK hP rfl w1373 dX12_range_50 ?_
    obtain ⟨n2, h⟩ := grd h
    refine aM7 (f := mg.1) C hK hP rfl n2 dX12_range_53 ?_
    refine lv_iadd hx hb dX12_range_54 ?_
    refine lv_istore (lv' := [(7, .int (((200 : Int32) * mb.2.1) + (mg.1 (mb.2.1).toNatClampNeg))), (0, .ref (ad 0)), (1, .int v1), (2, .long v2), (4, .long v4)]) hx hb dX12_range_55 hl (by decide) rfl (fun ls hl => ?_)
    refine lv_aload_n hx hb dX12_range_57 rfl (lv_at hl 1 rfl) ?_
    refine gM0_67 C hK hP w1434 dX12_range_58 ?_
    refine lv_iload hx hb dX12_range_61 (lv_at hl 0 rfl) ?_
    refine lv_iload_n hx hb dX12_range_63 rfl (lv_at hl 2 rfl) ?_
    obtain ⟨n3, h⟩ := grd h
    refine sM57 (f := mg.2.1) C hI hK hP hS rfl n3 dX12_range_64 (fun H locs hP hS => ?_)
    have hP : va_P D vwCl (GM cy ad mt mc mb mo ms mk my mu ma me mr mp (mg.1, (upd mg.2.1 ((((200 : Int32) * mb.2.1) + (mg.1 (mb.2.1).toNatClampNeg))).toNatClampNeg v1), mg.2.2.1, mg.2.2.2) mw mf ml mq) H := hP
    refine lv_aload_n hx hb dX12_range_65 rfl (lv_at hl 1 rfl) ?_
    refine gM0_68 C hK hP w1435 dX12_range_66 ?_
    refine lv_iload hx hb dX12_range_69 (lv_at hl 0 rfl) ?_
    refine lv_lload_n hx hb dX12_range_71 rfl (lv_at hl 3 rfl) ?_
    obtain ⟨n4, h⟩ := grd h
    refine sM58 (f := mg.2.2.1) C hI hK hP hS rfl n4 dX12_range_72 (fun H locs hP hS => ?_)
    have hP : va_P D vwCl (GM cy ad mt mc mb mo ms mk my mu ma me mr mp (mg.1, (upd mg.2.1 ((((200 : Int32) * mb.2.1) + (mg.1 (mb.2.1).toNatClampNeg))).toNatClampNeg v1), (vp_updL mg.2.2.1 ((((200 : Int32) * mb.2.1) + (mg.1 (mb.2.1).toNatClampNeg))).toNatClampNeg v2), mg.2.2.2) mw mf ml mq) H := hP
    refine lv_aload_n hx hb dX12_range_73 rfl (lv_at hl 1 rfl) ?_
    refine gM0_69 C hK hP w1436 dX12_range_74 ?_
    refine lv_iload hx hb dX12_range_77 (lv_at hl 0 rfl) ?_
    refine lv_lload hx hb dX12_range_79 (lv_at hl 4 rfl) ?_
    obtain ⟨n5, h⟩ := grd h
    refine sM59 (f := mg.2.2.2) C hI hK hP hS rfl n5 dX12_range_81 (fun H locs hP hS => ?_)
    have hP : va_P D vwCl (GM cy ad mt mc mb mo ms mk my mu ma me mr mp (mg.1, (upd mg.2.1 ((((200 : Int32) * mb.2.1) + (mg.1 (mb.2.1).toNatClampNeg))).toNatClampNeg v1), (vp_updL mg.2.2.1 ((((200 : Int32) * mb.2.1) + (mg.1 (mb.2.1).toNatClampNeg))).toNatClampNeg v2), (vp_updL mg.2.2.2 ((((200 : Int32) * mb.2.1) + (mg.1 (mb.2.1).toNatClampNeg))).toNatClampNeg v4)) mw mf ml mq) H := hP
    refine lv_aload_n hx hb dX12_range_82 rfl (lv_at hl 1 rfl) ?_
    refine gM0_14 C hK hP w1381 dX12_range_83 ?_
    refine lv_aload_n hx hb dX12_range_86 rfl (lv_at hl 1 rfl) ?_
    refine gM0_6 (v := mb.2.1) C hK hP rfl w1373 dX12_range_87 ?_
    refine lv_dup2_11 hx hb dX12_range_90 rfl rfl ?_
    obtain ⟨n6, h⟩ := grd h
    refine aM7 (f := mg.1) C hK hP rfl n6 dX12_range_91 ?_
    refine lv_iconst (v := (1 : Int32)) hx hb dX12_range_92 (by decide) ?_
    refine lv_iadd hx hb dX12_range_93 ?_
    obtain ⟨n7, h⟩ := grd h
    refine sM7 (f := mg.1) C hI hK hP hS rfl n7 dX12_range_94 (fun H locs hP hS => ?_)
    have hP : va_P D vwCl (GM cy ad mt mc mb mo ms mk my mu ma me mr mp ((upd mg.1 (mb.2.1).toNatClampNeg ((mg.1 (mb.2.1).toNatClampNeg) + (1 : Int32))), (upd mg.2.1 ((((200 : Int32) * mb.2.1) + (mg.1 (mb.2.1).toNatClampNeg))).toNatClampNeg v1), (vp_updL mg.2.2.1 ((((200 : Int32) * mb.2.1) + (mg.1 (mb.2.1).toNatClampNeg))).toNatClampNeg v2), (vp_updL mg.2.2.2 ((((200 : Int32) * mb.2.1) + (mg.1 (mb.2.1).toNatClampNeg))).toNatClampNeg v4)) mw mf ml mq) H := hP
    obtain rfl := Option.some.inj h
    exact W.vret hx hb hr (fun t ht _ => ⟨rfl, by rw [ht]; exact hP, hS.F ht⟩) hS.2.2 dX12_range_95 hlk
  · rw [if_pos c1] at h
    obtain rfl := Option.some.inj h
    exact W.vret hx hb hr (fun t ht _ => ⟨rfl, by rw [ht]; exact hP, hS.F ht⟩) hS.2.2 dX12_range_36 hlk
def X12_range (mc : Tmc) (mb : Tmb) (mg : Tmg) (v1 : Int32) (v2 : Int64) (v4 : Int64) (v6 : Int32) : Option (Tmc × Tmg) := (if (X12_isRight mc) = 0 then X12_range_29 mb mc mg v1 v2 v4 else (if inb mb.2.1 2 = true then (if (mg.1 (mb.2.1).toNatClampNeg) = (200 : Int32) then (letq (X12_fail mc (4 : Int32) v6) fun q4 => X12_range_29 mb q4 mg v1 v2 v4) else X12_range_29 mb mc mg v1 v2 v4) else none))
set_option maxRecDepth 20000 in
theorem bX12_range_0 (C : Cx p s m args meth c cX12_range 8 none RX12 (.code yX12_range cX12_range 8 none)) (hI : Apart ad 71) (hK : va_K D vwCl (tysX cy) s) (hN : NW s)  {q : Tmc × Tmg}  {v1 : Int32} {v2 : Int64} {v4 : Int64} {v6 : Int32} (h : X12_range mc mb mg v1 v2 v4 v6 = some q) {ls : Array Slot} (hl : lv_has ls 8 [(0, .ref (ad 0)), (1, .int v1), (2, .long v2), (4, .long v4), (6, .int v6)]) {H : Heap} {locs : List Loc} (hP : va_P D vwCl (GM cy ad mt mc mb mo ms mk my mu ma me mr mp mg mw mf ml mq) H) (hS : va_S (Ac ad 71) s.heap H locs) : W p l e ({ frames := 1, cells := 0, slots := 0, locals := 22 } : Room) s m args below meth c H locs 0 0 (MQ below (QR none D (GM cy ad mt q.1 mb mo ms mk my mu ma me mr mp q.2 mw mf ml mq) (Ac ad 71)) args s 0 0 (Ac ad 71)) (F0 m 0 ls []) := by
  obtain ⟨hx, hb, hml, hown, hts, hr, hlk⟩ := id C
  unfold X12_range at h
  refine lv_aload_n hx hb dX12_range_0 rfl (lv_at hl 0 rfl) ?_
  refine cPi (run_V (rest := []) C (kX12_isRight rfl) caX12_isRight w1682 ⟨rfl, rfl, Nat.le_of_ble_eq_true rfl, Nat.le_of_ble_eq_true rfl⟩ hK hN hP (rM0 hK hP) rfl hl.1 rfl (Nat.le_of_ble_eq_true rfl) dX12_range_1 ⟨Nat.zero_le _, Nat.zero_le _⟩) ?_
  refine lv_if_eq (tgt := 29) hx hb dX12_range_4 (by decide) (fun c1 => ?_) (fun c1 => ?_)
  · rw [if_pos c1] at h
    exact bX12_range_29 C hI hK hN h (lv_sub hl [0, 1, 2, 3] rfl) hP hS
  · rw [if_neg c1] at h
    refine lv_aload_n hx hb dX12_range_7 rfl (lv_at hl 0 rfl) ?_
    refine gM0_14 C hK hP w1381 dX12_range_8 ?_
    refine lv_aload_n hx hb dX12_range_11 rfl (lv_at hl 0 rfl) ?_
    refine gM0_6 (v := mb.2.1) C hK hP rfl w1373 dX12_range_12 ?_
    obtain ⟨n2, h⟩ := grd h
    refine aM7 (f := mg.1) C hK hP rfl n2 dX12_range_15 ?_
    refine lv_sipush (v := (200 : Int32)) hx hb dX12_range_16 (by decide) ?_
    refine lv_icmp_ne (tgt := 29) hx hb dX12_range_19 (by decide) (fun c3 => ?_) (fun c3 => ?_)
    · rw [if_neg c3] at h
      exact bX12_range_29 C hI hK hN h (lv_sub hl [0, 1, 2, 3] rfl) hP hS
    · rw [if_pos c3] at h
      refine lv_aload_n hx hb dX12_range_22 rfl (lv_at hl 0 rfl) ?_
      refine lv_iconst (v := (4 : Int32)) hx hb dX12_range_23 (by decide) ?_
      refine lv_iload hx hb dX12_range_24 (lv_at hl 4 rfl) ?_
      obtain ⟨q4, h5, h⟩ := lets h
      refine cRv (run_V (rest := []) C (kX12_fail hI h5) caX12_fail w1678 ⟨rfl, rfl, Nat.le_of_ble_eq_true rfl, Nat.le_of_ble_eq_true rfl⟩ hK hN hP (rM0 hK hP) rfl hl.1 rfl (Nat.le_of_ble_eq_true rfl) dX12_range_26 ⟨Nat.zero_le _, Nat.zero_le _⟩) hS (fun H locs hP hS => ?_)
      have hP : va_P D vwCl (GM cy ad mt q4 mb mo ms mk my mu ma me mr mp mg mw mf ml mq) H := hP
      exact bX12_range_29 C hI hK hN h (lv_sub hl [0, 1, 2, 3] rfl) hP hS
theorem kX12_range (hI : Apart ad 71) {v1 : Int32} {v2 : Int64} {v4 : Int64} {v6 : Int32} {q : Tmc × Tmg} (h : X12_range mc mb mg v1 v2 v4 v6 = some q) : Met l yX12_range (.code yX12_range cX12_range 8 none :: WA) ({ frames := 1, cells := 0, slots := 0, locals := 22 } : Room) (va_Pc [.ref (ad 0), .int v1, .long v2, .long v4, .int v6] (PR D cy (GM cy ad mt mc mb mo ms mk my mu ma me mr mp mg mw mf ml mq))) (QR none D (GM cy ad mt q.1 mb mo ms mk my mu ma me mr mp q.2 mw mf ml mq) (Ac ad 71)) 0 0 (Ac ad 71) :=
  met_of (by decide) (Nat.le_of_ble_eq_true rfl) (fun p e s m below meth c ls C hP hK hN hl => bX12_range_0 C hI hK hN h hl hP va_S.rf)
def X12_spans_19 (mb : Tmb)  (mc : Tmc) (mg : Tmg) (v1 : Int32) (v2 : Int64) (v4 : Int64) (v7 : Int32) : Option (Tmc × Tmg) := ((X12_range mc mb mg v1 v2 v4 v7).bind fun q1 => some (q1.1, q1.2))
set_option maxRecDepth 20000 in
theorem bX12_spans_19 (C : Cx p s m args meth c cX12_spans 8 none RX12 (.code yX12_spans cX12_spans 8 none)) (hI : Apart ad 71) (hK : va_K D vwCl (tysX cy) s) (hN : NW s)  {q : Tmc × Tmg}  {v1 : Int32} {v2 : Int64} {v4 : Int64} {v7 : Int32} (h : X12_spans_19 mb mc mg v1 v2 v4 v7 = some q) {ls : Array Slot} (hl : lv_has ls 8 [(0, .ref (ad 0)), (1, .int v1), (2, .long v2), (4, .long v4), (7, .int v7)]) {H : Heap} {locs : List Loc} (hP : va_P D vwCl (GM cy ad mt mc mb mo ms mk my mu ma me mr mp mg mw mf ml mq) H) (hS : va_S (Ac ad 71) s.heap H locs) : W p l e ({ frames := 2, cells := 0, slots := 0, locals := 49 } : Room) s m args below meth c H locs 0 0 (MQ below (QR none D (GM cy ad mt q.1 mb mo ms mk my mu ma me mr mp q.2 mw mf ml mq) (Ac ad 71)) args s 0 0 (Ac ad 71)) (F0 m 19 ls []) := by
  obtain ⟨hx, hb, hml, hown, hts, hr, hlk⟩ := id C
  unfold X12_spans_19 at h
  refine lv_aload_n hx hb dX12_spans_19 rfl (lv_at hl 0 rfl) ?_
  refine lv_iload_n hx hb dX12_spans_20 rfl (lv_at hl 1 rfl) ?_
  refine lv_lload_n hx hb dX12_spans_21 rfl (lv_at hl 2 rfl) ?_
  refine lv_lload hx hb dX12_spans_22 (lv_at hl 3 rfl) ?_
  refine lv_iload hx hb dX12_spans_24 (lv_at hl 4 rfl) ?_
  obtain ⟨q1, h2, h⟩ := bnd h
  refine cRv (run_V (rest := []) C (kX12_range hI h2) caX12_range w1821 ⟨rfl, rfl, Nat.le_of_ble_eq_true rfl, Nat.le_of_ble_eq_true rfl⟩ hK hN hP (rM0 hK hP) rfl hl.1 rfl (Nat.le_of_ble_eq_true rfl) dX12_spans_26 ⟨Nat.zero_le _, Nat.zero_le _⟩) hS (fun H locs hP hS => ?_)
  have hP : va_P D vwCl (GM cy ad mt q1.1 mb mo ms mk my mu ma me mr mp q1.2 mw mf ml mq) H := hP
  obtain rfl := Option.some.inj h
  exact W.vret hx hb hr (fun t ht _ => ⟨rfl, by rw [ht]; exact hP, hS.F ht⟩) hS.2.2 dX12_spans_29 hlk
def X12_spans_12 (mb : Tmb)  (mc : Tmc) (mg : Tmg) (v1 : Int32) (v2 : Int64) (v4 : Int64) (v7 : Int32) : Option (Tmc × Tmg) := (letq (X12_fail mc (2 : Int32) v7) fun q1 => X12_spans_19 mb q1 mg v1 v2 v4 v7)
set_option maxRecDepth 20000 in
theorem bX12_spans_12 (C : Cx p s m args meth c cX12_spans 8 none RX12 (.code yX12_spans cX12_spans 8 none)) (hI : Apart ad 71) (hK : va_K D vwCl (tysX cy) s) (hN : NW s)  {q : Tmc × Tmg}  {v1 : Int32} {v2 : Int64} {v4 : Int64} {v7 : Int32} (h : X12_spans_12 mb mc mg v1 v2 v4 v7 = some q) {ls : Array Slot} (hl : lv_has ls 8 [(0, .ref (ad 0)), (1, .int v1), (2, .long v2), (4, .long v4), (7, .int v7)]) {H : Heap} {locs : List Loc} (hP : va_P D vwCl (GM cy ad mt mc mb mo ms mk my mu ma me mr mp mg mw mf ml mq) H) (hS : va_S (Ac ad 71) s.heap H locs) : W p l e ({ frames := 2, cells := 0, slots := 0, locals := 49 } : Room) s m args below meth c H locs 0 0 (MQ below (QR none D (GM cy ad mt q.1 mb mo ms mk my mu ma me mr mp q.2 mw mf ml mq) (Ac ad 71)) args s 0 0 (Ac ad 71)) (F0 m 12 ls []) := by
  obtain ⟨hx, hb, hml, hown, hts, hr, hlk⟩ := id C
  unfold X12_spans_12 at h
  refine lv_aload_n hx hb dX12_spans_12 rfl (lv_at hl 0 rfl) ?_
  refine lv_iconst (v := (2 : Int32)) hx hb dX12_spans_13 (by decide) ?_
  refine lv_iload hx hb dX12_spans_14 (lv_at hl 4 rfl) ?_
  obtain ⟨q1, h2, h⟩ := lets h
  refine cRv (run_V (rest := []) C (kX12_fail hI h2) caX12_fail w1678 ⟨rfl, rfl, Nat.le_of_ble_eq_true rfl, Nat.le_of_ble_eq_true rfl⟩ hK hN hP (rM0 hK hP) rfl hl.1 rfl (Nat.le_of_ble_eq_true rfl) dX12_spans_16 ⟨Nat.zero_le _, Nat.zero_le _⟩) hS (fun H locs hP hS => ?_)
  have hP : va_P D vwCl (GM cy ad mt q1 mb mo ms mk my mu ma me mr mp mg mw mf ml mq) H := hP
  exact bX12_spans_19 C hI hK hN h (lv_sub hl [0, 1, 2, 3, 4] rfl) hP hS
def X12_spans (mc : Tmc) (mb : Tmb) (mg : Tmg) (v1 : Int32) (v2 : Int64) (v4 : Int64) (v6 : Int32) (v7 : Int32) : Option (Tmc × Tmg) := (if v6 = 0 then X12_spans_12 mb mc mg v1 v2 v4 v7 else (if v4 < v2 then X12_spans_12 mb mc mg v1 v2 v4 v7 else X12_spans_19 mb mc mg v1 v2 v4 v7))
set_option maxRecDepth 20000 in
theorem bX12_spans_0 (C : Cx p s m args meth c cX12_spans 8 none RX12 (.code yX12_spans cX12_spans 8 none)) (hI : Apart ad 71) (hK : va_K D vwCl (tysX cy) s) (hN : NW s)  {q : Tmc × Tmg}  {v1 : Int32} {v2 : Int64} {v4 : Int64} {v6 : Int32} {v7 : Int32} (h : X12_spans mc mb mg v1 v2 v4 v6 v7 = some q) {ls : Array Slot} (hl : lv_has ls 8 [(0, .ref (ad 0)), (1, .int v1), (2, .long v2), (4, .long v4), (6, .int v6), (7, .int v7)]) {H : Heap} {locs : List Loc} (hP : va_P D vwCl (GM cy ad mt mc mb mo ms mk my mu ma me mr mp mg mw mf ml mq) H) (hS : va_S (Ac ad 71) s.heap H locs) : W p l e ({ frames := 2, cells := 0, slots := 0, locals := 49 } : Room) s m args below meth c H locs 0 0 (MQ below (QR none D (GM cy ad mt q.1 mb mo ms mk my mu ma me mr mp q.2 mw mf ml mq) (Ac ad 71)) args s 0 0 (Ac ad 71)) (F0 m 0 ls []) := by
  obtain ⟨hx, hb, hml, hown, hts, hr, hlk⟩ := id C
  unfold X12_spans at h
  refine lv_iload hx hb dX12_spans_0 (lv_at hl 4 rfl) ?_
  refine lv_if_eq (tgt := 12) hx hb dX12_spans_2 (by decide) (fun c1 => ?_) (fun c1 => ?_)
  · rw [if_pos c1] at h
    exact bX12_spans_12 C hI hK hN h (lv_sub hl [0, 1, 2, 3, 5] rfl) hP hS
  · rw [if_neg c1] at h
    refine lv_lload hx hb dX12_spans_5 (lv_at hl 3 rfl) ?_
    refine lv_lload_n hx hb dX12_spans_7 rfl (lv_at hl 2 rfl) ?_
    refine lc_ge (tgt := 19) hx hb dX12_spans_8 dX12_spans_9 (by decide) (fun c2 => ?_) (fun c2 => ?_)
    · rw [if_neg c2] at h
      exact bX12_spans_19 C hI hK hN h (lv_sub hl [0, 1, 2, 3, 5] rfl) hP hS
    · rw [if_pos c2] at h
      exact bX12_spans_12 C hI hK hN h (lv_sub hl [0, 1, 2, 3, 5] rfl) hP hS
theorem kX12_spans (hI : Apart ad 71) {v1 : Int32} {v2 : Int64} {v4 : Int64} {v6 : Int32} {v7 : Int32} {q : Tmc × Tmg} (h : X12_spans mc mb mg v1 v2 v4 v6 v7 = some q) : Met l yX12_spans (.code yX12_spans cX12_spans 8 none :: WA) ({ frames := 2, cells := 0, slots := 0, locals := 49 } : Room) (va_Pc [.ref (ad 0), .int v1, .long v2, .long v4, .int v6, .int v7] (PR D cy (GM cy ad mt mc mb mo ms mk my mu ma me mr mp mg mw mf ml mq))) (QR none D (GM cy ad mt q.1 mb mo ms mk my mu ma me mr mp q.2 mw mf ml mq) (Ac ad 71)) 0 0 (Ac ad 71) :=
  met_of (by decide) (Nat.le_of_ble_eq_true rfl) (fun p e s m below meth c ls C hP hK hN hl => bX12_spans_0 C hI hK hN h hl hP va_S.rf)
end
