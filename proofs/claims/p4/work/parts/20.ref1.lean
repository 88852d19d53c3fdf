section
variable {t adK adV : Nat → Nat} {k : Nat}
variable {p : Program} {l : Launch} {e : Env} {s : State} {m : MethodId} {args : Array Value} {below : List Frame} {meth : Method} {c : Code} {D : va_G} {cy : Nat → ClassId} {ad : Nat → Nat}
variable {mt : Tmt} {mc : Tmc} {mb : Tmb} {mo : Tmo} {ms : Tms} {mk : Tmk} {my : Tmy} {mu : Tmu} {ma : Tma} {me : Tme} {mr : Tmr} {mp : Tmp} {mg : Tmg} {mw : Tmw} {mf : Tmf} {ml : Tml} {mq : Tmq}
def X12_feed_71  (k18 : Tmt → Int32 → Int32 → Int32 → Int32 → Int32 → Int32 → Option (Int32 × Tmt)) (mt : Tmt) (v1 : Int32) (v2 : Int32) (v3 : Int32) (v4 : Int32) (v5 : Int32) (v6 : Int32) (z0 : Int32) : Option (Int32 × Tmt) := (if inb mt.2 8000 = true then k18 ((upd mt.1 (mt.2).toNatClampNeg ((z0 >>> (((24 : Int32) - ((8 : Int32) * (v6 - v6 / (4 : Int32) * (4 : Int32)))) &&& 31)) &&& (255 : Int32))), (mt.2 + (1 : Int32))) v1 v2 v3 v4 v5 (v6 + (1 : Int32)) else none)
set_option maxRecDepth 20000 in
theorem bX12_feed_71 (C : Cx p s m args meth c cX12_feed 8 (some .int) RX12 (.code yX12_feed cX12_feed 8 (some .int))) (hI : Apart ad 71) (hK : va_K D vwCl (tysX cy) s) (hN : NW s) {k18 : Tmt → Int32 → Int32 → Int32 → Int32 → Int32 → Int32 → Option (Int32 × Tmt)} {q : Int32 × Tmt} (hk18 : ∀ {mt : Tmt} {v1 : Int32} {v2 : Int32} {v3 : Int32} {v4 : Int32} {v5 : Int32} {v6 : Int32}, k18 mt v1 v2 v3 v4 v5 v6 = some q → ∀ {ls : Array Slot}, lv_has ls 8 [(0, .ref (ad 0)), (1, .int v1), (2, .int v2), (3, .int v3), (4, .int v4), (5, .int v5), (6, .int v6)] → ∀ {H : Heap} {locs : List Loc}, va_P D vwCl (GM cy ad mt mc mb mo ms mk my mu ma me mr mp mg mw mf ml mq) H → va_S (Ac ad 71) s.heap H locs → W p l e ({ frames := 0, cells := 0, slots := 0, locals := 0 } : Room) s m args below meth c H locs 0 0 (MQ below (QR (some (.int q.1)) D (GM cy ad q.2 mc mb mo ms mk my mu ma me mr mp mg mw mf ml mq) (Ac ad 71)) args s 0 0 (Ac ad 71)) (F0 m 18 ls [])) {v1 : Int32} {v2 : Int32} {v3 : Int32} {v4 : Int32} {v5 : Int32} {v6 : Int32} {z0 : Int32} (h : X12_feed_71 k18 mt v1 v2 v3 v4 v5 v6 z0 = some q) {ls : Array Slot} (hl : lv_has ls 8 [(0, .ref (ad 0)), (1, .int v1), (2, .int v2), (3, .int v3), (4, .int v4), (5, .int v5), (6, .int v6)]) {H : Heap} {locs : List Loc} (hP : va_P D vwCl (GM cy ad mt mc mb mo ms mk my mu ma me mr mp mg mw mf ml mq) H) (hS : va_S (Ac ad 71) s.heap H locs) : W p l e ({ frames := 0, cells := 0, slots := 0, locals := 0 } : Room) s m args below meth c H locs 0 0 (MQ below (QR (some (.int q.1)) D (GM cy ad q.2 mc mb mo ms mk my mu ma me mr mp mg mw mf ml mq) (Ac ad 71)) args s 0 0 (Ac ad 71)) (F0 m 71 ls [.int z0]) := by
  obtain ⟨hx, hb, hml, hown, hts, hr, hlk⟩ := id C
  unfold X12_feed_71 at h
  refine lv_istore (lv' := [(7, .int z0), (0, .ref (ad 0)), (1, .int v1), (2, .int v2), (3, .int v3), (4, .int v4), (5, .int v5), (6, .int v6)]) hx hb dX12_feed_71 hl (by decide) rfl (fun ls hl => ?_)
  refine lv_aload_n hx hb dX12_feed_73 rfl (lv_at hl 1 rfl) ?_
  refine gM0_0 C hK hP w1367 dX12_feed_74 ?_
  refine lv_aload_n hx hb dX12_feed_77 rfl (lv_at hl 1 rfl) ?_
  refine gM0_1 (v := mt.2) C hK hP rfl w1368 dX12_feed_78 ?_
  refine lv_iload hx hb dX12_feed_81 (lv_at hl 0 rfl) ?_
  refine lv_bipush (v := (24 : Int32)) hx hb dX12_feed_83 (by decide) ?_
  refine lv_bipush (v := (8 : Int32)) hx hb dX12_feed_85 (by decide) ?_
  refine lv_iload hx hb dX12_feed_87 (lv_at hl 7 rfl) ?_
  refine lv_iconst (v := (4 : Int32)) hx hb dX12_feed_89 (by decide) ?_
  refine lv_irem hx hb dX12_feed_90 (by decide) ?_
  refine lv_imul hx hb dX12_feed_91 ?_
  refine lv_isub hx hb dX12_feed_92 ?_
  refine lv_ishr hx hb dX12_feed_93 ?_
  refine lv_sipush (v := (255 : Int32)) hx hb dX12_feed_94 (by decide) ?_
  refine lv_iand hx hb dX12_feed_97 ?_
  obtain ⟨n1, h⟩ := grd h
  refine sM1 (f := mt.1) C hI hK hP hS rfl n1 dX12_feed_98 (fun H locs hP hS => ?_)
  have hP : va_P D vwCl (GM cy ad ((upd mt.1 (mt.2).toNatClampNeg ((z0 >>> (((24 : Int32) - ((8 : Int32) * (v6 - v6 / (4 : Int32) * (4 : Int32)))) &&& 31)) &&& (255 : Int32))), mt.2) mc mb mo ms mk my mu ma me mr mp mg mw mf ml mq) H := hP
  refine lv_aload_n hx hb dX12_feed_99 rfl (lv_at hl 1 rfl) ?_
  refine lv_dup hx hb dX12_feed_100 rfl ?_
  refine gM0_1 (v := mt.2) C hK hP rfl w1368 dX12_feed_101 ?_
  refine lv_iconst (v := (1 : Int32)) hx hb dX12_feed_104 (by decide) ?_
  refine lv_iadd hx hb dX12_feed_105 ?_
  refine pM0_1 (v := (mt.2 + (1 : Int32))) C hI hK hP hS w1368 dX12_feed_106 (fun H locs hP hS => ?_)
  have hP : va_P D vwCl (GM cy ad ((upd mt.1 (mt.2).toNatClampNeg ((z0 >>> (((24 : Int32) - ((8 : Int32) * (v6 - v6 / (4 : Int32) * (4 : Int32)))) &&& 31)) &&& (255 : Int32))), (mt.2 + (1 : Int32))) mc mb mo ms mk my mu ma me mr mp mg mw mf ml mq) H := hP
  refine lv_iinc (v := (v6 + (1 : Int32))) (lv' := [(6, .int (v6 + (1 : Int32))), (7, .int z0), (0, .ref (ad 0)), (1, .int v1), (2, .int v2), (3, .int v3), (4, .int v4), (5, .int v5)]) hx hb dX12_feed_109 hl (k := 7) rfl rfl (by decide) rfl (fun ls hl => ?_)
  refine lv_goto (tgt := 18) hx hb dX12_feed_112 (by decide) ?_
  exact hk18 h (lv_sub hl [2, 3, 4, 5, 6, 7, 0] rfl) hP hS
def X12_feed_18b   (k18 : Tmt → Int32 → Int32 → Int32 → Int32 → Int32 → Int32 → Option (Int32 × Tmt)) (mt : Tmt) (v1 : Int32) (v2 : Int32) (v3 : Int32) (v4 : Int32) (v5 : Int32) (v6 : Int32) : Option (Int32 × Tmt) := (if v6 < (20 : Int32) then (if v6 < (4 : Int32) then X12_feed_71 k18 mt v1 v2 v3 v4 v5 v6 v1 else (if v6 < (8 : Int32) then X12_feed_71 k18 mt v1 v2 v3 v4 v5 v6 v2 else (if v6 < (12 : Int32) then X12_feed_71 k18 mt v1 v2 v3 v4 v5 v6 v3 else (if v6 < (16 : Int32) then X12_feed_71 k18 mt v1 v2 v3 v4 v5 v6 v4 else X12_feed_71 k18 mt v1 v2 v3 v4 v5 v6 v5)))) else some (mt.2, mt))
def X12_feed_18   (n : Nat) (st : Tmt × Int32 × Int32 × Int32 × Int32 × Int32 × Int32) : Option (Int32 × Tmt) := lp (fun rec st => X12_feed_18b   (fun a0 a1 a2 a3 a4 a5 a6 => rec (a0, a1, a2, a3, a4, a5, a6)) st.1 st.2.1 st.2.2.1 st.2.2.2.1 st.2.2.2.2.1 st.2.2.2.2.2.1 st.2.2.2.2.2.2) n st
set_option maxRecDepth 20000 in
theorem bX12_feed_18 (C : Cx p s m args meth c cX12_feed 8 (some .int) RX12 (.code yX12_feed cX12_feed 8 (some .int))) (hI : Apart ad 71) (hK : va_K D vwCl (tysX cy) s) (hN : NW s)  {q : Int32 × Tmt}  : ∀ (n : Nat) {mt : Tmt} {v1 : Int32} {v2 : Int32} {v3 : Int32} {v4 : Int32} {v5 : Int32} {v6 : Int32}, X12_feed_18   n (mt, v1, v2, v3, v4, v5, v6) = some q → ∀ {ls : Array Slot}, lv_has ls 8 [(0, .ref (ad 0)), (1, .int v1), (2, .int v2), (3, .int v3), (4, .int v4), (5, .int v5), (6, .int v6)] → ∀ {H : Heap} {locs : List Loc}, va_P D vwCl (GM cy ad mt mc mb mo ms mk my mu ma me mr mp mg mw mf ml mq) H → va_S (Ac ad 71) s.heap H locs → W p l e ({ frames := 0, cells := 0, slots := 0, locals := 0 } : Room) s m args below meth c H locs 0 0 (MQ below (QR (some (.int q.1)) D (GM cy ad q.2 mc mb mo ms mk my mu ma me mr mp mg mw mf ml mq) (Ac ad 71)) args s 0 0 (Ac ad 71)) (F0 m 18 ls []) := by
  obtain ⟨hx, hb, hml, hown, hts, hr, hlk⟩ := id C
  intro n
  induction n with
  | zero =>
    intro mt v1 v2 v3 v4 v5 v6 h ls hl H locs hP hS
    have h : (none : Option (Int32 × Tmt)) = some q := h
    cases h
  | succ n ih =>
    intro mt v1 v2 v3 v4 v5 v6 h ls hl H locs hP hS
    have h : X12_feed_18b   (fun a0 a1 a2 a3 a4 a5 a6 => X12_feed_18   n (a0, a1, a2, a3, a4, a5, a6)) mt v1 v2 v3 v4 v5 v6 = some q := h
    unfold X12_feed_18b at h
    refine lv_iload hx hb dX12_feed_18 (lv_at hl 6 rfl) ?_
    refine lv_bipush (v := (20 : Int32)) hx hb dX12_feed_20 (by decide) ?_
    refine b_icmp_ge (tgt := 115) hx hb dX12_feed_22 (by decide) (fun c1 => ?_) (fun c1 => ?_)
    · rw [if_neg c1] at h
      refine lv_aload_n hx hb dX12_feed_115 rfl (lv_at hl 0 rfl) ?_
      refine gM0_1 (v := mt.2) C hK hP rfl w1368 dX12_feed_116 ?_
      obtain rfl := Option.some.inj h
      exact W.iret hx hb hr (fun t ht _ => ⟨rfl, by rw [ht]; exact hP, hS.F ht⟩) hS.2.2 dX12_feed_119 hlk
    · rw [if_pos c1] at h
      refine lv_iload hx hb dX12_feed_25 (lv_at hl 6 rfl) ?_
      refine lv_iconst (v := (4 : Int32)) hx hb dX12_feed_27 (by decide) ?_
      refine b_icmp_ge (tgt := 35) hx hb dX12_feed_28 (by decide) (fun c2 => ?_) (fun c2 => ?_)
      · rw [if_neg c2] at h
        refine lv_iload hx hb dX12_feed_35 (lv_at hl 6 rfl) ?_
        refine lv_bipush (v := (8 : Int32)) hx hb dX12_feed_37 (by decide) ?_
        refine b_icmp_ge (tgt := 46) hx hb dX12_feed_39 (by decide) (fun c3 => ?_) (fun c3 => ?_)
        · rw [if_neg c3] at h
          refine lv_iload hx hb dX12_feed_46 (lv_at hl 6 rfl) ?_
          refine lv_bipush (v := (12 : Int32)) hx hb dX12_feed_48 (by decide) ?_
          refine b_icmp_ge (tgt := 57) hx hb dX12_feed_50 (by decide) (fun c4 => ?_) (fun c4 => ?_)
          · rw [if_neg c4] at h
            refine lv_iload hx hb dX12_feed_57 (lv_at hl 6 rfl) ?_
            refine lv_bipush (v := (16 : Int32)) hx hb dX12_feed_59 (by decide) ?_
            refine b_icmp_ge (tgt := 69) hx hb dX12_feed_61 (by decide) (fun c5 => ?_) (fun c5 => ?_)
            · rw [if_neg c5] at h
              refine lv_iload hx hb dX12_feed_69 (lv_at hl 5 rfl) ?_
              exact bX12_feed_71 C hI hK hN @ih h (lv_sub hl [0, 1, 2, 3, 4, 5, 6] rfl) hP hS
            · rw [if_pos c5] at h
              refine lv_iload hx hb dX12_feed_64 (lv_at hl 4 rfl) ?_
              refine lv_goto (tgt := 71) hx hb dX12_feed_66 (by decide) ?_
              exact bX12_feed_71 C hI hK hN @ih h (lv_sub hl [0, 1, 2, 3, 4, 5, 6] rfl) hP hS
          · rw [if_pos c4] at h
            refine lv_iload_n hx hb dX12_feed_53 rfl (lv_at hl 3 rfl) ?_
            refine lv_goto (tgt := 71) hx hb dX12_feed_54 (by decide) ?_
            exact bX12_feed_71 C hI hK hN @ih h (lv_sub hl [0, 1, 2, 3, 4, 5, 6] rfl) hP hS
        · rw [if_pos c3] at h
          refine lv_iload_n hx hb dX12_feed_42 rfl (lv_at hl 2 rfl) ?_
          refine lv_goto (tgt := 71) hx hb dX12_feed_43 (by decide) ?_
          exact bX12_feed_71 C hI hK hN @ih h (lv_sub hl [0, 1, 2, 3, 4, 5, 6] rfl) hP hS
      · rw [if_pos c2] at h
        refine lv_iload_n hx hb dX12_feed_31 rfl (lv_at hl 1 rfl) ?_
        refine lv_goto (tgt := 71) hx hb dX12_feed_32 (by decide) ?_
        exact bX12_feed_71 C hI hK hN @ih h (lv_sub hl [0, 1, 2, 3, 4, 5, 6] rfl) hP hS
def X12_feed (mt : Tmt) (v1 : Int32) (v2 : Int32) (v3 : Int32) (v4 : Int32) (v5 : Int32) : Option (Int32 × Tmt) := (if (8000 : Int32) < (mt.2 + (20 : Int32)) then some ((-1 : Int32), mt) else X12_feed_18 FU (mt, v1, v2, v3, v4, v5, (0 : Int32)))
set_option maxRecDepth 20000 in
theorem bX12_feed_0 (C : Cx p s m args meth c cX12_feed 8 (some .int) RX12 (.code yX12_feed cX12_feed 8 (some .int))) (hI : Apart ad 71) (hK : va_K D vwCl (tysX cy) s) (hN : NW s)  {q : Int32 × Tmt}  {v1 : Int32} {v2 : Int32} {v3 : Int32} {v4 : Int32} {v5 : Int32} (h : X12_feed mt v1 v2 v3 v4 v5 = some q) {ls : Array Slot} (hl : lv_has ls 8 [(0, .ref (ad 0)), (1, .int v1), (2, .int v2), (3, .int v3), (4, .int v4), (5, .int v5)]) {H : Heap} {locs : List Loc} (hP : va_P D vwCl (GM cy ad mt mc mb mo ms mk my mu ma me mr mp mg mw mf ml mq) H) (hS : va_S (Ac ad 71) s.heap H locs) : W p l e ({ frames := 0, cells := 0, slots := 0, locals := 0 } : Room) s m args below meth c H locs 0 0 (MQ below (QR (some (.int q.1)) D (GM cy ad q.2 mc mb mo ms mk my mu ma me mr mp mg mw mf ml mq) (Ac ad 71)) args s 0 0 (Ac ad 71)) (F0 m 0 ls []) := by
  obtain ⟨hx, hb, hml, hown, hts, hr, hlk⟩ := id C
  unfold X12_feed at h
  refine lv_aload_n hx hb dX12_feed_0 rfl (lv_at hl 0 rfl) ?_
  refine gM0_1 (v := mt.2) C hK hP rfl w1368 dX12_feed_1 ?_
  refine lv_bipush (v := (20 : Int32)) hx hb dX12_feed_4 (by decide) ?_
  refine lv_iadd hx hb dX12_feed_6 ?_
  refine lv_sipush (v := (8000 : Int32)) hx hb dX12_feed_7 (by decide) ?_
  refine b_icmp_le (tgt := 15) hx hb dX12_feed_10 (by decide) (fun c1 => ?_) (fun c1 => ?_)
  · rw [if_neg c1] at h
    refine lv_iconst (v := (0 : Int32)) hx hb dX12_feed_15 (by decide) ?_
    refine lv_istore (lv' := [(6, .int (0 : Int32)), (0, .ref (ad 0)), (1, .int v1), (2, .int v2), (3, .int v3), (4, .int v4), (5, .int v5)]) hx hb dX12_feed_16 hl (by decide) rfl (fun ls hl => ?_)
    exact bX12_feed_18 C hI hK hN FU h (lv_sub hl [1, 2, 3, 4, 5, 6, 0] rfl) hP hS
  · rw [if_pos c1] at h
    refine lv_iconst (v := (-1 : Int32)) hx hb dX12_feed_13 (by decide) ?_
    obtain rfl := Option.some.inj h
    exact W.iret hx hb hr (fun t ht _ => ⟨rfl, by rw [ht]; exact hP, hS.F ht⟩) hS.2.2 dX12_feed_14 hlk
theorem kX12_feed (hI : Apart ad 71) {v1 : Int32} {v2 : Int32} {v3 : Int32} {v4 : Int32} {v5 : Int32} {q : Int32 × Tmt} (h : X12_feed mt v1 v2 v3 v4 v5 = some q) : Met l yX12_feed (.code yX12_feed cX12_feed 8 (some .int) :: WA) ({ frames := 0, cells := 0, slots := 0, locals := 0 } : Room) (va_Pc [.ref (ad 0), .int v1, .int v2, .int v3, .int v4, .int v5] (PR D cy (GM cy ad mt mc mb mo ms mk my mu ma me mr mp mg mw mf ml mq))) (QR (some (.int q.1)) D (GM cy ad q.2 mc mb mo ms mk my mu ma me mr mp mg mw mf ml mq) (Ac ad 71)) 0 0 (Ac ad 71) :=
  met_of (by decide) (Nat.le_of_ble_eq_true rfl) (fun p e s m below meth c ls C hP hK hN hl => bX12_feed_0 C hI hK hN h hl hP va_S.rf)
def X12_end (mt : Tmt) (v1 : Int32) : Int32 × Tmt := (if v1 < 0 then ((0 : Int32), mt) else (if mt.2 < v1 then ((0 : Int32), mt) else ((1 : Int32), (mt.1, v1))))
set_option maxRecDepth 20000 in
theorem bX12_end_0 (C : Cx p s m args meth c cX12_end 2 (some .boolean) RX12 (.code yX12_end cX12_end 2 (some .boolean))) (hI : Apart ad 71) (hK : va_K D vwCl (tysX cy) s) (hN : NW s)  {q : Int32 × Tmt}  {v1 : Int32} (h : X12_end mt v1 = q) {ls : Array Slot} (hl : lv_has ls 2 [(0, .ref (ad 0)), (1, .int v1)]) {H : Heap} {locs : List Loc} (hP : va_P D vwCl (GM cy ad mt mc mb mo ms mk my mu ma me mr mp mg mw mf ml mq) H) (hS : va_S (Ac ad 71) s.heap H locs) : W p l e ({ frames := 0, cells := 0, slots := 0, locals := 0 } : Room) s m args below meth c H locs 0 0 (MQ below (QR (some (.int q.1)) D (GM cy ad q.2 mc mb mo ms mk my mu ma me mr mp mg mw mf ml mq) (Ac ad 71)) args s 0 0 (Ac ad 71)) (F0 m 0 ls []) := by
  obtain ⟨hx, hb, hml, hown, hts, hr, hlk⟩ := id C
  unfold X12_end at h
  refine lv_iload_n hx hb dX12_end_0 rfl (lv_at hl 1 rfl) ?_
  refine lv_if_lt (tgt := 12) hx hb dX12_end_1 (by decide) (fun c1 => ?_) (fun c1 => ?_)
  · rw [if_pos c1] at h
    refine lv_iconst (v := (0 : Int32)) hx hb dX12_end_12 (by decide) ?_
    obtain rfl := h
    exact W.zret (ty := .boolean) hx hb hr (by decide) (fun t ht _ => ⟨rfl, by rw [ht]; exact hP, hS.F ht⟩) hS.2.2 dX12_end_13 hlk
  · rw [if_neg c1] at h
    refine lv_iload_n hx hb dX12_end_4 rfl (lv_at hl 1 rfl) ?_
    refine lv_aload_n hx hb dX12_end_5 rfl (lv_at hl 0 rfl) ?_
    refine gM0_1 (v := mt.2) C hK hP rfl w1368 dX12_end_6 ?_
    refine b_icmp_le (tgt := 14) hx hb dX12_end_9 (by decide) (fun c2 => ?_) (fun c2 => ?_)
    · rw [if_neg c2] at h
      refine lv_aload_n hx hb dX12_end_14 rfl (lv_at hl 0 rfl) ?_
      refine lv_iload_n hx hb dX12_end_15 rfl (lv_at hl 1 rfl) ?_
      refine pM0_1 (v := v1) C hI hK hP hS w1368 dX12_end_16 (fun H locs hP hS => ?_)
      have hP : va_P D vwCl (GM cy ad (mt.1, v1) mc mb mo ms mk my mu ma me mr mp mg mw mf ml mq) H := hP
      refine lv_iconst (v := (1 : Int32)) hx hb dX12_end_19 (by decide) ?_
      obtain rfl := h
      exact W.zret (ty := .boolean) hx hb hr (by decide) (fun t ht _ => ⟨rfl, by rw [ht]; exact hP, hS.F ht⟩) hS.2.2 dX12_end_20 hlk
    · rw [if_pos c2] at h
      refine lv_iconst (v := (0 : Int32)) hx hb dX12_end_12 (by decide) ?_
      obtain rfl := h
      exact W.zret (ty := .boolean) hx hb hr (by decide) (fun t ht _ => ⟨rfl, by rw [ht]; exact hP, hS.F ht⟩) hS.2.2 dX12_end_13 hlk
theorem kX12_end (hI : Apart ad 71) {v1 : Int32} {q : Int32 × Tmt} (h : X12_end mt v1 = q) : Met l yX12_end (.code yX12_end cX12_end 2 (some .boolean) :: WA) ({ frames := 0, cells := 0, slots := 0, locals := 0 } : Room) (va_Pc [.ref (ad 0), .int v1] (PR D cy (GM cy ad mt mc mb mo ms mk my mu ma me mr mp mg mw mf ml mq))) (QR (some (.int q.1)) D (GM cy ad q.2 mc mb mo ms mk my mu ma me mr mp mg mw mf ml mq) (Ac ad 71)) 0 0 (Ac ad 71) :=
  met_of (by decide) (Nat.le_of_ble_eq_true rfl) (fun p e s m below meth c ls C hP hK hN hl => bX12_end_0 C hI hK hN h hl hP va_S.rf)
def X12_poke (mt : Tmt) (v1 : Int32) (v2 : Int32) : Option (Int32 × Tmt) := (if v1 < 0 then some ((0 : Int32), mt) else (if v1 < mt.2 then (if inb v1 8000 = true then some ((1 : Int32), ((upd mt.1 (v1).toNatClampNeg (v2 &&& (255 : Int32))), mt.2)) else none) else some ((0 : Int32), mt)))
set_option maxRecDepth 20000 in
theorem bX12_poke_0 (C : Cx p s m args meth c cX12_poke 3 (some .boolean) RX12 (.code yX12_poke cX12_poke 3 (some .boolean))) (hI : Apart ad 71) (hK : va_K D vwCl (tysX cy) s) (hN : NW s)  {q : Int32 × Tmt}  {v1 : Int32} {v2 : Int32} (h : X12_poke mt v1 v2 = some q) {ls : Array Slot} (hl : lv_has ls 3 [(0, .ref (ad 0)), (1, .int v1), (2, .int v2)]) {H : Heap} {locs : List Loc} (hP : va_P D vwCl (GM cy ad mt mc mb mo ms mk my mu ma me mr mp mg mw mf ml mq) H) (hS : va_S (Ac ad 71) s.heap H locs) : W p l e ({ frames := 0, cells := 0, slots := 0, locals := 0 } : Room) s m args below meth c H locs 0 0 (MQ below (QR (some (.int q.1)) D (GM cy ad q.2 mc mb mo ms mk my mu ma me mr mp mg mw mf ml mq) (Ac ad 71)) args s 0 0 (Ac ad 71)) (F0 m 0 ls []) := by
  obtain ⟨hx, hb, hml, hown, hts, hr, hlk⟩ := id C
  unfold X12_poke at h
  refine lv_iload_n hx hb dX12_poke_0 rfl (lv_at hl 1 rfl) ?_
  refine lv_if_lt (tgt := 12) hx hb dX12_poke_1 (by decide) (fun c1 => ?_) (fun c1 => ?_)
  · rw [if_pos c1] at h
    refine lv_iconst (v := (0 : Int32)) hx hb dX12_poke_12 (by decide) ?_
    obtain rfl := Option.some.inj h
    exact W.zret (ty := .boolean) hx hb hr (by decide) (fun t ht _ => ⟨rfl, by rw [ht]; exact hP, hS.F ht⟩) hS.2.2 dX12_poke_13 hlk
  · rw [if_neg c1] at h
    refine lv_iload_n hx hb dX12_poke_4 rfl (lv_at hl 1 rfl) ?_
    refine lv_aload_n hx hb dX12_poke_5 rfl (lv_at hl 0 rfl) ?_
    refine gM0_1 (v := mt.2) C hK hP rfl w1368 dX12_poke_6 ?_
    refine lv_icmp_lt (tgt := 14) hx hb dX12_poke_9 (by decide) (fun c2 => ?_) (fun c2 => ?_)
    · rw [if_pos c2] at h
      refine lv_aload_n hx hb dX12_poke_14 rfl (lv_at hl 0 rfl) ?_
      refine gM0_0 C hK hP w1367 dX12_poke_15 ?_
      refine lv_iload_n hx hb dX12_poke_18 rfl (lv_at hl 1 rfl) ?_
      refine lv_iload_n hx hb dX12_poke_19 rfl (lv_at hl 2 rfl) ?_
      refine lv_sipush (v := (255 : Int32)) hx hb dX12_poke_20 (by decide) ?_
      refine lv_iand hx hb dX12_poke_23 ?_
      obtain ⟨n3, h⟩ := grd h
      refine sM1 (f := mt.1) C hI hK hP hS rfl n3 dX12_poke_24 (fun H locs hP hS => ?_)
      have hP : va_P D vwCl (GM cy ad ((upd mt.1 (v1).toNatClampNeg (v2 &&& (255 : Int32))), mt.2) mc mb mo ms mk my mu ma me mr mp mg mw mf ml mq) H := hP
      refine lv_iconst (v := (1 : Int32)) hx hb dX12_poke_25 (by decide) ?_
      obtain rfl := Option.some.inj h
      exact W.zret (ty := .boolean) hx hb hr (by decide) (fun t ht _ => ⟨rfl, by rw [ht]; exact hP, hS.F ht⟩) hS.2.2 dX12_poke_26 hlk
    · rw [if_neg c2] at h
      refine lv_iconst (v := (0 : Int32)) hx hb dX12_poke_12 (by decide) ?_
      obtain rfl := Option.some.inj h
      exact W.zret (ty := .boolean) hx hb hr (by decide) (fun t ht _ => ⟨rfl, by rw [ht]; exact hP, hS.F ht⟩) hS.2.2 dX12_poke_13 hlk
theorem kX12_poke (hI : Apart ad 71) {v1 : Int32} {v2 : Int32} {q : Int32 × Tmt} (h : X12_poke mt v1 v2 = some q) : Met l yX12_poke (.code yX12_poke cX12_poke 3 (some .boolean) :: WA) ({ frames := 0, cells := 0, slots := 0, locals := 0 } : Room) (va_Pc [.ref (ad 0), .int v1, .int v2] (PR D cy (GM cy ad mt mc mb mo ms mk my mu ma me mr mp mg mw mf ml mq))) (QR (some (.int q.1)) D (GM cy ad q.2 mc mb mo ms mk my mu ma me mr mp mg mw mf ml mq) (Ac ad 71)) 0 0 (Ac ad 71) :=
  met_of (by decide) (Nat.le_of_ble_eq_true rfl) (fun p e s m below meth c ls C hP hK hN hl => bX12_poke_0 C hI hK hN h hl hP va_S.rf)
def X12_fail (mc : Tmc) (v1 : Int32) (v2 : Int32) : Tmc := (if mc.2.2.1 = 0 then (mc.1, mc.2.1, v1, v2) else mc)
set_option maxRecDepth 20000 in
theorem bX12_fail_0 (C : Cx p s m args meth c cX12_fail 3 none RX12 (.code yX12_fail cX12_fail 3 none)) (hI : Apart ad 71) (hK : va_K D vwCl (tysX cy) s) (hN : NW s)  {q : Tmc}  {v1 : Int32} {v2 : Int32} (h : X12_fail mc v1 v2 = q) {ls : Array Slot} (hl : lv_has ls 3 [(0, .ref (ad 0)), (1, .int v1), (2, .int v2)]) {H : Heap} {locs : List Loc} (hP : va_P D vwCl (GM cy ad mt mc mb mo ms mk my mu ma me mr mp mg mw mf ml mq) H) (hS : va_S (Ac ad 71) s.heap H locs) : W p l e ({ frames := 0, cells := 0, slots := 0, locals := 0 } : Room) s m args below meth c H locs 0 0 (MQ below (QR none D (GM cy ad mt q mb mo ms mk my mu ma me mr mp mg mw mf ml mq) (Ac ad 71)) args s 0 0 (Ac ad 71)) (F0 m 0 ls []) := by
  obtain ⟨hx, hb, hml, hown, hts, hr, hlk⟩ := id C
  unfold X12_fail at h
  refine lv_aload_n hx hb dX12_fail_0 rfl (lv_at hl 0 rfl) ?_
  refine gM0_2 (v := mc.2.2.1) C hK hP rfl w1369 dX12_fail_1 ?_
  refine lv_if_eq (tgt := 8) hx hb dX12_fail_4 (by decide) (fun c1 => ?_) (fun c1 => ?_)
  · rw [if_pos c1] at h
    refine lv_aload_n hx hb dX12_fail_8 rfl (lv_at hl 0 rfl) ?_
    refine lv_iload_n hx hb dX12_fail_9 rfl (lv_at hl 1 rfl) ?_
    refine pM0_2 (v := v1) C hI hK hP hS w1369 dX12_fail_10 (fun H locs hP hS => ?_)
    have hP : va_P D vwCl (GM cy ad mt (mc.1, mc.2.1, v1, mc.2.2.2) mb mo ms mk my mu ma me mr mp mg mw mf ml mq) H := hP
    refine lv_aload_n hx hb dX12_fail_13 rfl (lv_at hl 0 rfl) ?_
    refine lv_iload_n hx hb dX12_fail_14 rfl (lv_at hl 2 rfl) ?_
    refine pM0_3 (v := v2) C hI hK hP hS w1370 dX12_fail_15 (fun H locs hP hS => ?_)
    have hP : va_P D vwCl (GM cy ad mt (mc.1, mc.2.1, v1, v2) mb mo ms mk my mu ma me mr mp mg mw mf ml mq) H := hP
    obtain rfl := h
    exact W.vret hx hb hr (fun t ht _ => ⟨rfl, by rw [ht]; exact hP, hS.F ht⟩) hS.2.2 dX12_fail_18 hlk
  · rw [if_neg c1] at h
    obtain rfl := h
    exact W.vret hx hb hr (fun t ht _ => ⟨rfl, by rw [ht]; exact hP, hS.F ht⟩) hS.2.2 dX12_fail_7 hlk
theorem kX12_fail (hI : Apart ad 71) {v1 : Int32} {v2 : Int32} {q : Tmc} (h : X12_fail mc v1 v2 = q) : Met l yX12_fail (.code yX12_fail cX12_fail 3 none :: WA) ({ frames := 0, cells := 0, slots := 0, locals := 0 } : Room) (va_Pc [.ref (ad 0), .int v1, .int v2] (PR D cy (GM cy ad mt mc mb mo ms mk my mu ma me mr mp mg mw mf ml mq))) (QR none D (GM cy ad mt q mb mo ms mk my mu ma me mr mp mg mw mf ml mq) (Ac ad 71)) 0 0 (Ac ad 71) :=
  met_of (by decide) (Nat.le_of_ble_eq_true rfl) (fun p e s m below meth c ls C hP hK hN hl => bX12_fail_0 C hI hK hN h hl hP va_S.rf)
def X12_isRight (mc : Tmc)  : Int32 := (if mc.2.2.1 = 0 then (1 : Int32) else (0 : Int32))
set_option maxRecDepth 20000 in
theorem bX12_isRight_0 (C : Cx p s m args meth c cX12_isRight 1 (some .boolean) RX12 (.code yX12_isRight cX12_isRight 1 (some .boolean))) (hK : va_K D vwCl (tysX cy) s) (hN : NW s)  {q : Int32}   (h : X12_isRight mc = q) {ls : Array Slot} (hl : lv_has ls 1 [(0, .ref (ad 0))]) (hP : va_P D vwCl (GM cy ad mt mc mb mo ms mk my mu ma me mr mp mg mw mf ml mq) s.heap) : W p l e ({ frames := 0, cells := 0, slots := 0, locals := 0 } : Room) s m args below meth c s.heap [] 0 0 (MQ below (QP (some (.int q))) args s 0 0 (fun _ => False)) (F0 m 0 ls []) := by
  obtain ⟨hx, hb, hml, hown, hts, hr, hlk⟩ := id C
  unfold X12_isRight at h
  refine lv_aload_n hx hb dX12_isRight_0 rfl (lv_at hl 0 rfl) ?_
  refine gM0_2 (v := mc.2.2.1) C hK hP rfl w1369 dX12_isRight_1 ?_
  refine lv_if_ne (tgt := 11) hx hb dX12_isRight_4 (by decide) (fun c1 => ?_) (fun c1 => ?_)
  · rw [if_neg c1] at h
    refine lv_iconst (v := (0 : Int32)) hx hb dX12_isRight_11 (by decide) ?_
    obtain rfl := h
    exact W.zret (ty := .boolean) hx hb hr (by decide) (fun t ht _ => ⟨rfl, ht⟩) (fun _ h9 => by cases h9) dX12_isRight_12 hlk
  · rw [if_pos c1] at h
    refine lv_iconst (v := (1 : Int32)) hx hb dX12_isRight_7 (by decide) ?_
    refine lv_goto (tgt := 12) hx hb dX12_isRight_8 (by decide) ?_
    obtain rfl := h
    exact W.zret (ty := .boolean) hx hb hr (by decide) (fun t ht _ => ⟨rfl, ht⟩) (fun _ h9 => by cases h9) dX12_isRight_12 hlk
theorem kX12_isRight   {q : Int32} (h : X12_isRight mc = q) : Met l yX12_isRight (.code yX12_isRight cX12_isRight 1 (some .boolean) :: WA) ({ frames := 0, cells := 0, slots := 0, locals := 0 } : Room) (va_Pc [.ref (ad 0)] (PR D cy (GM cy ad mt mc mb mo ms mk my mu ma me mr mp mg mw mf ml mq))) (QP (some (.int q))) 0 0 (fun _ => False) :=
  met_of (by decide) (Nat.le_of_ble_eq_true rfl) (fun p e s m below meth c ls C hP hK hN hl => bX12_isRight_0 C hK hN h hl hP)
def X12_byteOf (mb : Tmb) (v1 : Int32) : Option (Int32) := (if inb (((8000 : Int32) * mb.2.1) + v1) 16000 = true then some (mb.1 ((((8000 : Int32) * mb.2.1) + v1)).toNatClampNeg) else none)
set_option maxRecDepth 20000 in
theorem bX12_byteOf_0 (C : Cx p s m args meth c cX12_byteOf 2 (some .int) RX12 (.code yX12_byteOf cX12_byteOf 2 (some .int))) (hK : va_K D vwCl (tysX cy) s) (hN : NW s)  {q : Int32}  {v1 : Int32} (h : X12_byteOf mb v1 = some q) {ls : Array Slot} (hl : lv_has ls 2 [(0, .ref (ad 0)), (1, .int v1)]) (hP : va_P D vwCl (GM cy ad mt mc mb mo ms mk my mu ma me mr mp mg mw mf ml mq) s.heap) : W p l e ({ frames := 0, cells := 0, slots := 0, locals := 0 } : Room) s m args below meth c s.heap [] 0 0 (MQ below (QP (some (.int q))) args s 0 0 (fun _ => False)) (F0 m 0 ls []) := by
  obtain ⟨hx, hb, hml, hown, hts, hr, hlk⟩ := id C
  unfold X12_byteOf at h
  refine lv_aload_n hx hb dX12_byteOf_0 rfl (lv_at hl 0 rfl) ?_
  refine gM0_8 C hK hP w1375 dX12_byteOf_1 ?_
  refine lv_sipush (v := (8000 : Int32)) hx hb dX12_byteOf_4 (by decide) ?_
  refine lv_aload_n hx hb dX12_byteOf_7 rfl (lv_at hl 0 rfl) ?_
  refine gM0_6 (v := mb.2.1) C hK hP rfl w1373 dX12_byteOf_8 ?_
  refine lv_imul hx hb dX12_byteOf_11 ?_
  refine lv_iload_n hx hb dX12_byteOf_12 rfl (lv_at hl 1 rfl) ?_
  refine lv_iadd hx hb dX12_byteOf_13 ?_
  obtain ⟨n1, h⟩ := grd h
  refine aM2 (f := mb.1) C hK hP rfl n1 dX12_byteOf_14 ?_
  obtain rfl := Option.some.inj h
  exact W.iret hx hb hr (fun t ht _ => ⟨rfl, ht⟩) (fun _ h9 => by cases h9) dX12_byteOf_15 hlk
theorem kX12_byteOf  {v1 : Int32} {q : Int32} (h : X12_byteOf mb v1 = some q) : Met l yX12_byteOf (.code yX12_byteOf cX12_byteOf 2 (some .int) :: WA) ({ frames := 0, cells := 0, slots := 0, locals := 0 } : Room) (va_Pc [.ref (ad 0), .int v1] (PR D cy (GM cy ad mt mc mb mo ms mk my mu ma me mr mp mg mw mf ml mq))) (QP (some (.int q))) 0 0 (fun _ => False) :=
  met_of (by decide) (Nat.le_of_ble_eq_true rfl) (fun p e s m below meth c ls C hP hK hN hl => bX12_byteOf_0 C hK hN h hl hP)
def X12_numberAt_7b (mb : Tmb)  (k7 : Int32 → Int64 → Int32 → Option (Int64))  (v1 : Int32) (v3 : Int64) (v5 : Int32) : Option (Int64) := (if v5 < 0 then some v3 else ((X12_byteOf mb (v1 + v5)).bind fun q2 => k7 v1 ((v3 <<< (((8 : Int32)).toInt64 &&& 63)) ||| ((q2).toInt64)) (v5 + (-1 : Int32))))
def X12_numberAt_7 (mb : Tmb)  (n : Nat) (st : Int32 × Int64 × Int32) : Option (Int64) := lp (fun rec st => X12_numberAt_7b mb  (fun a0 a1 a2 => rec (a0, a1, a2)) st.1 st.2.1 st.2.2) n st
set_option maxRecDepth 20000 in
theorem bX12_numberAt_7 (C : Cx p s m args meth c cX12_numberAt 6 (some .long) RX12 (.code yX12_numberAt cX12_numberAt 6 (some .long))) (hK : va_K D vwCl (tysX cy) s) (hN : NW s)  {q : Int64}  : ∀ (n : Nat)  {v1 : Int32} {v3 : Int64} {v5 : Int32}, X12_numberAt_7 mb  n (v1, v3, v5) = some q → ∀ {ls : Array Slot}, lv_has ls 6 [(0, .ref (ad 0)), (1, .int v1), (3, .long v3), (5, .int v5)] → va_P D vwCl (GM cy ad mt mc mb mo ms mk my mu ma me mr mp mg mw mf ml mq) s.heap → W p l e ({ frames := 1, cells := 0, slots := 0, locals := 21 } : Room) s m args below meth c s.heap [] 0 0 (MQ below (QP (some (.long q))) args s 0 0 (fun _ => False)) (F0 m 7 ls []) := by
  obtain ⟨hx, hb, hml, hown, hts, hr, hlk⟩ := id C
  intro n
  induction n with
  | zero =>
    intro v1 v3 v5 h ls hl hP
    have h : (none : Option (Int64)) = some q := h
    cases h
  | succ n ih =>
    intro v1 v3 v5 h ls hl hP
    have h : X12_numberAt_7b mb  (fun a0 a1 a2 => X12_numberAt_7 mb  n (a0, a1, a2)) v1 v3 v5 = some q := h
    unfold X12_numberAt_7b at h
    refine lv_iload hx hb dX12_numberAt_7 (lv_at hl 3 rfl) ?_
    refine lv_if_lt (tgt := 33) hx hb dX12_numberAt_9 (by decide) (fun c1 => ?_) (fun c1 => ?_)
    · rw [if_pos c1] at h
      refine lv_lload_n hx hb dX12_numberAt_33 rfl (lv_at hl 2 rfl) ?_
      obtain rfl := Option.some.inj h
      exact W.lret hx hb hr (fun t ht _ => ⟨rfl, ht⟩) (fun _ h9 => by cases h9) dX12_numberAt_34 hlk
    · rw [if_neg c1] at h
      refine lv_lload_n hx hb dX12_numberAt_12 rfl (lv_at hl 2 rfl) ?_
      refine lv_bipush (v := (8 : Int32)) hx hb dX12_numberAt_13 (by decide) ?_
      refine lv_lshl (v := (v3 <<< (((8 : Int32)).toInt64 &&& 63))) hx hb dX12_numberAt_15 rfl ?_
      refine lv_aload_n hx hb dX12_numberAt_16 rfl (lv_at hl 0 rfl) ?_
      refine lv_iload_n hx hb dX12_numberAt_17 rfl (lv_at hl 1 rfl) ?_
      refine lv_iload hx hb dX12_numberAt_18 (lv_at hl 3 rfl) ?_
      refine lv_iadd hx hb dX12_numberAt_20 ?_
      obtain ⟨q2, h3, h⟩ := bnd h
      refine cPi (run_V (rest := [.long (v3 <<< (((8 : Int32)).toInt64 &&& 63))]) C (kX12_byteOf h3) caX12_byteOf w1674 ⟨rfl, rfl, Nat.le_of_ble_eq_true rfl, Nat.le_of_ble_eq_true rfl⟩ hK hN hP (rM0 hK hP) rfl hl.1 rfl (Nat.le_of_ble_eq_true rfl) dX12_numberAt_21 ⟨Nat.zero_le _, Nat.zero_le _⟩) ?_
      refine lv_i2l (v := ((q2).toInt64)) hx hb dX12_numberAt_24 rfl ?_
      refine lv_lor hx hb dX12_numberAt_25 ?_
      refine lv_lstore_n (lv' := [(3, .long ((v3 <<< (((8 : Int32)).toInt64 &&& 63)) ||| ((q2).toInt64))), (0, .ref (ad 0)), (1, .int v1), (5, .int v5)]) hx hb dX12_numberAt_26 rfl hl (by decide) rfl (fun ls hl => ?_)
      refine lv_iinc (v := (v5 + (-1 : Int32))) (lv' := [(5, .int (v5 + (-1 : Int32))), (3, .long ((v3 <<< (((8 : Int32)).toInt64 &&& 63)) ||| ((q2).toInt64))), (0, .ref (ad 0)), (1, .int v1)]) hx hb dX12_numberAt_27 hl (k := 3) rfl rfl (by decide) rfl (fun ls hl => ?_)
      refine lv_goto (tgt := 7) hx hb dX12_numberAt_30 (by decide) ?_
      exact ih h (lv_sub hl [2, 3, 1, 0] rfl) hP
def X12_numberAt (mb : Tmb) (v1 : Int32) (v2 : Int32) : Option (Int64) := X12_numberAt_7 mb FU (v1, (0 : Int64), (v2 - (1 : Int32)))
set_option maxRecDepth 20000 in
theorem bX12_numberAt_0 (C : Cx p s m args meth c cX12_numberAt 6 (some .long) RX12 (.code yX12_numberAt cX12_numberAt 6 (some .long))) (hK : va_K D vwCl (tysX cy) s) (hN : NW s)  {q : Int64}  {v1 : Int32} {v2 : Int32} (h : X12_numberAt mb v1 v2 = some q) {ls : Array Slot} (hl : lv_has ls 6 [(0, .ref (ad 0)), (1, .int v1), (2, .int v2)]) (hP : va_P D vwCl (GM cy ad mt mc mb mo ms mk my mu ma me mr mp mg mw mf ml mq) s.heap) : W p l e ({ frames := 1, cells := 0, slots := 0, locals := 21 } : Room) s m args below meth c s.heap [] 0 0 (MQ below (QP (some (.long q))) args s 0 0 (fun _ => False)) (F0 m 0 ls []) := by
  obtain ⟨hx, hb, hml, hown, hts, hr, hlk⟩ := id C
  unfold X12_numberAt at h
  refine lv_lconst (v := (0 : Int64)) hx hb dX12_numberAt_0 (by decide) ?_
  refine lv_lstore_n (lv' := [(3, .long (0 : Int64)), (0, .ref (ad 0)), (1, .int v1), (2, .int v2)]) hx hb dX12_numberAt_1 rfl hl (by decide) rfl (fun ls hl => ?_)
  refine lv_iload_n hx hb dX12_numberAt_2 rfl (lv_at hl 3 rfl) ?_
  refine lv_iconst (v := (1 : Int32)) hx hb dX12_numberAt_3 (by decide) ?_
  refine lv_isub hx hb dX12_numberAt_4 ?_
  refine lv_istore (lv' := [(5, .int (v2 - (1 : Int32))), (3, .long (0 : Int64)), (0, .ref (ad 0)), (1, .int v1), (2, .int v2)]) hx hb dX12_numberAt_5 hl (by decide) rfl (fun ls hl => ?_)
  exact bX12_numberAt_7 C hK hN FU h (lv_sub hl [2, 3, 1, 0] rfl) hP
theorem kX12_numberAt  {v1 : Int32} {v2 : Int32} {q : Int64} (h : X12_numberAt mb v1 v2 = some q) : Met l yX12_numberAt (.code yX12_numberAt cX12_numberAt 6 (some .long) :: WA) ({ frames := 1, cells := 0, slots := 0, locals := 21 } : Room) (va_Pc [.ref (ad 0), .int v1, .int v2] (PR D cy (GM cy ad mt mc mb mo ms mk my mu ma me mr mp mg mw mf ml mq))) (QP (some (.long q))) 0 0 (fun _ => False) :=
  met_of (by decide) (Nat.le_of_ble_eq_true rfl) (fun p e s m below meth c ls C hP hK hN hl => bX12_numberAt_0 C hK hN h hl hP)
def X12_number (mc : Tmc) (mb : Tmb) (v1 : Int32) : Option (Int64 × Tmc) := (if (X12_isRight mc) = 0 then some ((0 : Int64), mc) else (if mc.2.1 < (mc.1 + v1) then (letq (X12_fail mc (1 : Int32) mc.1) fun q5 => some ((0 : Int64), q5)) else ((X12_numberAt mb mc.1 v1).bind fun q3 => some (q3, ((mc.1 + v1), mc.2.1, mc.2.2.1, mc.2.2.2)))))
set_option maxRecDepth 20000 in
theorem bX12_number_0 (C : Cx p s m args meth c cX12_number 4 (some .long) RX12 (.code yX12_number cX12_number 4 (some .long))) (hI : Apart ad 71) (hK : va_K D vwCl (tysX cy) s) (hN : NW s)  {q : Int64 × Tmc}  {v1 : Int32} (h : X12_number mc mb v1 = some q) {ls : Array Slot} (hl : lv_has ls 4 [(0, .ref (ad 0)), (1, .int v1)]) {H : Heap} {locs : List Loc} (hP : va_P D vwCl (GM cy ad mt mc mb mo ms mk my mu ma me mr mp mg mw mf ml mq) H) (hS : va_S (Ac ad 71) s.heap H locs) : W p l e ({ frames := 2, cells := 0, slots := 0, locals := 46 } : Room) s m args below meth c H locs 0 0 (MQ below (QR (some (.long q.1)) D (GM cy ad mt q.2 mb mo ms mk my mu ma me mr mp mg mw mf ml mq) (Ac ad 71)) args s 0 0 (Ac ad 71)) (F0 m 0 ls []) := by
  obtain ⟨hx, hb, hml, hown, hts, hr, hlk⟩ := id C
  unfold X12_number at h
  refine lv_aload_n hx hb dX12_number_0 rfl (lv_at hl 0 rfl) ?_
  refine cPi (run_V (rest := []) C (kX12_isRight rfl) caX12_isRight w1682 ⟨rfl, rfl, Nat.le_of_ble_eq_true rfl, Nat.le_of_ble_eq_true rfl⟩ hK hN hP (rM0 hK hP) rfl hl.1 rfl (Nat.le_of_ble_eq_true rfl) dX12_number_1 ⟨Nat.zero_le _, Nat.zero_le _⟩) ?_
  refine lv_if_ne (tgt := 9) hx hb dX12_number_4 (by decide) (fun c1 => ?_) (fun c1 => ?_)
  · rw [if_neg c1] at h
    refine lv_aload_n hx hb dX12_number_9 rfl (lv_at hl 0 rfl) ?_
    refine gM0_77 (v := mc.1) C hK hP rfl w1444 dX12_number_10 ?_
    refine lv_iload_n hx hb dX12_number_13 rfl (lv_at hl 1 rfl) ?_
    refine lv_iadd hx hb dX12_number_14 ?_
    refine lv_aload_n hx hb dX12_number_15 rfl (lv_at hl 0 rfl) ?_
    refine gM0_78 (v := mc.2.1) C hK hP rfl w1445 dX12_number_16 ?_
    refine b_icmp_le (tgt := 33) hx hb dX12_number_19 (by decide) (fun c2 => ?_) (fun c2 => ?_)
    · rw [if_neg c2] at h
      refine lv_aload_n hx hb dX12_number_33 rfl (lv_at hl 0 rfl) ?_
      refine lv_aload_n hx hb dX12_number_34 rfl (lv_at hl 0 rfl) ?_
      refine gM0_77 (v := mc.1) C hK hP rfl w1444 dX12_number_35 ?_
      refine lv_iload_n hx hb dX12_number_38 rfl (lv_at hl 1 rfl) ?_
      obtain ⟨q3, h4, h⟩ := bnd h
      refine cPl (run_V (rest := []) C (kX12_numberAt h4) caX12_numberAt w1686 ⟨rfl, rfl, Nat.le_of_ble_eq_true rfl, Nat.le_of_ble_eq_true rfl⟩ hK hN hP (rM0 hK hP) rfl hl.1 rfl (Nat.le_of_ble_eq_true rfl) dX12_number_39 ⟨Nat.zero_le _, Nat.zero_le _⟩) ?_
      refine lv_lstore_n (lv' := [(2, .long q3), (0, .ref (ad 0)), (1, .int v1)]) hx hb dX12_number_42 rfl hl (by decide) rfl (fun ls hl => ?_)
      refine lv_aload_n hx hb dX12_number_43 rfl (lv_at hl 1 rfl) ?_
      refine lv_dup hx hb dX12_number_44 rfl ?_
      refine gM0_77 (v := mc.1) C hK hP rfl w1444 dX12_number_45 ?_
      refine lv_iload_n hx hb dX12_number_48 rfl (lv_at hl 2 rfl) ?_
      refine lv_iadd hx hb dX12_number_49 ?_
      refine pM0_77 (v := (mc.1 + v1)) C hI hK hP hS w1444 dX12_number_50 (fun H locs hP hS => ?_)
      have hP : va_P D vwCl (GM cy ad mt ((mc.1 + v1), mc.2.1, mc.2.2.1, mc.2.2.2) mb mo ms mk my mu ma me mr mp mg mw mf ml mq) H := hP
      refine lv_lload_n hx hb dX12_number_53 rfl (lv_at hl 0 rfl) ?_
      obtain rfl := Option.some.inj h
      exact W.lret hx hb hr (fun t ht _ => ⟨rfl, by rw [ht]; exact hP, hS.F ht⟩) hS.2.2 dX12_number_54 hlk
    · rw [if_pos c2] at h
      refine lv_aload_n hx hb dX12_number_22 rfl (lv_at hl 0 rfl) ?_
      refine lv_iconst (v := (1 : Int32)) hx hb dX12_number_23 (by decide) ?_
      refine lv_aload_n hx hb dX12_number_24 rfl (lv_at hl 0 rfl) ?_
      refine gM0_77 (v := mc.1) C hK hP rfl w1444 dX12_number_25 ?_
      obtain ⟨q5, h6, h⟩ := lets h
      refine cRv (run_V (rest := []) C (kX12_fail hI h6) caX12_fail w1678 ⟨rfl, rfl, Nat.le_of_ble_eq_true rfl, Nat.le_of_ble_eq_true rfl⟩ hK hN hP (rM0 hK hP) rfl hl.1 rfl (Nat.le_of_ble_eq_true rfl) dX12_number_28 ⟨Nat.zero_le _, Nat.zero_le _⟩) hS (fun H locs hP hS => ?_)
      have hP : va_P D vwCl (GM cy ad mt q5 mb mo ms mk my mu ma me mr mp mg mw mf ml mq) H := hP
      refine lv_lconst (v := (0 : Int64)) hx hb dX12_number_31 (by decide) ?_
      obtain rfl := Option.some.inj h
      exact W.lret hx hb hr (fun t ht _ => ⟨rfl, by rw [ht]; exact hP, hS.F ht⟩) hS.2.2 dX12_number_32 hlk
  · rw [if_pos c1] at h
    refine lv_lconst (v := (0 : Int64)) hx hb dX12_number_7 (by decide) ?_
    obtain rfl := Option.some.inj h
    exact W.lret hx hb hr (fun t ht _ => ⟨rfl, by rw [ht]; exact hP, hS.F ht⟩) hS.2.2 dX12_number_8 hlk
theorem kX12_number (hI : Apart ad 71) {v1 : Int32} {q : Int64 × Tmc} (h : X12_number mc mb v1 = some q) : Met l yX12_number (.code yX12_number cX12_number 4 (some .long) :: WA) ({ frames := 2, cells := 0, slots := 0, locals := 46 } : Room) (va_Pc [.ref (ad 0), .int v1] (PR D cy (GM cy ad mt mc mb mo ms mk my mu ma me mr mp mg mw mf ml mq))) (QR (some (.long q.1)) D (GM cy ad mt q.2 mb mo ms mk my mu ma me mr mp mg mw mf ml mq) (Ac ad 71)) 0 0 (Ac ad 71) :=
  met_of (by decide) (Nat.le_of_ble_eq_true rfl) (fun p e s m below meth c ls C hP hK hN hl => bX12_number_0 C hI hK hN h hl hP va_S.rf)
def X12_leb_48 (mb : Tmb)  (mc : Tmc) (v2 : Int32) : Option (Int64 × Tmc) := (letq (X12_fail (v2, mc.2.1, mc.2.2.1, mc.2.2.2) (1 : Int32) v2) fun q1 => some ((0 : Int64), q1))
set_option maxRecDepth 20000 in
theorem bX12_leb_48 (C : Cx p s m args meth c cX12_leb 8 (some .long) RX12 (.code yX12_leb cX12_leb 8 (some .long))) (hI : Apart ad 71) (hK : va_K D vwCl (tysX cy) s) (hN : NW s)  {q : Int64 × Tmc}  {v2 : Int32} (h : X12_leb_48 mb mc v2 = some q) {ls : Array Slot} (hl : lv_has ls 8 [(0, .ref (ad 0)), (2, .int v2)]) {H : Heap} {locs : List Loc} (hP : va_P D vwCl (GM cy ad mt mc mb mo ms mk my mu ma me mr mp mg mw mf ml mq) H) (hS : va_S (Ac ad 71) s.heap H locs) : W p l e ({ frames := 1, cells := 0, slots := 0, locals := 22 } : Room) s m args below meth c H locs 0 0 (MQ below (QR (some (.long q.1)) D (GM cy ad mt q.2 mb mo ms mk my mu ma me mr mp mg mw mf ml mq) (Ac ad 71)) args s 0 0 (Ac ad 71)) (F0 m 48 ls []) := by
  obtain ⟨hx, hb, hml, hown, hts, hr, hlk⟩ := id C
  unfold X12_leb_48 at h
  refine lv_aload_n hx hb dX12_leb_48 rfl (lv_at hl 0 rfl) ?_
  refine lv_iload_n hx hb dX12_leb_49 rfl (lv_at hl 1 rfl) ?_
  refine pM0_77 (v := v2) C hI hK hP hS w1444 dX12_leb_50 (fun H locs hP hS => ?_)
  have hP : va_P D vwCl (GM cy ad mt (v2, mc.2.1, mc.2.2.1, mc.2.2.2) mb mo ms mk my mu ma me mr mp mg mw mf ml mq) H := hP
  refine lv_aload_n hx hb dX12_leb_53 rfl (lv_at hl 0 rfl) ?_
  refine lv_iconst (v := (1 : Int32)) hx hb dX12_leb_54 (by decide) ?_
  refine lv_iload_n hx hb dX12_leb_55 rfl (lv_at hl 1 rfl) ?_
  obtain ⟨q1, h2, h⟩ := lets h
  refine cRv (run_V (rest := []) C (kX12_fail hI h2) caX12_fail w1678 ⟨rfl, rfl, Nat.le_of_ble_eq_true rfl, Nat.le_of_ble_eq_true rfl⟩ hK hN hP (rM0 hK hP) rfl hl.1 rfl (Nat.le_of_ble_eq_true rfl) dX12_leb_56 ⟨Nat.zero_le _, Nat.zero_le _⟩) hS (fun H locs hP hS => ?_)
  have hP : va_P D vwCl (GM cy ad mt q1 mb mo ms mk my mu ma me mr mp mg mw mf ml mq) H := hP
  refine lv_lconst (v := (0 : Int64)) hx hb dX12_leb_59 (by decide) ?_
  obtain rfl := Option.some.inj h
  exact W.lret hx hb hr (fun t ht _ => ⟨rfl, by rw [ht]; exact hP, hS.F ht⟩) hS.2.2 dX12_leb_60 hlk
def X12_leb_122 (mb : Tmb) (k25 : Tmc → Int32 → Int32 → Int64 → Int32 → Int32 → Int32 → Option (Int64 × Tmc)) (mc : Tmc) (v1 : Int32) (v2 : Int32) (v3 : Int64) (v5 : Int32) (v7 : Int32) (z0 : Int32) : Option (Int64 × Tmc) := k25 mc v1 v2 v3 v5 z0 v7
set_option maxRecDepth 20000 in
theorem bX12_leb_122 (C : Cx p s m args meth c cX12_leb 8 (some .long) RX12 (.code yX12_leb cX12_leb 8 (some .long))) (hI : Apart ad 71) (hK : va_K D vwCl (tysX cy) s) (hN : NW s) {k25 : Tmc → Int32 → Int32 → Int64 → Int32 → Int32 → Int32 → Option (Int64 × Tmc)} {q : Int64 × Tmc} (hk25 : ∀ {mc : Tmc} {v1 : Int32} {v2 : Int32} {v3 : Int64} {v5 : Int32} {v6 : Int32} {v7 : Int32}, k25 mc v1 v2 v3 v5 v6 v7 = some q → ∀ {ls : Array Slot}, lv_has ls 8 [(0, .ref (ad 0)), (1, .int v1), (2, .int v2), (3, .long v3), (5, .int v5), (6, .int v6), (7, .int v7)] → ∀ {H : Heap} {locs : List Loc}, va_P D vwCl (GM cy ad mt mc mb mo ms mk my mu ma me mr mp mg mw mf ml mq) H → va_S (Ac ad 71) s.heap H locs → W p l e ({ frames := 1, cells := 0, slots := 0, locals := 22 } : Room) s m args below meth c H locs 0 0 (MQ below (QR (some (.long q.1)) D (GM cy ad mt q.2 mb mo ms mk my mu ma me mr mp mg mw mf ml mq) (Ac ad 71)) args s 0 0 (Ac ad 71)) (F0 m 25 ls [])) {v1 : Int32} {v2 : Int32} {v3 : Int64} {v5 : Int32} {v7 : Int32} {z0 : Int32} (h : X12_leb_122 mb k25 mc v1 v2 v3 v5 v7 z0 = some q) {ls : Array Slot} (hl : lv_has ls 8 [(0, .ref (ad 0)), (1, .int v1), (2, .int v2), (3, .long v3), (5, .int v5), (7, .int v7)]) {H : Heap} {locs : List Loc} (hP : va_P D vwCl (GM cy ad mt mc mb mo ms mk my mu ma me mr mp mg mw mf ml mq) H) (hS : va_S (Ac ad 71) s.heap H locs) : W p l e ({ frames := 1, cells := 0, slots := 0, locals := 22 } : Room) s m args below meth c H locs 0 0 (MQ below (QR (some (.long q.1)) D (GM cy ad mt q.2 mb mo ms mk my mu ma me mr mp mg mw mf ml mq) (Ac ad 71)) args s 0 0 (Ac ad 71)) (F0 m 122 ls [.int z0]) := by
  obtain ⟨hx, hb, hml, hown, hts, hr, hlk⟩ := id C
  unfold X12_leb_122 at h
  refine lv_istore (lv' := [(6, .int z0), (0, .ref (ad 0)), (1, .int v1), (2, .int v2), (3, .long v3), (5, .int v5), (7, .int v7)]) hx hb dX12_leb_122 hl (by decide) rfl (fun ls hl => ?_)
  refine lv_goto (tgt := 25) hx hb dX12_leb_124 (by decide) ?_
  exact hk25 h (lv_sub hl [1, 2, 3, 4, 5, 0, 6] rfl) hP hS
def X12_leb_106 (mb : Tmb) (k25 : Tmc → Int32 → Int32 → Int64 → Int32 → Int32 → Int32 → Option (Int64 × Tmc)) (mc : Tmc) (v1 : Int32) (v2 : Int32) (v3 : Int64) (v5 : Int32) (v7 : Int32) : Option (Int64 × Tmc) := (if v7 < (128 : Int32) then X12_leb_122 mb k25 mc v1 v2 v3 (v5 + (1 : Int32)) v7 (0 : Int32) else X12_leb_122 mb k25 mc v1 v2 v3 (v5 + (1 : Int32)) v7 (1 : Int32))
set_option maxRecDepth 20000 in
theorem bX12_leb_106 (C : Cx p s m args meth c cX12_leb 8 (some .long) RX12 (.code yX12_leb cX12_leb 8 (some .long))) (hI : Apart ad 71) (hK : va_K D vwCl (tysX cy) s) (hN : NW s) {k25 : Tmc → Int32 → Int32 → Int64 → Int32 → Int32 → Int32 → Option (Int64 × Tmc)} {q : Int64 × Tmc} (hk25 : ∀ {mc : Tmc} {v1 : Int32} {v2 : Int32} {v3 : Int64} {v5 : Int32} {v6 : Int32} {v7 : Int32}, k25 mc v1 v2 v3 v5 v6 v7 = some q → ∀ {ls : Array Slot}, lv_has ls 8 [(0, .ref (ad 0)), (1, .int v1), (2, .int v2), (3, .long v3), (5, .int v5), (6, .int v6), (7, .int v7)] → ∀ {H : Heap} {locs : List Loc}, va_P D vwCl (GM cy ad mt mc mb mo ms mk my mu ma me mr mp mg mw mf ml mq) H → va_S (Ac ad 71) s.heap H locs → W p l e ({ frames := 1, cells := 0, slots := 0, locals := 22 } : Room) s m args below meth c H locs 0 0 (MQ below (QR (some (.long q.1)) D (GM cy ad mt q.2 mb mo ms mk my mu ma me mr mp mg mw mf ml mq) (Ac ad 71)) args s 0 0 (Ac ad 71)) (F0 m 25 ls [])) {v1 : Int32} {v2 : Int32} {v3 : Int64} {v5 : Int32} {v7 : Int32} (h : X12_leb_106 mb k25 mc v1 v2 v3 v5 v7 = some q) {ls : Array Slot} (hl : lv_has ls 8 [(0, .ref (ad 0)), (1, .int v1), (2, .int v2), (3, .long v3), (5, .int v5), (7, .int v7)]) {H : Heap} {locs : List Loc} (hP : va_P D vwCl (GM cy ad mt mc mb mo ms mk my mu ma me mr mp mg mw mf ml mq) H) (hS : va_S (Ac ad 71) s.heap H locs) : W p l e ({ frames := 1, cells := 0, slots := 0, locals := 22 } : Room) s m args below meth c H locs 0 0 (MQ below (QR (some (.long q.1)) D (GM cy ad mt q.2 mb mo ms mk my mu ma me mr mp mg mw mf ml mq) (Ac ad 71)) args s 0 0 (Ac ad 71)) (F0 m 106 ls []) := by
  obtain ⟨hx, hb, hml, hown, hts, hr, hlk⟩ := id C
  unfold X12_leb_106 at h
  refine lv_iinc (v := (v5 + (1 : Int32))) (lv' := [(5, .int (v5 + (1 : Int32))), (0, .ref (ad 0)), (1, .int v1), (2, .int v2), (3, .long v3), (7, .int v7)]) hx hb dX12_leb_106 hl (k := 4) rfl rfl (by decide) rfl (fun ls hl => ?_)
  refine lv_iload hx hb dX12_leb_109 (lv_at hl 5 rfl) ?_
  refine lv_sipush (v := (128 : Int32)) hx hb dX12_leb_111 (by decide) ?_
  refine lv_icmp_lt (tgt := 121) hx hb dX12_leb_114 (by decide) (fun c1 => ?_) (fun c1 => ?_)
  · rw [if_pos c1] at h
    refine lv_iconst (v := (0 : Int32)) hx hb dX12_leb_121 (by decide) ?_
    exact bX12_leb_122 C hI hK hN @hk25 h (lv_sub hl [1, 2, 3, 4, 0, 5] rfl) hP hS
  · rw [if_neg c1] at h
    refine lv_iconst (v := (1 : Int32)) hx hb dX12_leb_117 (by decide) ?_
    refine lv_goto (tgt := 122) hx hb dX12_leb_118 (by decide) ?_
    exact bX12_leb_122 C hI hK hN @hk25 h (lv_sub hl [1, 2, 3, 4, 0, 5] rfl) hP hS
def X12_leb_25b (mb : Tmb)  (k25 : Tmc → Int32 → Int32 → Int64 → Int32 → Int32 → Int32 → Option (Int64 × Tmc)) (mc : Tmc) (v1 : Int32) (v2 : Int32) (v3 : Int64) (v5 : Int32) (v6 : Int32) (v7 : Int32) : Option (Int64 × Tmc) := (if v6 = 0 then (if v1 = 0 then some (v3, mc) else (if (v7 &&& (64 : Int32)) = 0 then some (v3, mc) else (if ((7 : Int32) * v5) < (64 : Int32) then some ((v3 ||| ((-1 : Int64) <<< ((((7 : Int32) * v5)).toInt64 &&& 63))), mc) else some (v3, mc)))) else (if mc.1 < mc.2.1 then (if v5 = (10 : Int32) then X12_leb_48 mb mc v2 else ((X12_byteOf mb mc.1).bind fun q7 => (if ((7 : Int32) * v5) < (64 : Int32) then X12_leb_106 mb k25 ((mc.1 + (1 : Int32)), mc.2.1, mc.2.2.1, mc.2.2.2) v1 v2 (v3 ||| ((((q7 &&& (127 : Int32))).toInt64) <<< ((((7 : Int32) * v5)).toInt64 &&& 63))) v5 q7 else X12_leb_106 mb k25 ((mc.1 + (1 : Int32)), mc.2.1, mc.2.2.1, mc.2.2.2) v1 v2 v3 v5 q7))) else X12_leb_48 mb mc v2))
def X12_leb_25 (mb : Tmb)  (n : Nat) (st : Tmc × Int32 × Int32 × Int64 × Int32 × Int32 × Int32) : Option (Int64 × Tmc) := lp (fun rec st => X12_leb_25b mb  (fun a0 a1 a2 a3 a4 a5 a6 => rec (a0, a1, a2, a3, a4, a5, a6)) st.1 st.2.1 st.2.2.1 st.2.2.2.1 st.2.2.2.2.1 st.2.2.2.2.2.1 st.2.2.2.2.2.2) n st
set_option maxRecDepth 20000 in
theorem bX12_leb_25 (C : Cx p s m args meth c cX12_leb 8 (some .long) RX12 (.code yX12_leb cX12_leb 8 (some .long))) (hI : Apart ad 71) (hK : va_K D vwCl (tysX cy) s) (hN : NW s)  {q : Int64 × Tmc}  : ∀ (n : Nat) {mc : Tmc} {v1 : Int32} {v2 : Int32} {v3 : Int64} {v5 : Int32} {v6 : Int32} {v7 : Int32}, X12_leb_25 mb  n (mc, v1, v2, v3, v5, v6, v7) = some q → ∀ {ls : Array Slot}, lv_has ls 8 [(0, .ref (ad 0)), (1, .int v1), (2, .int v2), (3, .long v3), (5, .int v5), (6, .int v6), (7, .int v7)] → ∀ {H : Heap} {locs : List Loc}, va_P D vwCl (GM cy ad mt mc mb mo ms mk my mu ma me mr mp mg mw mf ml mq) H → va_S (Ac ad 71) s.heap H locs → W p l e ({ frames := 1, cells := 0, slots := 0, locals := 22 } : Room) s m args below meth c H locs 0 0 (MQ below (QR (some (.long q.1)) D (GM cy ad mt q.2 mb mo ms mk my mu ma me mr mp mg mw mf ml mq) (Ac ad 71)) args s 0 0 (Ac ad 71)) (F0 m 25 ls []) := by
  obtain ⟨hx, hb, hml, hown, hts, hr, hlk⟩ := id C
  intro n
  induction n with
  | zero =>
    intro mc v1 v2 v3 v5 v6 v7 h ls hl H locs hP hS
    have h : (none : Option (Int64 × Tmc)) = some q := h
    cases h
  | succ n ih =>
    intro mc v1 v2 v3 v5 v6 v7 h ls hl H locs hP hS
    have h : X12_leb_25b mb  (fun a0 a1 a2 a3 a4 a5 a6 => X12_leb_25 mb  n (a0, a1, a2, a3, a4, a5, a6)) mc v1 v2 v3 v5 v6 v7 = some q := h
    unfold X12_leb_25b at h
    refine lv_iload hx hb dX12_leb_25 (lv_at hl 5 rfl) ?_
    refine lv_if_eq (tgt := 127) hx hb dX12_leb_27 (by decide) (fun c1 => ?_) (fun c1 => ?_)
    · rw [if_pos c1] at h
      refine lv_iload_n hx hb dX12_leb_127 rfl (lv_at hl 1 rfl) ?_
      refine lv_if_eq (tgt := 161) hx hb dX12_leb_128 (by decide) (fun c2 => ?_) (fun c2 => ?_)
      · rw [if_pos c2] at h
        refine lv_lload_n hx hb dX12_leb_161 rfl (lv_at hl 3 rfl) ?_
        obtain rfl := Option.some.inj h
        exact W.lret hx hb hr (fun t ht _ => ⟨rfl, by rw [ht]; exact hP, hS.F ht⟩) hS.2.2 dX12_leb_162 hlk
      · rw [if_neg c2] at h
        refine lv_iload hx hb dX12_leb_131 (lv_at hl 6 rfl) ?_
        refine lv_bipush (v := (64 : Int32)) hx hb dX12_leb_133 (by decide) ?_
        refine lv_iand hx hb dX12_leb_135 ?_
        refine lv_if_eq (tgt := 161) hx hb dX12_leb_136 (by decide) (fun c3 => ?_) (fun c3 => ?_)
        · rw [if_pos c3] at h
          refine lv_lload_n hx hb dX12_leb_161 rfl (lv_at hl 3 rfl) ?_
          obtain rfl := Option.some.inj h
          exact W.lret hx hb hr (fun t ht _ => ⟨rfl, by rw [ht]; exact hP, hS.F ht⟩) hS.2.2 dX12_leb_162 hlk
        · rw [if_neg c3] at h
          refine lv_bipush (v := (7 : Int32)) hx hb dX12_leb_139 (by decide) ?_
          refine lv_iload hx hb dX12_leb_141 (lv_at hl 4 rfl) ?_
          refine lv_imul hx hb dX12_leb_143 ?_
          refine lv_bipush (v := (64 : Int32)) hx hb dX12_leb_144 (by decide) ?_
          refine b_icmp_ge (tgt := 161) hx hb dX12_leb_146 (by decide) (fun c4 => ?_) (fun c4 => ?_)
          · rw [if_neg c4] at h
            refine lv_lload_n hx hb dX12_leb_161 rfl (lv_at hl 3 rfl) ?_
            obtain rfl := Option.some.inj h
            exact W.lret hx hb hr (fun t ht _ => ⟨rfl, by rw [ht]; exact hP, hS.F ht⟩) hS.2.2 dX12_leb_162 hlk
          · rw [if_pos c4] at h
            refine lv_lload_n hx hb dX12_leb_149 rfl (lv_at hl 3 rfl) ?_
            refine lv_ldc2 (v := (-1 : Int64)) hx hb hown (hts _ (List.mem_cons_of_mem _ w1749)) dX12_leb_150 ?_
            refine lv_bipush (v := (7 : Int32)) hx hb dX12_leb_153 (by decide) ?_
            refine lv_iload hx hb dX12_leb_155 (lv_at hl 4 rfl) ?_
            refine lv_imul hx hb dX12_leb_157 ?_
            refine lv_lshl (v := ((-1 : Int64) <<< ((((7 : Int32) * v5)).toInt64 &&& 63))) hx hb dX12_leb_158 rfl ?_
            refine lv_lor hx hb dX12_leb_159 ?_
            refine lv_lstore_n (lv' := [(3, .long (v3 ||| ((-1 : Int64) <<< ((((7 : Int32) * v5)).toInt64 &&& 63)))), (0, .ref (ad 0)), (1, .int v1), (2, .int v2), (5, .int v5), (6, .int v6), (7, .int v7)]) hx hb dX12_leb_160 rfl hl (by decide) rfl (fun ls hl => ?_)
            refine lv_lload_n hx hb dX12_leb_161 rfl (lv_at hl 0 rfl) ?_
            obtain rfl := Option.some.inj h
            exact W.lret hx hb hr (fun t ht _ => ⟨rfl, by rw [ht]; exact hP, hS.F ht⟩) hS.2.2 dX12_leb_162 hlk
    · rw [if_neg c1] at h
      refine lv_aload_n hx hb dX12_leb_30 rfl (lv_at hl 0 rfl) ?_
      refine gM0_77 (v := mc.1) C hK hP rfl w1444 dX12_leb_31 ?_
      refine lv_aload_n hx hb dX12_leb_34 rfl (lv_at hl 0 rfl) ?_
      refine gM0_78 (v := mc.2.1) C hK hP rfl w1445 dX12_leb_35 ?_
      refine b_icmp_ge (tgt := 48) hx hb dX12_leb_38 (by decide) (fun c5 => ?_) (fun c5 => ?_)
      · rw [if_neg c5] at h
        exact bX12_leb_48 C hI hK hN h (lv_sub hl [0, 2] rfl) hP hS
      · rw [if_pos c5] at h
        refine lv_iload hx hb dX12_leb_41 (lv_at hl 4 rfl) ?_
        refine lv_bipush (v := (10 : Int32)) hx hb dX12_leb_43 (by decide) ?_
        refine lv_icmp_ne (tgt := 61) hx hb dX12_leb_45 (by decide) (fun c6 => ?_) (fun c6 => ?_)
        · rw [if_neg c6] at h
          refine lv_aload_n hx hb dX12_leb_61 rfl (lv_at hl 0 rfl) ?_
          refine lv_aload_n hx hb dX12_leb_62 rfl (lv_at hl 0 rfl) ?_
          refine gM0_77 (v := mc.1) C hK hP rfl w1444 dX12_leb_63 ?_
          obtain ⟨q7, h8, h⟩ := bnd h
          refine cPi (run_V (rest := []) C (kX12_byteOf h8) caX12_byteOf w1674 ⟨rfl, rfl, Nat.le_of_ble_eq_true rfl, Nat.le_of_ble_eq_true rfl⟩ hK hN hP (rM0 hK hP) rfl hl.1 rfl (Nat.le_of_ble_eq_true rfl) dX12_leb_66 ⟨Nat.zero_le _, Nat.zero_le _⟩) ?_
          refine lv_istore (lv' := [(7, .int q7), (0, .ref (ad 0)), (1, .int v1), (2, .int v2), (3, .long v3), (5, .int v5), (6, .int v6)]) hx hb dX12_leb_69 hl (by decide) rfl (fun ls hl => ?_)
          refine lv_aload_n hx hb dX12_leb_71 rfl (lv_at hl 1 rfl) ?_
          refine lv_dup hx hb dX12_leb_72 rfl ?_
          refine gM0_77 (v := mc.1) C hK hP rfl w1444 dX12_leb_73 ?_
          refine lv_iconst (v := (1 : Int32)) hx hb dX12_leb_76 (by decide) ?_
          refine lv_iadd hx hb dX12_leb_77 ?_
          refine pM0_77 (v := (mc.1 + (1 : Int32))) C hI hK hP hS w1444 dX12_leb_78 (fun H locs hP hS => ?_)
          have hP : va_P D vwCl (GM cy ad mt ((mc.1 + (1 : Int32)), mc.2.1, mc.2.2.1, mc.2.2.2) mb mo ms mk my mu ma me mr mp mg mw mf ml mq) H := hP
          refine lv_bipush (v := (7 : Int32)) hx hb dX12_leb_81 (by decide) ?_
          refine lv_iload hx hb dX12_leb_83 (lv_at hl 5 rfl) ?_
          refine lv_imul hx hb dX12_leb_85 ?_
          refine lv_bipush (v := (64 : Int32)) hx hb dX12_leb_86 (by decide) ?_
          refine b_icmp_ge (tgt := 106) hx hb dX12_leb_88 (by decide) (fun c9 => ?_) (fun c9 => ?_)
          · rw [if_neg c9] at h
            exact bX12_leb_106 C hI hK hN @ih h (lv_sub hl [1, 2, 3, 4, 5, 0] rfl) hP hS
          · rw [if_pos c9] at h
            refine lv_lload_n hx hb dX12_leb_91 rfl (lv_at hl 4 rfl) ?_
            refine lv_iload hx hb dX12_leb_92 (lv_at hl 0 rfl) ?_
            refine lv_bipush (v := (127 : Int32)) hx hb dX12_leb_94 (by decide) ?_
            refine lv_iand hx hb dX12_leb_96 ?_
            refine lv_i2l (v := (((q7 &&& (127 : Int32))).toInt64)) hx hb dX12_leb_97 rfl ?_
            refine lv_bipush (v := (7 : Int32)) hx hb dX12_leb_98 (by decide) ?_
            refine lv_iload hx hb dX12_leb_100 (lv_at hl 5 rfl) ?_
            refine lv_imul hx hb dX12_leb_102 ?_
            refine lv_lshl (v := ((((q7 &&& (127 : Int32))).toInt64) <<< ((((7 : Int32) * v5)).toInt64 &&& 63))) hx hb dX12_leb_103 rfl ?_
            refine lv_lor hx hb dX12_leb_104 ?_
            refine lv_lstore_n (lv' := [(3, .long (v3 ||| ((((q7 &&& (127 : Int32))).toInt64) <<< ((((7 : Int32) * v5)).toInt64 &&& 63)))), (7, .int q7), (0, .ref (ad 0)), (1, .int v1), (2, .int v2), (5, .int v5), (6, .int v6)]) hx hb dX12_leb_105 rfl hl (by decide) rfl (fun ls hl => ?_)
            exact bX12_leb_106 C hI hK hN @ih h (lv_sub hl [2, 3, 4, 0, 5, 1] rfl) hP hS
        · rw [if_pos c6] at h
          exact bX12_leb_48 C hI hK hN h (lv_sub hl [0, 2] rfl) hP hS
def X12_leb (mc : Tmc) (mb : Tmb) (v1 : Int32) : Option (Int64 × Tmc) := (if (X12_isRight mc) = 0 then some ((0 : Int64), mc) else X12_leb_25 mb FU (mc, v1, mc.1, (0 : Int64), (0 : Int32), (1 : Int32), (0 : Int32)))
set_option maxRecDepth 20000 in
theorem bX12_leb_0 (C : Cx p s m args meth c cX12_leb 8 (some .long) RX12 (.code yX12_leb cX12_leb 8 (some .long))) (hI : Apart ad 71) (hK : va_K D vwCl (tysX cy) s) (hN : NW s)  {q : Int64 × Tmc}  {v1 : Int32} (h : X12_leb mc mb v1 = some q) {ls : Array Slot} (hl : lv_has ls 8 [(0, .ref (ad 0)), (1, .int v1)]) {H : Heap} {locs : List Loc} (hP : va_P D vwCl (GM cy ad mt mc mb mo ms mk my mu ma me mr mp mg mw mf ml mq) H) (hS : va_S (Ac ad 71) s.heap H locs) : W p l e ({ frames := 1, cells := 0, slots := 0, locals := 22 } : Room) s m args below meth c H locs 0 0 (MQ below (QR (some (.long q.1)) D (GM cy ad mt q.2 mb mo ms mk my mu ma me mr mp mg mw mf ml mq) (Ac ad 71)) args s 0 0 (Ac ad 71)) (F0 m 0 ls []) := by
  obtain ⟨hx, hb, hml, hown, hts, hr, hlk⟩ := id C
  unfold X12_leb at h
  refine lv_aload_n hx hb dX12_leb_0 rfl (lv_at hl 0 rfl) ?_
  refine cPi (run_V (rest := []) C (kX12_isRight rfl) caX12_isRight w1682 ⟨rfl, rfl, Nat.le_of_ble_eq_true rfl, Nat.le_of_ble_eq_true rfl⟩ hK hN hP (rM0 hK hP) rfl hl.1 rfl (Nat.le_of_ble_eq_true rfl) dX12_leb_1 ⟨Nat.zero_le _, Nat.zero_le _⟩) ?_
  refine lv_if_ne (tgt := 9) hx hb dX12_leb_4 (by decide) (fun c1 => ?_) (fun c1 => ?_)
  · rw [if_neg c1] at h
    refine lv_aload_n hx hb dX12_leb_9 rfl (lv_at hl 0 rfl) ?_
    refine gM0_77 (v := mc.1) C hK hP rfl w1444 dX12_leb_10 ?_
    refine lv_istore_n (lv' := [(2, .int mc.1), (0, .ref (ad 0)), (1, .int v1)]) hx hb dX12_leb_13 rfl hl (by decide) rfl (fun ls hl => ?_)
    refine lv_lconst (v := (0 : Int64)) hx hb dX12_leb_14 (by decide) ?_
    refine lv_lstore_n (lv' := [(3, .long (0 : Int64)), (2, .int mc.1), (0, .ref (ad 0)), (1, .int v1)]) hx hb dX12_leb_15 rfl hl (by decide) rfl (fun ls hl => ?_)
    refine lv_iconst (v := (0 : Int32)) hx hb dX12_leb_16 (by decide) ?_
    refine lv_istore (lv' := [(5, .int (0 : Int32)), (3, .long (0 : Int64)), (2, .int mc.1), (0, .ref (ad 0)), (1, .int v1)]) hx hb dX12_leb_17 hl (by decide) rfl (fun ls hl => ?_)
    refine lv_iconst (v := (1 : Int32)) hx hb dX12_leb_19 (by decide) ?_
    refine lv_istore (lv' := [(6, .int (1 : Int32)), (5, .int (0 : Int32)), (3, .long (0 : Int64)), (2, .int mc.1), (0, .ref (ad 0)), (1, .int v1)]) hx hb dX12_leb_20 hl (by decide) rfl (fun ls hl => ?_)
    refine lv_iconst (v := (0 : Int32)) hx hb dX12_leb_22 (by decide) ?_
    refine lv_istore (lv' := [(7, .int (0 : Int32)), (6, .int (1 : Int32)), (5, .int (0 : Int32)), (3, .long (0 : Int64)), (2, .int mc.1), (0, .ref (ad 0)), (1, .int v1)]) hx hb dX12_leb_23 hl (by decide) rfl (fun ls hl => ?_)
    exact bX12_leb_25 C hI hK hN FU h (lv_sub hl [5, 6, 4, 3, 2, 1, 0] rfl) hP hS
  · rw [if_pos c1] at h
    refine lv_lconst (v := (0 : Int64)) hx hb dX12_leb_7 (by decide) ?_
    obtain rfl := Option.some.inj h
    exact W.lret hx hb hr (fun t ht _ => ⟨rfl, by rw [ht]; exact hP, hS.F ht⟩) hS.2.2 dX12_leb_8 hlk
theorem kX12_leb (hI : Apart ad 71) {v1 : Int32} {q : Int64 × Tmc} (h : X12_leb mc mb v1 = some q) : Met l yX12_leb (.code yX12_leb cX12_leb 8 (some .long) :: WA) ({ frames := 1, cells := 0, slots := 0, locals := 22 } : Room) (va_Pc [.ref (ad 0), .int v1] (PR D cy (GM cy ad mt mc mb mo ms mk my mu ma me mr mp mg mw mf ml mq))) (QR (some (.long q.1)) D (GM cy ad mt q.2 mb mo ms mk my mu ma me mr mp mg mw mf ml mq) (Ac ad 71)) 0 0 (Ac ad 71) :=
  met_of (by decide) (Nat.le_of_ble_eq_true rfl) (fun p e s m below meth c ls C hP hK hN hl => bX12_leb_0 C hI hK hN h hl hP va_S.rf)
def X12_uleb (mc : Tmc) (mb : Tmb)  : Option (Int64 × Tmc) := ((X12_leb mc mb (0 : Int32)).bind fun q1 => some (q1.1, q1.2))
set_option maxRecDepth 20000 in
theorem bX12_uleb_0 (C : Cx p s m args meth c cX12_uleb 1 (some .long) RX12 (.code yX12_uleb cX12_uleb 1 (some .long))) (hI : Apart ad 71) (hK : va_K D vwCl (tysX cy) s) (hN : NW s)  {q : Int64 × Tmc}   (h : X12_uleb mc mb = some q) {ls : Array Slot} (hl : lv_has ls 1 [(0, .ref (ad 0))]) {H : Heap} {locs : List Loc} (hP : va_P D vwCl (GM cy ad mt mc mb mo ms mk my mu ma me mr mp mg mw mf ml mq) H) (hS : va_S (Ac ad 71) s.heap H locs) : W p l e ({ frames := 2, cells := 0, slots := 0, locals := 49 } : Room) s m args below meth c H locs 0 0 (MQ below (QR (some (.long q.1)) D (GM cy ad mt q.2 mb mo ms mk my mu ma me mr mp mg mw mf ml mq) (Ac ad 71)) args s 0 0 (Ac ad 71)) (F0 m 0 ls []) := by
  obtain ⟨hx, hb, hml, hown, hts, hr, hlk⟩ := id C
  unfold X12_uleb at h
  refine lv_aload_n hx hb dX12_uleb_0 rfl (lv_at hl 0 rfl) ?_
  refine lv_iconst (v := (0 : Int32)) hx hb dX12_uleb_1 (by decide) ?_
  obtain ⟨q1, h2, h⟩ := bnd h
  refine cRl (run_V (rest := []) C (kX12_leb hI h2) caX12_leb w1745 ⟨rfl, rfl, Nat.le_of_ble_eq_true rfl, Nat.le_of_ble_eq_true rfl⟩ hK hN hP (rM0 hK hP) rfl hl.1 rfl (Nat.le_of_ble_eq_true rfl) dX12_uleb_2 ⟨Nat.zero_le _, Nat.zero_le _⟩) hS (fun H locs hP hS => ?_)
  have hP : va_P D vwCl (GM cy ad mt q1.2 mb mo ms mk my mu ma me mr mp mg mw mf ml mq) H := hP
  obtain rfl := Option.some.inj h
  exact W.lret hx hb hr (fun t ht _ => ⟨rfl, by rw [ht]; exact hP, hS.F ht⟩) hS.2.2 dX12_uleb_5 hlk
theorem kX12_uleb (hI : Apart ad 71)  {q : Int64 × Tmc} (h : X12_uleb mc mb = some q) : Met l yX12_uleb (.code yX12_uleb cX12_uleb 1 (some .long) :: WA) ({ frames := 2, cells := 0, slots := 0, locals := 49 } : Room) (va_Pc [.ref (ad 0)] (PR D cy (GM cy ad mt mc mb mo ms mk my mu ma me mr mp mg mw mf ml mq))) (QR (some (.long q.1)) D (GM cy ad mt q.2 mb mo ms mk my mu ma me mr mp mg mw mf ml mq) (Ac ad 71)) 0 0 (Ac ad 71) :=
  met_of (by decide) (Nat.le_of_ble_eq_true rfl) (fun p e s m below meth c ls C hP hK hN hl => bX12_uleb_0 C hI hK hN h hl hP va_S.rf)
def X12_stringAt_21 (mb : Tmb)   (v1 : Int32) (v2 : Int32) (v3 : Int32) : Option (Int32) := (if v3 < v2 then some (v3 - v1) else some (-1 : Int32))
set_option maxRecDepth 20000 in
theorem bX12_stringAt_21 (C : Cx p s m args meth c cX12_stringAt 4 (some .int) RX12 (.code yX12_stringAt cX12_stringAt 4 (some .int))) (hK : va_K D vwCl (tysX cy) s) (hN : NW s)  {q : Int32}  {v1 : Int32} {v2 : Int32} {v3 : Int32} (h : X12_stringAt_21 mb v1 v2 v3 = some q) {ls : Array Slot} (hl : lv_has ls 4 [(1, .int v1), (2, .int v2), (3, .int v3)]) (hP : va_P D vwCl (GM cy ad mt mc mb mo ms mk my mu ma me mr mp mg mw mf ml mq) s.heap) : W p l e ({ frames := 1, cells := 0, slots := 0, locals := 21 } : Room) s m args below meth c s.heap [] 0 0 (MQ below (QP (some (.int q))) args s 0 0 (fun _ => False)) (F0 m 21 ls []) := by
  obtain ⟨hx, hb, hml, hown, hts, hr, hlk⟩ := id C
  unfold X12_stringAt_21 at h
  refine lv_iload_n hx hb dX12_stringAt_21 rfl (lv_at hl 2 rfl) ?_
  refine lv_iload_n hx hb dX12_stringAt_22 rfl (lv_at hl 1 rfl) ?_
  refine b_icmp_ge (tgt := 32) hx hb dX12_stringAt_23 (by decide) (fun c1 => ?_) (fun c1 => ?_)
  · rw [if_neg c1] at h
    refine lv_iconst (v := (-1 : Int32)) hx hb dX12_stringAt_32 (by decide) ?_
    obtain rfl := Option.some.inj h
    exact W.iret hx hb hr (fun t ht _ => ⟨rfl, ht⟩) (fun _ h9 => by cases h9) dX12_stringAt_33 hlk
  · rw [if_pos c1] at h
    refine lv_iload_n hx hb dX12_stringAt_26 rfl (lv_at hl 2 rfl) ?_
    refine lv_iload_n hx hb dX12_stringAt_27 rfl (lv_at hl 0 rfl) ?_
    refine lv_isub hx hb dX12_stringAt_28 ?_
    refine lv_goto (tgt := 33) hx hb dX12_stringAt_29 (by decide) ?_
    obtain rfl := Option.some.inj h
    exact W.iret hx hb hr (fun t ht _ => ⟨rfl, ht⟩) (fun _ h9 => by cases h9) dX12_stringAt_33 hlk
def X12_stringAt_2b (mb : Tmb)  (k2 : Int32 → Int32 → Int32 → Option (Int32))  (v1 : Int32) (v2 : Int32) (v3 : Int32) : Option (Int32) := (if v3 < v2 then ((X12_byteOf mb v3).bind fun q2 => (if q2 = 0 then X12_stringAt_21 mb v1 v2 v3 else k2 v1 v2 (v3 + (1 : Int32)))) else X12_stringAt_21 mb v1 v2 v3)
def X12_stringAt_2 (mb : Tmb)  (n : Nat) (st : Int32 × Int32 × Int32) : Option (Int32) := lp (fun rec st => X12_stringAt_2b mb  (fun a0 a1 a2 => rec (a0, a1, a2)) st.1 st.2.1 st.2.2) n st
set_option maxRecDepth 20000 in
theorem bX12_stringAt_2 (C : Cx p s m args meth c cX12_stringAt 4 (some .int) RX12 (.code yX12_stringAt cX12_stringAt 4 (some .int))) (hK : va_K D vwCl (tysX cy) s) (hN : NW s)  {q : Int32}  : ∀ (n : Nat)  {v1 : Int32} {v2 : Int32} {v3 : Int32}, X12_stringAt_2 mb  n (v1, v2, v3) = some q → ∀ {ls : Array Slot}, lv_has ls 4 [(0, .ref (ad 0)), (1, .int v1), (2, .int v2), (3, .int v3)] → va_P D vwCl (GM cy ad mt mc mb mo ms mk my mu ma me mr mp mg mw mf ml mq) s.heap → W p l e ({ frames := 1, cells := 0, slots := 0, locals := 21 } : Room) s m args below meth c s.heap [] 0 0 (MQ below (QP (some (.int q))) args s 0 0 (fun _ => False)) (F0 m 2 ls []) := by
  obtain ⟨hx, hb, hml, hown, hts, hr, hlk⟩ := id C
  intro n
  induction n with
  | zero =>
    intro v1 v2 v3 h ls hl hP
    have h : (none : Option (Int32)) = some q := h
    cases h
  | succ n ih =>
    intro v1 v2 v3 h ls hl hP
    have h : X12_stringAt_2b mb  (fun a0 a1 a2 => X12_stringAt_2 mb  n (a0, a1, a2)) v1 v2 v3 = some q := h
    unfold X12_stringAt_2b at h
    refine lv_iload_n hx hb dX12_stringAt_2 rfl (lv_at hl 3 rfl) ?_
    refine lv_iload_n hx hb dX12_stringAt_3 rfl (lv_at hl 2 rfl) ?_
    refine b_icmp_ge (tgt := 21) hx hb dX12_stringAt_4 (by decide) (fun c1 => ?_) (fun c1 => ?_)
    · rw [if_neg c1] at h
      exact bX12_stringAt_21 C hK hN h (lv_sub hl [1, 2, 3] rfl) hP
    · rw [if_pos c1] at h
      refine lv_aload_n hx hb dX12_stringAt_7 rfl (lv_at hl 0 rfl) ?_
      refine lv_iload_n hx hb dX12_stringAt_8 rfl (lv_at hl 3 rfl) ?_
      obtain ⟨q2, h3, h⟩ := bnd h
      refine cPi (run_V (rest := []) C (kX12_byteOf h3) caX12_byteOf w1674 ⟨rfl, rfl, Nat.le_of_ble_eq_true rfl, Nat.le_of_ble_eq_true rfl⟩ hK hN hP (rM0 hK hP) rfl hl.1 rfl (Nat.le_of_ble_eq_true rfl) dX12_stringAt_9 ⟨Nat.zero_le _, Nat.zero_le _⟩) ?_
      refine lv_if_eq (tgt := 21) hx hb dX12_stringAt_12 (by decide) (fun c4 => ?_) (fun c4 => ?_)
      · rw [if_pos c4] at h
        exact bX12_stringAt_21 C hK hN h (lv_sub hl [1, 2, 3] rfl) hP
      · rw [if_neg c4] at h
        refine lv_iinc (v := (v3 + (1 : Int32))) (lv' := [(3, .int (v3 + (1 : Int32))), (0, .ref (ad 0)), (1, .int v1), (2, .int v2)]) hx hb dX12_stringAt_15 hl (k := 3) rfl rfl (by decide) rfl (fun ls hl => ?_)
        refine lv_goto (tgt := 2) hx hb dX12_stringAt_18 (by decide) ?_
        exact ih h (lv_sub hl [1, 2, 3, 0] rfl) hP
def X12_stringAt (mb : Tmb) (v1 : Int32) (v2 : Int32) : Option (Int32) := X12_stringAt_2 mb FU (v1, v2, v1)
set_option maxRecDepth 20000 in
theorem bX12_stringAt_0 (C : Cx p s m args meth c cX12_stringAt 4 (some .int) RX12 (.code yX12_stringAt cX12_stringAt 4 (some .int))) (hK : va_K D vwCl (tysX cy) s) (hN : NW s)  {q : Int32}  {v1 : Int32} {v2 : Int32} (h : X12_stringAt mb v1 v2 = some q) {ls : Array Slot} (hl : lv_has ls 4 [(0, .ref (ad 0)), (1, .int v1), (2, .int v2)]) (hP : va_P D vwCl (GM cy ad mt mc mb mo ms mk my mu ma me mr mp mg mw mf ml mq) s.heap) : W p l e ({ frames := 1, cells := 0, slots := 0, locals := 21 } : Room) s m args below meth c s.heap [] 0 0 (MQ below (QP (some (.int q))) args s 0 0 (fun _ => False)) (F0 m 0 ls []) := by
  obtain ⟨hx, hb, hml, hown, hts, hr, hlk⟩ := id C
  unfold X12_stringAt at h
  refine lv_iload_n hx hb dX12_stringAt_0 rfl (lv_at hl 1 rfl) ?_
  refine lv_istore_n (lv' := [(3, .int v1), (0, .ref (ad 0)), (1, .int v1), (2, .int v2)]) hx hb dX12_stringAt_1 rfl hl (by decide) rfl (fun ls hl => ?_)
  exact bX12_stringAt_2 C hK hN FU h (lv_sub hl [1, 2, 3, 0] rfl) hP
theorem kX12_stringAt  {v1 : Int32} {v2 : Int32} {q : Int32} (h : X12_stringAt mb v1 v2 = some q) : Met l yX12_stringAt (.code yX12_stringAt cX12_stringAt 4 (some .int) :: WA) ({ frames := 1, cells := 0, slots := 0, locals := 21 } : Room) (va_Pc [.ref (ad 0), .int v1, .int v2] (PR D cy (GM cy ad mt mc mb mo ms mk my mu ma me mr mp mg mw mf ml mq))) (QP (some (.int q))) 0 0 (fun _ => False) :=
  met_of (by decide) (Nat.le_of_ble_eq_true rfl) (fun p e s m below meth c ls C hP hK hN hl => bX12_stringAt_0 C hK hN h hl hP)
def X12_string (mc : Tmc) (mb : Tmb)  : Option (Int32 × Tmc) := (if (X12_isRight mc) = 0 then some ((0 : Int32), mc) else ((X12_stringAt mb mc.1 mc.2.1).bind fun q2 => (if q2 = (-1 : Int32) then (letq (X12_fail mc (1 : Int32) mc.1) fun q5 => some ((0 : Int32), q5)) else some (mc.1, ((mc.1 + (q2 + (1 : Int32))), mc.2.1, mc.2.2.1, mc.2.2.2)))))
set_option maxRecDepth 20000 in
theorem bX12_string_0 (C : Cx p s m args meth c cX12_string 3 (some .int) RX12 (.code yX12_string cX12_string 3 (some .int))) (hI : Apart ad 71) (hK : va_K D vwCl (tysX cy) s) (hN : NW s)  {q : Int32 × Tmc}   (h : X12_string mc mb = some q) {ls : Array Slot} (hl : lv_has ls 3 [(0, .ref (ad 0))]) {H : Heap} {locs : List Loc} (hP : va_P D vwCl (GM cy ad mt mc mb mo ms mk my mu ma me mr mp mg mw mf ml mq) H) (hS : va_S (Ac ad 71) s.heap H locs) : W p l e ({ frames := 2, cells := 0, slots := 0, locals := 44 } : Room) s m args below meth c H locs 0 0 (MQ below (QR (some (.int q.1)) D (GM cy ad mt q.2 mb mo ms mk my mu ma me mr mp mg mw mf ml mq) (Ac ad 71)) args s 0 0 (Ac ad 71)) (F0 m 0 ls []) := by
  obtain ⟨hx, hb, hml, hown, hts, hr, hlk⟩ := id C
  unfold X12_string at h
  refine lv_aload_n hx hb dX12_string_0 rfl (lv_at hl 0 rfl) ?_
  refine cPi (run_V (rest := []) C (kX12_isRight rfl) caX12_isRight w1682 ⟨rfl, rfl, Nat.le_of_ble_eq_true rfl, Nat.le_of_ble_eq_true rfl⟩ hK hN hP (rM0 hK hP) rfl hl.1 rfl (Nat.le_of_ble_eq_true rfl) dX12_string_1 ⟨Nat.zero_le _, Nat.zero_le _⟩) ?_
  refine lv_if_ne (tgt := 9) hx hb dX12_string_4 (by decide) (fun c1 => ?_) (fun c1 => ?_)
  · rw [if_neg c1] at h
    refine lv_aload_n hx hb dX12_string_9 rfl (lv_at hl 0 rfl) ?_
    refine gM0_77 (v := mc.1) C hK hP rfl w1444 dX12_string_10 ?_
    refine lv_istore_n (lv' := [(1, .int mc.1), (0, .ref (ad 0))]) hx hb dX12_string_13 rfl hl (by decide) rfl (fun ls hl => ?_)
    refine lv_aload_n hx hb dX12_string_14 rfl (lv_at hl 1 rfl) ?_
    refine lv_aload_n hx hb dX12_string_15 rfl (lv_at hl 1 rfl) ?_
    refine gM0_77 (v := mc.1) C hK hP rfl w1444 dX12_string_16 ?_
    refine lv_aload_n hx hb dX12_string_19 rfl (lv_at hl 1 rfl) ?_
    refine gM0_78 (v := mc.2.1) C hK hP rfl w1445 dX12_string_20 ?_
    obtain ⟨q2, h3, h⟩ := bnd h
    refine cPi (run_V (rest := []) C (kX12_stringAt h3) caX12_stringAt w1696 ⟨rfl, rfl, Nat.le_of_ble_eq_true rfl, Nat.le_of_ble_eq_true rfl⟩ hK hN hP (rM0 hK hP) rfl hl.1 rfl (Nat.le_of_ble_eq_true rfl) dX12_string_23 ⟨Nat.zero_le _, Nat.zero_le _⟩) ?_
    refine lv_istore_n (lv' := [(2, .int q2), (1, .int mc.1), (0, .ref (ad 0))]) hx hb dX12_string_26 rfl hl (by decide) rfl (fun ls hl => ?_)
    refine lv_iload_n hx hb dX12_string_27 rfl (lv_at hl 0 rfl) ?_
    refine lv_iconst (v := (-1 : Int32)) hx hb dX12_string_28 (by decide) ?_
    refine lv_icmp_ne (tgt := 40) hx hb dX12_string_29 (by decide) (fun c4 => ?_) (fun c4 => ?_)
    · rw [if_neg c4] at h
      refine lv_aload_n hx hb dX12_string_40 rfl (lv_at hl 2 rfl) ?_
      refine lv_dup hx hb dX12_string_41 rfl ?_
      refine gM0_77 (v := mc.1) C hK hP rfl w1444 dX12_string_42 ?_
      refine lv_iload_n hx hb dX12_string_45 rfl (lv_at hl 0 rfl) ?_
      refine lv_iconst (v := (1 : Int32)) hx hb dX12_string_46 (by decide) ?_
      refine lv_iadd hx hb dX12_string_47 ?_
      refine lv_iadd hx hb dX12_string_48 ?_
      refine pM0_77 (v := (mc.1 + (q2 + (1 : Int32)))) C hI hK hP hS w1444 dX12_string_49 (fun H locs hP hS => ?_)
      have hP : va_P D vwCl (GM cy ad mt ((mc.1 + (q2 + (1 : Int32))), mc.2.1, mc.2.2.1, mc.2.2.2) mb mo ms mk my mu ma me mr mp mg mw mf ml mq) H := hP
      refine lv_iload_n hx hb dX12_string_52 rfl (lv_at hl 1 rfl) ?_
      obtain rfl := Option.some.inj h
      exact W.iret hx hb hr (fun t ht _ => ⟨rfl, by rw [ht]; exact hP, hS.F ht⟩) hS.2.2 dX12_string_53 hlk
    · rw [if_pos c4] at h
      refine lv_aload_n hx hb dX12_string_32 rfl (lv_at hl 2 rfl) ?_
      refine lv_iconst (v := (1 : Int32)) hx hb dX12_string_33 (by decide) ?_
      refine lv_iload_n hx hb dX12_string_34 rfl (lv_at hl 1 rfl) ?_
      obtain ⟨q5, h6, h⟩ := lets h
      refine cRv (run_V (rest := []) C (kX12_fail hI h6) caX12_fail w1678 ⟨rfl, rfl, Nat.le_of_ble_eq_true rfl, Nat.le_of_ble_eq_true rfl⟩ hK hN hP (rM0 hK hP) rfl hl.1 rfl (Nat.le_of_ble_eq_true rfl) dX12_string_35 ⟨Nat.zero_le _, Nat.zero_le _⟩) hS (fun H locs hP hS => ?_)
      have hP : va_P D vwCl (GM cy ad mt q5 mb mo ms mk my mu ma me mr mp mg mw mf ml mq) H := hP
      refine lv_iconst (v := (0 : Int32)) hx hb dX12_string_38 (by decide) ?_
      obtain rfl := Option.some.inj h
      exact W.iret hx hb hr (fun t ht _ => ⟨rfl, by rw [ht]; exact hP, hS.F ht⟩) hS.2.2 dX12_string_39 hlk
  · rw [if_pos c1] at h
    refine lv_iconst (v := (0 : Int32)) hx hb dX12_string_7 (by decide) ?_
    obtain rfl := Option.some.inj h
    exact W.iret hx hb hr (fun t ht _ => ⟨rfl, by rw [ht]; exact hP, hS.F ht⟩) hS.2.2 dX12_string_8 hlk
theorem kX12_string (hI : Apart ad 71)  {q : Int32 × Tmc} (h : X12_string mc mb = some q) : Met l yX12_string (.code yX12_string cX12_string 3 (some .int) :: WA) ({ frames := 2, cells := 0, slots := 0, locals := 44 } : Room) (va_Pc [.ref (ad 0)] (PR D cy (GM cy ad mt mc mb mo ms mk my mu ma me mr mp mg mw mf ml mq))) (QR (some (.int q.1)) D (GM cy ad mt q.2 mb mo ms mk my mu ma me mr mp mg mw mf ml mq) (Ac ad 71)) 0 0 (Ac ad 71) :=
  met_of (by decide) (Nat.le_of_ble_eq_true rfl) (fun p e s m below meth c ls C hP hK hN hl => bX12_string_0 C hI hK hN h hl hP va_S.rf)
def X12_must (mc : Tmc) (mb : Tmb) (v1 : Int32) (v2 : Int32) : Option (Tmc) := ((X12_number mc mb v1).bind fun q1 => (if (X12_isRight q1.2) = 0 then some q1.2 else (if q1.1 = ((v2).toInt64) then some q1.2 else (letq (X12_fail q1.2 (2 : Int32) mc.1) fun q5 => some q5))))
set_option maxRecDepth 20000 in
theorem bX12_must_0 (C : Cx p s m args meth c cX12_must 6 none RX12 (.code yX12_must cX12_must 6 none)) (hI : Apart ad 71) (hK : va_K D vwCl (tysX cy) s) (hN : NW s)  {q : Tmc}  {v1 : Int32} {v2 : Int32} (h : X12_must mc mb v1 v2 = some q) {ls : Array Slot} (hl : lv_has ls 6 [(0, .ref (ad 0)), (1, .int v1), (2, .int v2)]) {H : Heap} {locs : List Loc} (hP : va_P D vwCl (GM cy ad mt mc mb mo ms mk my mu ma me mr mp mg mw mf ml mq) H) (hS : va_S (Ac ad 71) s.heap H locs) : W p l e ({ frames := 3, cells := 0, slots := 0, locals := 69 } : Room) s m args below meth c H locs 0 0 (MQ below (QR none D (GM cy ad mt q mb mo ms mk my mu ma me mr mp mg mw mf ml mq) (Ac ad 71)) args s 0 0 (Ac ad 71)) (F0 m 0 ls []) := by
  obtain ⟨hx, hb, hml, hown, hts, hr, hlk⟩ := id C
  unfold X12_must at h
  refine lv_aload_n hx hb dX12_must_0 rfl (lv_at hl 0 rfl) ?_
  refine gM0_77 (v := mc.1) C hK hP rfl w1444 dX12_must_1 ?_
  refine lv_istore_n (lv' := [(3, .int mc.1), (0, .ref (ad 0)), (1, .int v1), (2, .int v2)]) hx hb dX12_must_4 rfl hl (by decide) rfl (fun ls hl => ?_)
  refine lv_aload_n hx hb dX12_must_5 rfl (lv_at hl 1 rfl) ?_
  refine lv_iload_n hx hb dX12_must_6 rfl (lv_at hl 2 rfl) ?_
  obtain ⟨q1, h2, h⟩ := bnd h
  refine cRl (run_V (rest := []) C (kX12_number hI h2) caX12_number w1724 ⟨rfl, rfl, Nat.le_of_ble_eq_true rfl, Nat.le_of_ble_eq_true rfl⟩ hK hN hP (rM0 hK hP) rfl hl.1 rfl (Nat.le_of_ble_eq_true rfl) dX12_must_7 ⟨Nat.zero_le _, Nat.zero_le _⟩) hS (fun H locs hP hS => ?_)
  have hP : va_P D vwCl (GM cy ad mt q1.2 mb mo ms mk my mu ma me mr mp mg mw mf ml mq) H := hP
  refine lv_lstore (lv' := [(4, .long q1.1), (3, .int mc.1), (0, .ref (ad 0)), (1, .int v1), (2, .int v2)]) hx hb dX12_must_10 hl (by decide) rfl (fun ls hl => ?_)
  refine lv_aload_n hx hb dX12_must_12 rfl (lv_at hl 2 rfl) ?_
  refine cPi (run_V (rest := []) C (kX12_isRight rfl) caX12_isRight w1682 ⟨rfl, rfl, Nat.le_of_ble_eq_true rfl, Nat.le_of_ble_eq_true rfl⟩ hK hN hP (rM0 hK hP) rfl hl.1 rfl (Nat.le_of_ble_eq_true rfl) dX12_must_13 ⟨Nat.zero_le _, Nat.zero_le _⟩) ?_
  refine lv_if_eq (tgt := 33) hx hb dX12_must_16 (by decide) (fun c3 => ?_) (fun c3 => ?_)
  · rw [if_pos c3] at h
    obtain rfl := Option.some.inj h
    exact W.vret hx hb hr (fun t ht _ => ⟨rfl, by rw [ht]; exact hP, hS.F ht⟩) hS.2.2 dX12_must_33 hlk
  · rw [if_neg c3] at h
    refine lv_lload hx hb dX12_must_19 (lv_at hl 0 rfl) ?_
    refine lv_iload_n hx hb dX12_must_21 rfl (lv_at hl 4 rfl) ?_
    refine lv_i2l (v := ((v2).toInt64)) hx hb dX12_must_22 rfl ?_
    refine lc_eq (tgt := 33) hx hb dX12_must_23 dX12_must_24 (by decide) (fun c4 => ?_) (fun c4 => ?_)
    · rw [if_pos c4] at h
      obtain rfl := Option.some.inj h
      exact W.vret hx hb hr (fun t ht _ => ⟨rfl, by rw [ht]; exact hP, hS.F ht⟩) hS.2.2 dX12_must_33 hlk
    · rw [if_neg c4] at h
      refine lv_aload_n hx hb dX12_must_27 rfl (lv_at hl 2 rfl) ?_
      refine lv_iconst (v := (2 : Int32)) hx hb dX12_must_28 (by decide) ?_
      refine lv_iload_n hx hb dX12_must_29 rfl (lv_at hl 1 rfl) ?_
      obtain ⟨q5, h6, h⟩ := lets h
      refine cRv (run_V (rest := []) C (kX12_fail hI h6) caX12_fail w1678 ⟨rfl, rfl, Nat.le_of_ble_eq_true rfl, Nat.le_of_ble_eq_true rfl⟩ hK hN hP (rM0 hK hP) rfl hl.1 rfl (Nat.le_of_ble_eq_true rfl) dX12_must_30 ⟨Nat.zero_le _, Nat.zero_le _⟩) hS (fun H locs hP hS => ?_)
      have hP : va_P D vwCl (GM cy ad mt q5 mb mo ms mk my mu ma me mr mp mg mw mf ml mq) H := hP
      obtain rfl := Option.some.inj h
      exact W.vret hx hb hr (fun t ht _ => ⟨rfl, by rw [ht]; exact hP, hS.F ht⟩) hS.2.2 dX12_must_33 hlk
theorem kX12_must (hI : Apart ad 71) {v1 : Int32} {v2 : Int32} {q : Tmc} (h : X12_must mc mb v1 v2 = some q) : Met l yX12_must (.code yX12_must cX12_must 6 none :: WA) ({ frames := 3, cells := 0, slots := 0, locals := 69 } : Room) (va_Pc [.ref (ad 0), .int v1, .int v2] (PR D cy (GM cy ad mt mc mb mo ms mk my mu ma me mr mp mg mw mf ml mq))) (QR none D (GM cy ad mt q mb mo ms mk my mu ma me mr mp mg mw mf ml mq) (Ac ad 71)) 0 0 (Ac ad 71) :=
  met_of (by decide) (Nat.le_of_ble_eq_true rfl) (fun p e s m below meth c ls C hP hK hN hl => bX12_must_0 C hI hK hN h hl hP va_S.rf)
def X12_mustLeb (mc : Tmc) (mb : Tmb) (v1 : Int32) : Option (Tmc) := ((X12_uleb mc mb).bind fun q1 => (if (X12_isRight q1.2) = 0 then some q1.2 else (if q1.1 = ((v1).toInt64) then some q1.2 else (letq (X12_fail q1.2 (2 : Int32) mc.1) fun q5 => some q5))))
set_option maxRecDepth 20000 in
theorem bX12_mustLeb_0 (C : Cx p s m args meth c cX12_mustLeb 5 none RX12 (.code yX12_mustLeb cX12_mustLeb 5 none)) (hI : Apart ad 71) (hK : va_K D vwCl (tysX cy) s) (hN : NW s)  {q : Tmc}  {v1 : Int32} (h : X12_mustLeb mc mb v1 = some q) {ls : Array Slot} (hl : lv_has ls 5 [(0, .ref (ad 0)), (1, .int v1)]) {H : Heap} {locs : List Loc} (hP : va_P D vwCl (GM cy ad mt mc mb mo ms mk my mu ma me mr mp mg mw mf ml mq) H) (hS : va_S (Ac ad 71) s.heap H locs) : W p l e ({ frames := 3, cells := 0, slots := 0, locals := 69 } : Room) s m args below meth c H locs 0 0 (MQ below (QR none D (GM cy ad mt q mb mo ms mk my mu ma me mr mp mg mw mf ml mq) (Ac ad 71)) args s 0 0 (Ac ad 71)) (F0 m 0 ls []) := by
  obtain ⟨hx, hb, hml, hown, hts, hr, hlk⟩ := id C
  unfold X12_mustLeb at h
  refine lv_aload_n hx hb dX12_mustLeb_0 rfl (lv_at hl 0 rfl) ?_
  refine gM0_77 (v := mc.1) C hK hP rfl w1444 dX12_mustLeb_1 ?_
  refine lv_istore_n (lv' := [(2, .int mc.1), (0, .ref (ad 0)), (1, .int v1)]) hx hb dX12_mustLeb_4 rfl hl (by decide) rfl (fun ls hl => ?_)
  refine lv_aload_n hx hb dX12_mustLeb_5 rfl (lv_at hl 1 rfl) ?_
  obtain ⟨q1, h2, h⟩ := bnd h
  refine cRl (run_V (rest := []) C (kX12_uleb hI h2) caX12_uleb w1741 ⟨rfl, rfl, Nat.le_of_ble_eq_true rfl, Nat.le_of_ble_eq_true rfl⟩ hK hN hP (rM0 hK hP) rfl hl.1 rfl (Nat.le_of_ble_eq_true rfl) dX12_mustLeb_6 ⟨Nat.zero_le _, Nat.zero_le _⟩) hS (fun H locs hP hS => ?_)
  have hP : va_P D vwCl (GM cy ad mt q1.2 mb mo ms mk my mu ma me mr mp mg mw mf ml mq) H := hP
  refine lv_lstore_n (lv' := [(3, .long q1.1), (2, .int mc.1), (0, .ref (ad 0)), (1, .int v1)]) hx hb dX12_mustLeb_9 rfl hl (by decide) rfl (fun ls hl => ?_)
  refine lv_aload_n hx hb dX12_mustLeb_10 rfl (lv_at hl 2 rfl) ?_
  refine cPi (run_V (rest := []) C (kX12_isRight rfl) caX12_isRight w1682 ⟨rfl, rfl, Nat.le_of_ble_eq_true rfl, Nat.le_of_ble_eq_true rfl⟩ hK hN hP (rM0 hK hP) rfl hl.1 rfl (Nat.le_of_ble_eq_true rfl) dX12_mustLeb_11 ⟨Nat.zero_le _, Nat.zero_le _⟩) ?_
  refine lv_if_eq (tgt := 30) hx hb dX12_mustLeb_14 (by decide) (fun c3 => ?_) (fun c3 => ?_)
  · rw [if_pos c3] at h
    obtain rfl := Option.some.inj h
    exact W.vret hx hb hr (fun t ht _ => ⟨rfl, by rw [ht]; exact hP, hS.F ht⟩) hS.2.2 dX12_mustLeb_30 hlk
  · rw [if_neg c3] at h
    refine lv_lload_n hx hb dX12_mustLeb_17 rfl (lv_at hl 0 rfl) ?_
    refine lv_iload_n hx hb dX12_mustLeb_18 rfl (lv_at hl 3 rfl) ?_
    refine lv_i2l (v := ((v1).toInt64)) hx hb dX12_mustLeb_19 rfl ?_
    refine lc_eq (tgt := 30) hx hb dX12_mustLeb_20 dX12_mustLeb_21 (by decide) (fun c4 => ?_) (fun c4 => ?_)
    · rw [if_pos c4] at h
      obtain rfl := Option.some.inj h
      exact W.vret hx hb hr (fun t ht _ => ⟨rfl, by rw [ht]; exact hP, hS.F ht⟩) hS.2.2 dX12_mustLeb_30 hlk
    · rw [if_neg c4] at h
      refine lv_aload_n hx hb dX12_mustLeb_24 rfl (lv_at hl 2 rfl) ?_
      refine lv_iconst (v := (2 : Int32)) hx hb dX12_mustLeb_25 (by decide) ?_
      refine lv_iload_n hx hb dX12_mustLeb_26 rfl (lv_at hl 1 rfl) ?_
      obtain ⟨q5, h6, h⟩ := lets h
      refine cRv (run_V (rest := []) C (kX12_fail hI h6) caX12_fail w1678 ⟨rfl, rfl, Nat.le_of_ble_eq_true rfl, Nat.le_of_ble_eq_true rfl⟩ hK hN hP (rM0 hK hP) rfl hl.1 rfl (Nat.le_of_ble_eq_true rfl) dX12_mustLeb_27 ⟨Nat.zero_le _, Nat.zero_le _⟩) hS (fun H locs hP hS => ?_)
      have hP : va_P D vwCl (GM cy ad mt q5 mb mo ms mk my mu ma me mr mp mg mw mf ml mq) H := hP
      obtain rfl := Option.some.inj h
      exact W.vret hx hb hr (fun t ht _ => ⟨rfl, by rw [ht]; exact hP, hS.F ht⟩) hS.2.2 dX12_mustLeb_30 hlk
theorem kX12_mustLeb (hI : Apart ad 71) {v1 : Int32} {q : Tmc} (h : X12_mustLeb mc mb v1 = some q) : Met l yX12_mustLeb (.code yX12_mustLeb cX12_mustLeb 5 none :: WA) ({ frames := 3, cells := 0, slots := 0, locals := 69 } : Room) (va_Pc [.ref (ad 0), .int v1] (PR D cy (GM cy ad mt mc mb mo ms mk my mu ma me mr mp mg mw mf ml mq))) (QR none D (GM cy ad mt q mb mo ms mk my mu ma me mr mp mg mw mf ml mq) (Ac ad 71)) 0 0 (Ac ad 71) :=
  met_of (by decide) (Nat.le_of_ble_eq_true rfl) (fun p e s m below meth c ls C hP hK hN hl => bX12_mustLeb_0 C hI hK hN h hl hP va_S.rf)
def X12_isNamed_42 (mb : Tmb) (ms : Tms) (mk : Tmk)   (v1 : Int32) (v2 : Int32) (v3 : Int32) : Option (Int32) := (if inb (v2 + v3) 81 = true then (if (mk.1 ((v2 + v3)).toNatClampNeg) = 0 then (if inb v1 30 = true then ((X12_byteOf mb ((ms.2.2.2.1 (v1).toNatClampNeg) + v3)).bind fun q4 => (if q4 = 0 then some (1 : Int32) else some (0 : Int32))) else none) else some (0 : Int32)) else none)
set_option maxRecDepth 20000 in
theorem bX12_isNamed_42 (C : Cx p s m args meth c cX12_isNamed 4 (some .boolean) RX12 (.code yX12_isNamed cX12_isNamed 4 (some .boolean))) (hK : va_K D vwCl (tysX cy) s) (hN : NW s)  {q : Int32}  {v1 : Int32} {v2 : Int32} {v3 : Int32} (h : X12_isNamed_42 mb ms mk v1 v2 v3 = some q) {ls : Array Slot} (hl : lv_has ls 4 [(0, .ref (ad 0)), (1, .int v1), (2, .int v2), (3, .int v3)]) (hP : va_P D vwCl (GM cy ad mt mc mb mo ms mk my mu ma me mr mp mg mw mf ml mq) s.heap) : W p l e ({ frames := 1, cells := 0, slots := 0, locals := 21 } : Room) s m args below meth c s.heap [] 0 0 (MQ below (QP (some (.int q))) args s 0 0 (fun _ => False)) (F0 m 42 ls []) := by
  obtain ⟨hx, hb, hml, hown, hts, hr, hlk⟩ := id C
  unfold X12_isNamed_42 at h
  refine lv_aload_n hx hb dX12_isNamed_42 rfl (lv_at hl 0 rfl) ?_
  refine gM0_22 C hK hP w1389 dX12_isNamed_43 ?_
  refine lv_iload_n hx hb dX12_isNamed_46 rfl (lv_at hl 2 rfl) ?_
  refine lv_iload_n hx hb dX12_isNamed_47 rfl (lv_at hl 3 rfl) ?_
  refine lv_iadd hx hb dX12_isNamed_48 ?_
  obtain ⟨n1, h⟩ := grd h
  refine aM15 (f := mk.1) C hK hP rfl n1 dX12_isNamed_49 ?_
  refine lv_if_ne (tgt := 72) hx hb dX12_isNamed_50 (by decide) (fun c2 => ?_) (fun c2 => ?_)
  · rw [if_neg c2] at h
    refine lv_iconst (v := (0 : Int32)) hx hb dX12_isNamed_72 (by decide) ?_
    obtain rfl := Option.some.inj h
    exact W.zret (ty := .boolean) hx hb hr (by decide) (fun t ht _ => ⟨rfl, ht⟩) (fun _ h9 => by cases h9) dX12_isNamed_73 hlk
  · rw [if_pos c2] at h
    refine lv_aload_n hx hb dX12_isNamed_53 rfl (lv_at hl 0 rfl) ?_
    refine lv_aload_n hx hb dX12_isNamed_54 rfl (lv_at hl 0 rfl) ?_
    refine gM0_19 C hK hP w1386 dX12_isNamed_55 ?_
    refine lv_iload_n hx hb dX12_isNamed_58 rfl (lv_at hl 1 rfl) ?_
    obtain ⟨n3, h⟩ := grd h
    refine aM12 (f := ms.2.2.2.1) C hK hP rfl n3 dX12_isNamed_59 ?_
    refine lv_iload_n hx hb dX12_isNamed_60 rfl (lv_at hl 3 rfl) ?_
    refine lv_iadd hx hb dX12_isNamed_61 ?_
    obtain ⟨q4, h5, h⟩ := bnd h
    refine cPi (run_V (rest := []) C (kX12_byteOf h5) caX12_byteOf w1674 ⟨rfl, rfl, Nat.le_of_ble_eq_true rfl, Nat.le_of_ble_eq_true rfl⟩ hK hN hP (rM0 hK hP) rfl hl.1 rfl (Nat.le_of_ble_eq_true rfl) dX12_isNamed_62 ⟨Nat.zero_le _, Nat.zero_le _⟩) ?_
    refine lv_if_ne (tgt := 72) hx hb dX12_isNamed_65 (by decide) (fun c6 => ?_) (fun c6 => ?_)
    · rw [if_neg c6] at h
      refine lv_iconst (v := (0 : Int32)) hx hb dX12_isNamed_72 (by decide) ?_
      obtain rfl := Option.some.inj h
      exact W.zret (ty := .boolean) hx hb hr (by decide) (fun t ht _ => ⟨rfl, ht⟩) (fun _ h9 => by cases h9) dX12_isNamed_73 hlk
    · rw [if_pos c6] at h
      refine lv_iconst (v := (1 : Int32)) hx hb dX12_isNamed_68 (by decide) ?_
      refine lv_goto (tgt := 73) hx hb dX12_isNamed_69 (by decide) ?_
      obtain rfl := Option.some.inj h
      exact W.zret (ty := .boolean) hx hb hr (by decide) (fun t ht _ => ⟨rfl, ht⟩) (fun _ h9 => by cases h9) dX12_isNamed_73 hlk
def X12_isNamed_2b (mb : Tmb) (ms : Tms) (mk : Tmk)  (k2 : Int32 → Int32 → Int32 → Option (Int32))  (v1 : Int32) (v2 : Int32) (v3 : Int32) : Option (Int32) := (if inb (v2 + v3) 81 = true then (if (mk.1 ((v2 + v3)).toNatClampNeg) = 0 then X12_isNamed_42 mb ms mk v1 v2 v3 else (if inb v1 30 = true then ((X12_byteOf mb ((ms.2.2.2.1 (v1).toNatClampNeg) + v3)).bind fun q4 => (if inb (v2 + v3) 81 = true then (if q4 = (mk.1 ((v2 + v3)).toNatClampNeg) then k2 v1 v2 (v3 + (1 : Int32)) else X12_isNamed_42 mb ms mk v1 v2 v3) else none)) else none)) else none)
def X12_isNamed_2 (mb : Tmb) (ms : Tms) (mk : Tmk)  (n : Nat) (st : Int32 × Int32 × Int32) : Option (Int32) := lp (fun rec st => X12_isNamed_2b mb ms mk  (fun a0 a1 a2 => rec (a0, a1, a2)) st.1 st.2.1 st.2.2) n st
set_option maxRecDepth 20000 in
theorem bX12_isNamed_2 (C : Cx p s m args meth c cX12_isNamed 4 (some .boolean) RX12 (.code yX12_isNamed cX12_isNamed 4 (some .boolean))) (hK : va_K D vwCl (tysX cy) s) (hN : NW s)  {q : Int32}  : ∀ (n : Nat)  {v1 : Int32} {v2 : Int32} {v3 : Int32}, X12_isNamed_2 mb ms mk  n (v1, v2, v3) = some q → ∀ {ls : Array Slot}, lv_has ls 4 [(0, .ref (ad 0)), (1, .int v1), (2, .int v2), (3, .int v3)] → va_P D vwCl (GM cy ad mt mc mb mo ms mk my mu ma me mr mp mg mw mf ml mq) s.heap → W p l e ({ frames := 1, cells := 0, slots := 0, locals := 21 } : Room) s m args below meth c s.heap [] 0 0 (MQ below (QP (some (.int q))) args s 0 0 (fun _ => False)) (F0 m 2 ls []) := by
  obtain ⟨hx, hb, hml, hown, hts, hr, hlk⟩ := id C
  intro n
  induction n with
  | zero =>
    intro v1 v2 v3 h ls hl hP
    have h : (none : Option (Int32)) = some q := h
    cases h
  | succ n ih =>
    intro v1 v2 v3 h ls hl hP
    have h : X12_isNamed_2b mb ms mk  (fun a0 a1 a2 => X12_isNamed_2 mb ms mk  n (a0, a1, a2)) v1 v2 v3 = some q := h
    unfold X12_isNamed_2b at h
    refine lv_aload_n hx hb dX12_isNamed_2 rfl (lv_at hl 0 rfl) ?_
    refine gM0_22 C hK hP w1389 dX12_isNamed_3 ?_
    refine lv_iload_n hx hb dX12_isNamed_6 rfl (lv_at hl 2 rfl) ?_
    refine lv_iload_n hx hb dX12_isNamed_7 rfl (lv_at hl 3 rfl) ?_
    refine lv_iadd hx hb dX12_isNamed_8 ?_
    obtain ⟨n1, h⟩ := grd h
    refine aM15 (f := mk.1) C hK hP rfl n1 dX12_isNamed_9 ?_
    refine lv_if_eq (tgt := 42) hx hb dX12_isNamed_10 (by decide) (fun c2 => ?_) (fun c2 => ?_)
    · rw [if_pos c2] at h
      exact bX12_isNamed_42 C hK hN h (lv_sub hl [0, 1, 2, 3] rfl) hP
    · rw [if_neg c2] at h
      refine lv_aload_n hx hb dX12_isNamed_13 rfl (lv_at hl 0 rfl) ?_
      refine lv_aload_n hx hb dX12_isNamed_14 rfl (lv_at hl 0 rfl) ?_
      refine gM0_19 C hK hP w1386 dX12_isNamed_15 ?_
      refine lv_iload_n hx hb dX12_isNamed_18 rfl (lv_at hl 1 rfl) ?_
      obtain ⟨n3, h⟩ := grd h
      refine aM12 (f := ms.2.2.2.1) C hK hP rfl n3 dX12_isNamed_19 ?_
      refine lv_iload_n hx hb dX12_isNamed_20 rfl (lv_at hl 3 rfl) ?_
      refine lv_iadd hx hb dX12_isNamed_21 ?_
      obtain ⟨q4, h5, h⟩ := bnd h
      refine cPi (run_V (rest := []) C (kX12_byteOf h5) caX12_byteOf w1674 ⟨rfl, rfl, Nat.le_of_ble_eq_true rfl, Nat.le_of_ble_eq_true rfl⟩ hK hN hP (rM0 hK hP) rfl hl.1 rfl (Nat.le_of_ble_eq_true rfl) dX12_isNamed_22 ⟨Nat.zero_le _, Nat.zero_le _⟩) ?_
      refine lv_aload_n hx hb dX12_isNamed_25 rfl (lv_at hl 0 rfl) ?_
      refine gM0_22 C hK hP w1389 dX12_isNamed_26 ?_
      refine lv_iload_n hx hb dX12_isNamed_29 rfl (lv_at hl 2 rfl) ?_
      refine lv_iload_n hx hb dX12_isNamed_30 rfl (lv_at hl 3 rfl) ?_
      refine lv_iadd hx hb dX12_isNamed_31 ?_
      obtain ⟨n6, h⟩ := grd h
      refine aM15 (f := mk.1) C hK hP rfl n6 dX12_isNamed_32 ?_
      refine lv_icmp_ne (tgt := 42) hx hb dX12_isNamed_33 (by decide) (fun c7 => ?_) (fun c7 => ?_)
      · rw [if_neg c7] at h
        exact bX12_isNamed_42 C hK hN h (lv_sub hl [0, 1, 2, 3] rfl) hP
      · rw [if_pos c7] at h
        refine lv_iinc (v := (v3 + (1 : Int32))) (lv' := [(3, .int (v3 + (1 : Int32))), (0, .ref (ad 0)), (1, .int v1), (2, .int v2)]) hx hb dX12_isNamed_36 hl (k := 3) rfl rfl (by decide) rfl (fun ls hl => ?_)
        refine lv_goto (tgt := 2) hx hb dX12_isNamed_39 (by decide) ?_
        exact ih h (lv_sub hl [1, 2, 3, 0] rfl) hP
def X12_isNamed (mb : Tmb) (ms : Tms) (mk : Tmk) (v1 : Int32) (v2 : Int32) : Option (Int32) := X12_isNamed_2 mb ms mk FU (v1, v2, (0 : Int32))
set_option maxRecDepth 20000 in
theorem bX12_isNamed_0 (C : Cx p s m args meth c cX12_isNamed 4 (some .boolean) RX12 (.code yX12_isNamed cX12_isNamed 4 (some .boolean))) (hK : va_K D vwCl (tysX cy) s) (hN : NW s)  {q : Int32}  {v1 : Int32} {v2 : Int32} (h : X12_isNamed mb ms mk v1 v2 = some q) {ls : Array Slot} (hl : lv_has ls 4 [(0, .ref (ad 0)), (1, .int v1), (2, .int v2)]) (hP : va_P D vwCl (GM cy ad mt mc mb mo ms mk my mu ma me mr mp mg mw mf ml mq) s.heap) : W p l e ({ frames := 1, cells := 0, slots := 0, locals := 21 } : Room) s m args below meth c s.heap [] 0 0 (MQ below (QP (some (.int q))) args s 0 0 (fun _ => False)) (F0 m 0 ls []) := by
  obtain ⟨hx, hb, hml, hown, hts, hr, hlk⟩ := id C
  unfold X12_isNamed at h
  refine lv_iconst (v := (0 : Int32)) hx hb dX12_isNamed_0 (by decide) ?_
  refine lv_istore_n (lv' := [(3, .int (0 : Int32)), (0, .ref (ad 0)), (1, .int v1), (2, .int v2)]) hx hb dX12_isNamed_1 rfl hl (by decide) rfl (fun ls hl => ?_)
  exact bX12_isNamed_2 C hK hN FU h (lv_sub hl [1, 2, 3, 0] rfl) hP
theorem kX12_isNamed  {v1 : Int32} {v2 : Int32} {q : Int32} (h : X12_isNamed mb ms mk v1 v2 = some q) : Met l yX12_isNamed (.code yX12_isNamed cX12_isNamed 4 (some .boolean) :: WA) ({ frames := 1, cells := 0, slots := 0, locals := 21 } : Room) (va_Pc [.ref (ad 0), .int v1, .int v2] (PR D cy (GM cy ad mt mc mb mo ms mk my mu ma me mr mp mg mw mf ml mq))) (QP (some (.int q))) 0 0 (fun _ => False) :=
  met_of (by decide) (Nat.le_of_ble_eq_true rfl) (fun p e s m below meth c ls C hP hK hN hl => bX12_isNamed_0 C hK hN h hl hP)
def X12_section_101 (mb : Tmb)  (mc : Tmc) (ms : Tms) (v2 : Int32) : Option (Tmc × Tms) := (letq (X12_fail mc (1 : Int32) v2) fun q1 => some (q1, ms))
set_option maxRecDepth 20000 in
theorem bX12_section_101 (C : Cx p s m args meth c cX12_section 9 none RX12 (.code yX12_section cX12_section 9 none)) (hI : Apart ad 71) (hK : va_K D vwCl (tysX cy) s) (hN : NW s)  {q : Tmc × Tms}  {v2 : Int32} (h : X12_section_101 mb mc ms v2 = some q) {ls : Array Slot} (hl : lv_has ls 9 [(0, .ref (ad 0)), (2, .int v2)]) {H : Heap} {locs : List Loc} (hP : va_P D vwCl (GM cy ad mt mc mb mo ms mk my mu ma me mr mp mg mw mf ml mq) H) (hS : va_S (Ac ad 71) s.heap H locs) : W p l e ({ frames := 2, cells := 0, slots := 0, locals := 46 } : Room) s m args below meth c H locs 0 0 (MQ below (QR none D (GM cy ad mt q.1 mb mo q.2 mk my mu ma me mr mp mg mw mf ml mq) (Ac ad 71)) args s 0 0 (Ac ad 71)) (F0 m 101 ls []) := by
  obtain ⟨hx, hb, hml, hown, hts, hr, hlk⟩ := id C
  unfold X12_section_101 at h
  refine lv_aload_n hx hb dX12_section_101 rfl (lv_at hl 0 rfl) ?_
  refine lv_iconst (v := (1 : Int32)) hx hb dX12_section_102 (by decide) ?_
  refine lv_iload_n hx hb dX12_section_103 rfl (lv_at hl 1 rfl) ?_
  obtain ⟨q1, h2, h⟩ := lets h
  refine cRv (run_V (rest := []) C (kX12_fail hI h2) caX12_fail w1678 ⟨rfl, rfl, Nat.le_of_ble_eq_true rfl, Nat.le_of_ble_eq_true rfl⟩ hK hN hP (rM0 hK hP) rfl hl.1 rfl (Nat.le_of_ble_eq_true rfl) dX12_section_104 ⟨Nat.zero_le _, Nat.zero_le _⟩) hS (fun H locs hP hS => ?_)
  have hP : va_P D vwCl (GM cy ad mt q1 mb mo ms mk my mu ma me mr mp mg mw mf ml mq) H := hP
  obtain rfl := Option.some.inj h
  exact W.vret hx hb hr (fun t ht _ => ⟨rfl, by rw [ht]; exact hP, hS.F ht⟩) hS.2.2 dX12_section_107 hlk
def X12_section (mc : Tmc) (mb : Tmb) (ms : Tms) (v1 : Int32) (v2 : Int32) : Option (Tmc × Tms) := ((X12_numberAt mb (v2 + (4 : Int32)) (4 : Int32)).bind fun q1 => ((X12_numberAt mb (v2 + (24 : Int32)) (8 : Int32)).bind fun q3 => ((X12_numberAt mb (v2 + (32 : Int32)) (8 : Int32)).bind fun q5 => (if inb v1 30 = true then (if inb v1 30 = true then (if q1 = (0 : Int64) then some (mc, (ms.1, (upd ms.2.1 (v1).toNatClampNeg (0 : Int32)), (upd ms.2.2.1 (v1).toNatClampNeg (0 : Int32)), ms.2.2.2.1, ms.2.2.2.2.1, ms.2.2.2.2.2)) else (if q1 = (8 : Int64) then some (mc, (ms.1, (upd ms.2.1 (v1).toNatClampNeg (0 : Int32)), (upd ms.2.2.1 (v1).toNatClampNeg (0 : Int32)), ms.2.2.2.1, ms.2.2.2.2.1, ms.2.2.2.2.2)) else (if q3 < (0 : Int64) then X12_section_101 mb mc (ms.1, (upd ms.2.1 (v1).toNatClampNeg (0 : Int32)), (upd ms.2.2.1 (v1).toNatClampNeg (0 : Int32)), ms.2.2.2.1, ms.2.2.2.2.1, ms.2.2.2.2.2) v2 else (if q5 < (0 : Int64) then X12_section_101 mb mc (ms.1, (upd ms.2.1 (v1).toNatClampNeg (0 : Int32)), (upd ms.2.2.1 (v1).toNatClampNeg (0 : Int32)), ms.2.2.2.1, ms.2.2.2.2.1, ms.2.2.2.2.2) v2 else (if ((mb.2.2).toInt64) < q3 then X12_section_101 mb mc (ms.1, (upd ms.2.1 (v1).toNatClampNeg (0 : Int32)), (upd ms.2.2.1 (v1).toNatClampNeg (0 : Int32)), ms.2.2.2.1, ms.2.2.2.2.1, ms.2.2.2.2.2) v2 else (if (((mb.2.2).toInt64) - q3) < q5 then X12_section_101 mb mc (ms.1, (upd ms.2.1 (v1).toNatClampNeg (0 : Int32)), (upd ms.2.2.1 (v1).toNatClampNeg (0 : Int32)), ms.2.2.2.1, ms.2.2.2.2.1, ms.2.2.2.2.2) v2 else (if inb v1 30 = true then (if inb v1 30 = true then some (mc, (ms.1, (upd (upd ms.2.1 (v1).toNatClampNeg (0 : Int32)) (v1).toNatClampNeg ((q3).toInt32)), (upd (upd ms.2.2.1 (v1).toNatClampNeg (0 : Int32)) (v1).toNatClampNeg ((q5).toInt32)), ms.2.2.2.1, ms.2.2.2.2.1, ms.2.2.2.2.2)) else none) else none))))))) else none) else none))))
set_option maxRecDepth 20000 in
theorem bX12_section_0 (C : Cx p s m args meth c cX12_section 9 none RX12 (.code yX12_section cX12_section 9 none)) (hI : Apart ad 71) (hK : va_K D vwCl (tysX cy) s) (hN : NW s)  {q : Tmc × Tms}  {v1 : Int32} {v2 : Int32} (h : X12_section mc mb ms v1 v2 = some q) {ls : Array Slot} (hl : lv_has ls 9 [(0, .ref (ad 0)), (1, .int v1), (2, .int v2)]) {H : Heap} {locs : List Loc} (hP : va_P D vwCl (GM cy ad mt mc mb mo ms mk my mu ma me mr mp mg mw mf ml mq) H) (hS : va_S (Ac ad 71) s.heap H locs) : W p l e ({ frames := 2, cells := 0, slots := 0, locals := 46 } : Room) s m args below meth c H locs 0 0 (MQ below (QR none D (GM cy ad mt q.1 mb mo q.2 mk my mu ma me mr mp mg mw mf ml mq) (Ac ad 71)) args s 0 0 (Ac ad 71)) (F0 m 0 ls []) := by
  obtain ⟨hx, hb, hml, hown, hts, hr, hlk⟩ := id C
  unfold X12_section at h
  refine lv_aload_n hx hb dX12_section_0 rfl (lv_at hl 0 rfl) ?_
  refine lv_iload_n hx hb dX12_section_1 rfl (lv_at hl 2 rfl) ?_
  refine lv_iconst (v := (4 : Int32)) hx hb dX12_section_2 (by decide) ?_
  refine lv_iadd hx hb dX12_section_3 ?_
  refine lv_iconst (v := (4 : Int32)) hx hb dX12_section_4 (by decide) ?_
  obtain ⟨q1, h2, h⟩ := bnd h
  refine cPl (run_V (rest := []) C (kX12_numberAt h2) caX12_numberAt w1686 ⟨rfl, rfl, Nat.le_of_ble_eq_true rfl, Nat.le_of_ble_eq_true rfl⟩ hK hN hP (rM0 hK hP) rfl hl.1 rfl (Nat.le_of_ble_eq_true rfl) dX12_section_5 ⟨Nat.zero_le _, Nat.zero_le _⟩) ?_
  refine lv_lstore_n (lv' := [(3, .long q1), (0, .ref (ad 0)), (1, .int v1), (2, .int v2)]) hx hb dX12_section_8 rfl hl (by decide) rfl (fun ls hl => ?_)
  refine lv_aload_n hx hb dX12_section_9 rfl (lv_at hl 1 rfl) ?_
  refine lv_iload_n hx hb dX12_section_10 rfl (lv_at hl 3 rfl) ?_
  refine lv_bipush (v := (24 : Int32)) hx hb dX12_section_11 (by decide) ?_
  refine lv_iadd hx hb dX12_section_13 ?_
  refine lv_bipush (v := (8 : Int32)) hx hb dX12_section_14 (by decide) ?_
  obtain ⟨q3, h4, h⟩ := bnd h
  refine cPl (run_V (rest := []) C (kX12_numberAt h4) caX12_numberAt w1686 ⟨rfl, rfl, Nat.le_of_ble_eq_true rfl, Nat.le_of_ble_eq_true rfl⟩ hK hN hP (rM0 hK hP) rfl hl.1 rfl (Nat.le_of_ble_eq_true rfl) dX12_section_16 ⟨Nat.zero_le _, Nat.zero_le _⟩) ?_
  refine lv_lstore (lv' := [(5, .long q3), (3, .long q1), (0, .ref (ad 0)), (1, .int v1), (2, .int v2)]) hx hb dX12_section_19 hl (by decide) rfl (fun ls hl => ?_)
  refine lv_aload_n hx hb dX12_section_21 rfl (lv_at hl 2 rfl) ?_
  refine lv_iload_n hx hb dX12_section_22 rfl (lv_at hl 4 rfl) ?_
  refine lv_bipush (v := (32 : Int32)) hx hb dX12_section_23 (by decide) ?_
  refine lv_iadd hx hb dX12_section_25 ?_
  refine lv_bipush (v := (8 : Int32)) hx hb dX12_section_26 (by decide) ?_
  obtain ⟨q5, h6, h⟩ := bnd h
  refine cPl (run_V (rest := []) C (kX12_numberAt h6) caX12_numberAt w1686 ⟨rfl, rfl, Nat.le_of_ble_eq_true rfl, Nat.le_of_ble_eq_true rfl⟩ hK hN hP (rM0 hK hP) rfl hl.1 rfl (Nat.le_of_ble_eq_true rfl) dX12_section_28 ⟨Nat.zero_le _, Nat.zero_le _⟩) ?_
  refine lv_lstore (lv' := [(7, .long q5), (5, .long q3), (3, .long q1), (0, .ref (ad 0)), (1, .int v1), (2, .int v2)]) hx hb dX12_section_31 hl (by decide) rfl (fun ls hl => ?_)
  refine lv_aload_n hx hb dX12_section_33 rfl (lv_at hl 3 rfl) ?_
  refine gM0_17 C hK hP w1384 dX12_section_34 ?_
  refine lv_iload_n hx hb dX12_section_37 rfl (lv_at hl 4 rfl) ?_
  refine lv_iconst (v := (0 : Int32)) hx hb dX12_section_38 (by decide) ?_
  obtain ⟨n7, h⟩ := grd h
  refine sM10 (f := ms.2.1) C hI hK hP hS rfl n7 dX12_section_39 (fun H locs hP hS => ?_)
  have hP : va_P D vwCl (GM cy ad mt mc mb mo (ms.1, (upd ms.2.1 (v1).toNatClampNeg (0 : Int32)), ms.2.2.1, ms.2.2.2.1, ms.2.2.2.2.1, ms.2.2.2.2.2) mk my mu ma me mr mp mg mw mf ml mq) H := hP
  refine lv_aload_n hx hb dX12_section_40 rfl (lv_at hl 3 rfl) ?_
  refine gM0_18 C hK hP w1385 dX12_section_41 ?_
  refine lv_iload_n hx hb dX12_section_44 rfl (lv_at hl 4 rfl) ?_
  refine lv_iconst (v := (0 : Int32)) hx hb dX12_section_45 (by decide) ?_
  obtain ⟨n8, h⟩ := grd h
  refine sM11 (f := ms.2.2.1) C hI hK hP hS rfl n8 dX12_section_46 (fun H locs hP hS => ?_)
  have hP : va_P D vwCl (GM cy ad mt mc mb mo (ms.1, (upd ms.2.1 (v1).toNatClampNeg (0 : Int32)), (upd ms.2.2.1 (v1).toNatClampNeg (0 : Int32)), ms.2.2.2.1, ms.2.2.2.2.1, ms.2.2.2.2.2) mk my mu ma me mr mp mg mw mf ml mq) H := hP
  refine lv_lload_n hx hb dX12_section_47 rfl (lv_at hl 2 rfl) ?_
  refine lv_lconst (v := (0 : Int64)) hx hb dX12_section_48 (by decide) ?_
  refine lc_eq (tgt := 61) hx hb dX12_section_49 dX12_section_50 (by decide) (fun c9 => ?_) (fun c9 => ?_)
  · rw [if_pos c9] at h
    obtain rfl := Option.some.inj h
    exact W.vret hx hb hr (fun t ht _ => ⟨rfl, by rw [ht]; exact hP, hS.F ht⟩) hS.2.2 dX12_section_61 hlk
  · rw [if_neg c9] at h
    refine lv_lload_n hx hb dX12_section_53 rfl (lv_at hl 2 rfl) ?_
    refine lv_ldc2 (v := (8 : Int64)) hx hb hown (hts _ (List.mem_cons_of_mem _ w1695)) dX12_section_54 ?_
    refine lc_ne (tgt := 62) hx hb dX12_section_57 dX12_section_58 (by decide) (fun c10 => ?_) (fun c10 => ?_)
    · rw [if_neg c10] at h
      refine lv_lload hx hb dX12_section_62 (lv_at hl 1 rfl) ?_
      refine lv_lconst (v := (0 : Int64)) hx hb dX12_section_64 (by decide) ?_
      refine lc_lt (tgt := 101) hx hb dX12_section_65 dX12_section_66 (by decide) (fun c11 => ?_) (fun c11 => ?_)
      · rw [if_pos c11] at h
        exact bX12_section_101 C hI hK hN h (lv_sub hl [3, 5] rfl) hP hS
      · rw [if_neg c11] at h
        refine lv_lload hx hb dX12_section_69 (lv_at hl 0 rfl) ?_
        refine lv_lconst (v := (0 : Int64)) hx hb dX12_section_71 (by decide) ?_
        refine lc_lt (tgt := 101) hx hb dX12_section_72 dX12_section_73 (by decide) (fun c12 => ?_) (fun c12 => ?_)
        · rw [if_pos c12] at h
          exact bX12_section_101 C hI hK hN h (lv_sub hl [3, 5] rfl) hP hS
        · rw [if_neg c12] at h
          refine lv_lload hx hb dX12_section_76 (lv_at hl 1 rfl) ?_
          refine lv_aload_n hx hb dX12_section_78 rfl (lv_at hl 3 rfl) ?_
          refine gM0_9 (v := mb.2.2) C hK hP rfl w1376 dX12_section_79 ?_
          refine lv_i2l (v := ((mb.2.2).toInt64)) hx hb dX12_section_82 rfl ?_
          refine lc_gt (tgt := 101) hx hb dX12_section_83 dX12_section_84 (by decide) (fun c13 => ?_) (fun c13 => ?_)
          · rw [if_pos c13] at h
            exact bX12_section_101 C hI hK hN h (lv_sub hl [3, 5] rfl) hP hS
          · rw [if_neg c13] at h
            refine lv_lload hx hb dX12_section_87 (lv_at hl 0 rfl) ?_
            refine lv_aload_n hx hb dX12_section_89 rfl (lv_at hl 3 rfl) ?_
            refine gM0_9 (v := mb.2.2) C hK hP rfl w1376 dX12_section_90 ?_
            refine lv_i2l (v := ((mb.2.2).toInt64)) hx hb dX12_section_93 rfl ?_
            refine lv_lload hx hb dX12_section_94 (lv_at hl 1 rfl) ?_
            refine lv_lsub hx hb dX12_section_96 ?_
            refine lc_le (tgt := 108) hx hb dX12_section_97 dX12_section_98 (by decide) (fun c14 => ?_) (fun c14 => ?_)
            · rw [if_neg c14] at h
              refine lv_aload_n hx hb dX12_section_108 rfl (lv_at hl 3 rfl) ?_
              refine gM0_17 C hK hP w1384 dX12_section_109 ?_
              refine lv_iload_n hx hb dX12_section_112 rfl (lv_at hl 4 rfl) ?_
              refine lv_lload hx hb dX12_section_113 (lv_at hl 1 rfl) ?_
              refine lv_l2i (v := ((q3).toInt32)) hx hb dX12_section_115 rfl ?_
              obtain ⟨n15, h⟩ := grd h
              refine sM10 (f := (upd ms.2.1 (v1).toNatClampNeg (0 : Int32))) C hI hK hP hS rfl n15 dX12_section_116 (fun H locs hP hS => ?_)
              have hP : va_P D vwCl (GM cy ad mt mc mb mo (ms.1, (upd (upd ms.2.1 (v1).toNatClampNeg (0 : Int32)) (v1).toNatClampNeg ((q3).toInt32)), (upd ms.2.2.1 (v1).toNatClampNeg (0 : Int32)), ms.2.2.2.1, ms.2.2.2.2.1, ms.2.2.2.2.2) mk my mu ma me mr mp mg mw mf ml mq) H := hP
              refine lv_aload_n hx hb dX12_section_117 rfl (lv_at hl 3 rfl) ?_
              refine gM0_18 C hK hP w1385 dX12_section_118 ?_
              refine lv_iload_n hx hb dX12_section_121 rfl (lv_at hl 4 rfl) ?_
              refine lv_lload hx hb dX12_section_122 (lv_at hl 0 rfl) ?_
              refine lv_l2i (v := ((q5).toInt32)) hx hb dX12_section_124 rfl ?_
              obtain ⟨n16, h⟩ := grd h
              refine sM11 (f := (upd ms.2.2.1 (v1).toNatClampNeg (0 : Int32))) C hI hK hP hS rfl n16 dX12_section_125 (fun H locs hP hS => ?_)
              have hP : va_P D vwCl (GM cy ad mt mc mb mo (ms.1, (upd (upd ms.2.1 (v1).toNatClampNeg (0 : Int32)) (v1).toNatClampNeg ((q3).toInt32)), (upd (upd ms.2.2.1 (v1).toNatClampNeg (0 : Int32)) (v1).toNatClampNeg ((q5).toInt32)), ms.2.2.2.1, ms.2.2.2.2.1, ms.2.2.2.2.2) mk my mu ma me mr mp mg mw mf ml mq) H := hP
              obtain rfl := Option.some.inj h
              exact W.vret hx hb hr (fun t ht _ => ⟨rfl, by rw [ht]; exact hP, hS.F ht⟩) hS.2.2 dX12_section_126 hlk
            · rw [if_pos c14] at h
              exact bX12_section_101 C hI hK hN h (lv_sub hl [3, 5] rfl) hP hS
    · rw [if_pos c10] at h
      obtain rfl := Option.some.inj h
      exact W.vret hx hb hr (fun t ht _ => ⟨rfl, by rw [ht]; exact hP, hS.F ht⟩) hS.2.2 dX12_section_61 hlk
theorem kX12_section (hI : Apart ad 71) {v1 : Int32} {v2 : Int32} {q : Tmc × Tms} (h : X12_section mc mb ms v1 v2 = some q) : Met l yX12_section (.code yX12_section cX12_section 9 none :: WA) ({ frames := 2, cells := 0, slots := 0, locals := 46 } : Room) (va_Pc [.ref (ad 0), .int v1, .int v2] (PR D cy (GM cy ad mt mc mb mo ms mk my mu ma me mr mp mg mw mf ml mq))) (QR none D (GM cy ad mt q.1 mb mo q.2 mk my mu ma me mr mp mg mw mf ml mq) (Ac ad 71)) 0 0 (Ac ad 71) :=
  met_of (by decide) (Nat.le_of_ble_eq_true rfl) (fun p e s m below meth c ls C hP hK hN hl => bX12_section_0 C hI hK hN h hl hP va_S.rf)
def X12_header_36 (mb : Tmb) (mk : Tmk) (k2 : Tmc → Tms → Int32 → Option (Tmc × Tms)) (mc : Tmc) (ms : Tms) (v1 : Int32) : Option (Tmc × Tms) := k2 mc ms (v1 + (1 : Int32))
set_option maxRecDepth 20000 in
theorem bX12_header_36 (C : Cx p s m args meth c cX12_header 9 none RX12 (.code yX12_header cX12_header 9 none)) (hI : Apart ad 71) (hK : va_K D vwCl (tysX cy) s) (hN : NW s) {k2 : Tmc → Tms → Int32 → Option (Tmc × Tms)} {q : Tmc × Tms} (hk2 : ∀ {mc : Tmc} {ms : Tms} {v1 : Int32}, k2 mc ms v1 = some q → ∀ {ls : Array Slot}, lv_has ls 9 [(0, .ref (ad 0)), (1, .int v1)] → ∀ {H : Heap} {locs : List Loc}, va_P D vwCl (GM cy ad mt mc mb mo ms mk my mu ma me mr mp mg mw mf ml mq) H → va_S (Ac ad 71) s.heap H locs → W p l e ({ frames := 3, cells := 0, slots := 0, locals := 74 } : Room) s m args below meth c H locs 0 0 (MQ below (QR none D (GM cy ad mt q.1 mb mo q.2 mk my mu ma me mr mp mg mw mf ml mq) (Ac ad 71)) args s 0 0 (Ac ad 71)) (F0 m 2 ls [])) {v1 : Int32} (h : X12_header_36 mb mk k2 mc ms v1 = some q) {ls : Array Slot} (hl : lv_has ls 9 [(0, .ref (ad 0)), (1, .int v1)]) {H : Heap} {locs : List Loc} (hP : va_P D vwCl (GM cy ad mt mc mb mo ms mk my mu ma me mr mp mg mw mf ml mq) H) (hS : va_S (Ac ad 71) s.heap H locs) : W p l e ({ frames := 3, cells := 0, slots := 0, locals := 74 } : Room) s m args below meth c H locs 0 0 (MQ below (QR none D (GM cy ad mt q.1 mb mo q.2 mk my mu ma me mr mp mg mw mf ml mq) (Ac ad 71)) args s 0 0 (Ac ad 71)) (F0 m 36 ls []) := by
  obtain ⟨hx, hb, hml, hown, hts, hr, hlk⟩ := id C
  unfold X12_header_36 at h
  refine lv_iinc (v := (v1 + (1 : Int32))) (lv' := [(1, .int (v1 + (1 : Int32))), (0, .ref (ad 0))]) hx hb dX12_header_36 hl (k := 1) rfl rfl (by decide) rfl (fun ls hl => ?_)
  refine lv_goto (tgt := 2) hx hb dX12_header_39 (by decide) ?_
  exact hk2 h (lv_sub hl [1, 0] rfl) hP hS
def X12_header_373 (mb : Tmb) (mk : Tmk) (k255 : Tmc → Tms → Int64 → Int32 → Int32 → Int32 → Option (Tmc × Tms)) (mc : Tmc) (ms : Tms) (v1 : Int64) (v3 : Int32) (v4 : Int32) (v5 : Int32) : Option (Tmc × Tms) := k255 mc ms v1 v3 v4 (v5 + (1 : Int32))
set_option maxRecDepth 20000 in
theorem bX12_header_373 (C : Cx p s m args meth c cX12_header 9 none RX12 (.code yX12_header cX12_header 9 none)) (hI : Apart ad 71) (hK : va_K D vwCl (tysX cy) s) (hN : NW s) {k255 : Tmc → Tms → Int64 → Int32 → Int32 → Int32 → Option (Tmc × Tms)} {q : Tmc × Tms} (hk255 : ∀ {mc : Tmc} {ms : Tms} {v1 : Int64} {v3 : Int32} {v4 : Int32} {v5 : Int32}, k255 mc ms v1 v3 v4 v5 = some q → ∀ {ls : Array Slot}, lv_has ls 9 [(0, .ref (ad 0)), (1, .long v1), (3, .int v3), (4, .int v4), (5, .int v5)] → ∀ {H : Heap} {locs : List Loc}, va_P D vwCl (GM cy ad mt mc mb mo ms mk my mu ma me mr mp mg mw mf ml mq) H → va_S (Ac ad 71) s.heap H locs → W p l e ({ frames := 3, cells := 0, slots := 0, locals := 74 } : Room) s m args below meth c H locs 0 0 (MQ below (QR none D (GM cy ad mt q.1 mb mo q.2 mk my mu ma me mr mp mg mw mf ml mq) (Ac ad 71)) args s 0 0 (Ac ad 71)) (F0 m 255 ls [])) {v1 : Int64} {v3 : Int32} {v4 : Int32} {v5 : Int32} (h : X12_header_373 mb mk k255 mc ms v1 v3 v4 v5 = some q) {ls : Array Slot} (hl : lv_has ls 9 [(0, .ref (ad 0)), (1, .long v1), (3, .int v3), (4, .int v4), (5, .int v5)]) {H : Heap} {locs : List Loc} (hP : va_P D vwCl (GM cy ad mt mc mb mo ms mk my mu ma me mr mp mg mw mf ml mq) H) (hS : va_S (Ac ad 71) s.heap H locs) : W p l e ({ frames := 3, cells := 0, slots := 0, locals := 74 } : Room) s m args below meth c H locs 0 0 (MQ below (QR none D (GM cy ad mt q.1 mb mo q.2 mk my mu ma me mr mp mg mw mf ml mq) (Ac ad 71)) args s 0 0 (Ac ad 71)) (F0 m 373 ls []) := by
  obtain ⟨hx, hb, hml, hown, hts, hr, hlk⟩ := id C
  unfold X12_header_373 at h
  refine lv_iinc (v := (v5 + (1 : Int32))) (lv' := [(5, .int (v5 + (1 : Int32))), (0, .ref (ad 0)), (1, .long v1), (3, .int v3), (4, .int v4)]) hx hb dX12_header_373 hl (k := 4) rfl rfl (by decide) rfl (fun ls hl => ?_)
  refine lv_goto (tgt := 255) hx hb dX12_header_376 (by decide) ?_
  exact hk255 h (lv_sub hl [1, 2, 3, 4, 0] rfl) hP hS
def X12_header_478 (mb : Tmb) (mk : Tmk) (k393 : Tmc → Tms → Int32 → Int32 → Int32 → Option (Tmc × Tms)) (k422 : Tmc → Tms → Int32 → Int32 → Int32 → Int32 → Int32 → Option (Tmc × Tms)) (mc : Tmc) (ms : Tms) (v3 : Int32) (v5 : Int32) (v6 : Int32) (v7 : Int32) (v8 : Int32) : Option (Tmc × Tms) := k422 mc ms v3 v5 v6 v7 (v8 + (1 : Int32))
set_option maxRecDepth 20000 in
theorem bX12_header_478 (C : Cx p s m args meth c cX12_header 9 none RX12 (.code yX12_header cX12_header 9 none)) (hI : Apart ad 71) (hK : va_K D vwCl (tysX cy) s) (hN : NW s) {k393 : Tmc → Tms → Int32 → Int32 → Int32 → Option (Tmc × Tms)} {k422 : Tmc → Tms → Int32 → Int32 → Int32 → Int32 → Int32 → Option (Tmc × Tms)} {q : Tmc × Tms} (hk393 : ∀ {mc : Tmc} {ms : Tms} {v3 : Int32} {v5 : Int32} {v6 : Int32}, k393 mc ms v3 v5 v6 = some q → ∀ {ls : Array Slot}, lv_has ls 9 [(0, .ref (ad 0)), (3, .int v3), (5, .int v5), (6, .int v6)] → ∀ {H : Heap} {locs : List Loc}, va_P D vwCl (GM cy ad mt mc mb mo ms mk my mu ma me mr mp mg mw mf ml mq) H → va_S (Ac ad 71) s.heap H locs → W p l e ({ frames := 3, cells := 0, slots := 0, locals := 74 } : Room) s m args below meth c H locs 0 0 (MQ below (QR none D (GM cy ad mt q.1 mb mo q.2 mk my mu ma me mr mp mg mw mf ml mq) (Ac ad 71)) args s 0 0 (Ac ad 71)) (F0 m 393 ls [])) (hk422 : ∀ {mc : Tmc} {ms : Tms} {v3 : Int32} {v5 : Int32} {v6 : Int32} {v7 : Int32} {v8 : Int32}, k422 mc ms v3 v5 v6 v7 v8 = some q → ∀ {ls : Array Slot}, lv_has ls 9 [(0, .ref (ad 0)), (3, .int v3), (5, .int v5), (6, .int v6), (7, .int v7), (8, .int v8)] → ∀ {H : Heap} {locs : List Loc}, va_P D vwCl (GM cy ad mt mc mb mo ms mk my mu ma me mr mp mg mw mf ml mq) H → va_S (Ac ad 71) s.heap H locs → W p l e ({ frames := 3, cells := 0, slots := 0, locals := 74 } : Room) s m args below meth c H locs 0 0 (MQ below (QR none D (GM cy ad mt q.1 mb mo q.2 mk my mu ma me mr mp mg mw mf ml mq) (Ac ad 71)) args s 0 0 (Ac ad 71)) (F0 m 422 ls [])) {v3 : Int32} {v5 : Int32} {v6 : Int32} {v7 : Int32} {v8 : Int32} (h : X12_header_478 mb mk k393 k422 mc ms v3 v5 v6 v7 v8 = some q) {ls : Array Slot} (hl : lv_has ls 9 [(0, .ref (ad 0)), (3, .int v3), (5, .int v5), (6, .int v6), (7, .int v7), (8, .int v8)]) {H : Heap} {locs : List Loc} (hP : va_P D vwCl (GM cy ad mt mc mb mo ms mk my mu ma me mr mp mg mw mf ml mq) H) (hS : va_S (Ac ad 71) s.heap H locs) : W p l e ({ frames := 3, cells := 0, slots := 0, locals := 74 } : Room) s m args below meth c H locs 0 0 (MQ below (QR none D (GM cy ad mt q.1 mb mo q.2 mk my mu ma me mr mp mg mw mf ml mq) (Ac ad 71)) args s 0 0 (Ac ad 71)) (F0 m 478 ls []) := by
  obtain ⟨hx, hb, hml, hown, hts, hr, hlk⟩ := id C
  unfold X12_header_478 at h
  refine lv_iinc (v := (v8 + (1 : Int32))) (lv' := [(8, .int (v8 + (1 : Int32))), (0, .ref (ad 0)), (3, .int v3), (5, .int v5), (6, .int v6), (7, .int v7)]) hx hb dX12_header_478 hl (k := 5) rfl rfl (by decide) rfl (fun ls hl => ?_)
  refine lv_goto (tgt := 422) hx hb dX12_header_481 (by decide) ?_
  exact hk422 h (lv_sub hl [1, 2, 3, 4, 5, 0] rfl) hP hS
def X12_header_484b (mb : Tmb) (mk : Tmk) (k393 : Tmc → Tms → Int32 → Int32 → Int32 → Option (Tmc × Tms)) (k484 : Tmc → Tms → Int32 → Int32 → Int32 → Option (Tmc × Tms)) (mc : Tmc) (ms : Tms) (v3 : Int32) (v5 : Int32) (v6 : Int32) : Option (Tmc × Tms) := (if inb v5 81 = true then (if (mk.1 (v5).toNatClampNeg) = 0 then k393 mc ms v3 (v5 + (1 : Int32)) (v6 + (1 : Int32)) else k484 mc ms v3 (v5 + (1 : Int32)) v6) else none)
def X12_header_484 (mb : Tmb) (mk : Tmk) (k393 : Tmc → Tms → Int32 → Int32 → Int32 → Option (Tmc × Tms)) (n : Nat) (st : Tmc × Tms × Int32 × Int32 × Int32) : Option (Tmc × Tms) := lp (fun rec st => X12_header_484b mb mk k393 (fun a0 a1 a2 a3 a4 => rec (a0, a1, a2, a3, a4)) st.1 st.2.1 st.2.2.1 st.2.2.2.1 st.2.2.2.2) n st
set_option maxRecDepth 20000 in
theorem bX12_header_484 (C : Cx p s m args meth c cX12_header 9 none RX12 (.code yX12_header cX12_header 9 none)) (hI : Apart ad 71) (hK : va_K D vwCl (tysX cy) s) (hN : NW s) {k393 : Tmc → Tms → Int32 → Int32 → Int32 → Option (Tmc × Tms)} {q : Tmc × Tms} (hk393 : ∀ {mc : Tmc} {ms : Tms} {v3 : Int32} {v5 : Int32} {v6 : Int32}, k393 mc ms v3 v5 v6 = some q → ∀ {ls : Array Slot}, lv_has ls 9 [(0, .ref (ad 0)), (3, .int v3), (5, .int v5), (6, .int v6)] → ∀ {H : Heap} {locs : List Loc}, va_P D vwCl (GM cy ad mt mc mb mo ms mk my mu ma me mr mp mg mw mf ml mq) H → va_S (Ac ad 71) s.heap H locs → W p l e ({ frames := 3, cells := 0, slots := 0, locals := 74 } : Room) s m args below meth c H locs 0 0 (MQ below (QR none D (GM cy ad mt q.1 mb mo q.2 mk my mu ma me mr mp mg mw mf ml mq) (Ac ad 71)) args s 0 0 (Ac ad 71)) (F0 m 393 ls [])) : ∀ (n : Nat) {mc : Tmc} {ms : Tms} {v3 : Int32} {v5 : Int32} {v6 : Int32}, X12_header_484 mb mk k393 n (mc, ms, v3, v5, v6) = some q → ∀ {ls : Array Slot}, lv_has ls 9 [(0, .ref (ad 0)), (3, .int v3), (5, .int v5), (6, .int v6)] → ∀ {H : Heap} {locs : List Loc}, va_P D vwCl (GM cy ad mt mc mb mo ms mk my mu ma me mr mp mg mw mf ml mq) H → va_S (Ac ad 71) s.heap H locs → W p l e ({ frames := 3, cells := 0, slots := 0, locals := 74 } : Room) s m args below meth c H locs 0 0 (MQ below (QR none D (GM cy ad mt q.1 mb mo q.2 mk my mu ma me mr mp mg mw mf ml mq) (Ac ad 71)) args s 0 0 (Ac ad 71)) (F0 m 484 ls []) := by
  obtain ⟨hx, hb, hml, hown, hts, hr, hlk⟩ := id C
  intro n
  induction n with
  | zero =>
    intro mc ms v3 v5 v6 h ls hl H locs hP hS
    have h : (none : Option (Tmc × Tms)) = some q := h
    cases h
  | succ n ih =>
    intro mc ms v3 v5 v6 h ls hl H locs hP hS
    have h : X12_header_484b mb mk k393 (fun a0 a1 a2 a3 a4 => X12_header_484 mb mk k393 n (a0, a1, a2, a3, a4)) mc ms v3 v5 v6 = some q := h
    unfold X12_header_484b at h
    refine lv_aload_n hx hb dX12_header_484 rfl (lv_at hl 0 rfl) ?_
    refine gM0_22 C hK hP w1389 dX12_header_485 ?_
    refine lv_iload hx hb dX12_header_488 (lv_at hl 2 rfl) ?_
    obtain ⟨n1, h⟩ := grd h
    refine aM15 (f := mk.1) C hK hP rfl n1 dX12_header_490 ?_
    refine lv_if_eq (tgt := 500) hx hb dX12_header_491 (by decide) (fun c2 => ?_) (fun c2 => ?_)
    · rw [if_pos c2] at h
      refine lv_iinc (v := (v5 + (1 : Int32))) (lv' := [(5, .int (v5 + (1 : Int32))), (0, .ref (ad 0)), (3, .int v3), (6, .int v6)]) hx hb dX12_header_500 hl (k := 2) rfl rfl (by decide) rfl (fun ls hl => ?_)
      refine lv_iinc (v := (v6 + (1 : Int32))) (lv' := [(6, .int (v6 + (1 : Int32))), (5, .int (v5 + (1 : Int32))), (0, .ref (ad 0)), (3, .int v3)]) hx hb dX12_header_503 hl (k := 3) rfl rfl (by decide) rfl (fun ls hl => ?_)
      refine lv_goto (tgt := 393) hx hb dX12_header_506 (by decide) ?_
      exact hk393 h (lv_sub hl [2, 3, 1, 0] rfl) hP hS
    · rw [if_neg c2] at h
      refine lv_iinc (v := (v5 + (1 : Int32))) (lv' := [(5, .int (v5 + (1 : Int32))), (0, .ref (ad 0)), (3, .int v3), (6, .int v6)]) hx hb dX12_header_494 hl (k := 2) rfl rfl (by decide) rfl (fun ls hl => ?_)
      refine lv_goto (tgt := 484) hx hb dX12_header_497 (by decide) ?_
      exact ih h (lv_sub hl [1, 2, 0, 3] rfl) hP hS
def X12_header_422b (mb : Tmb) (mk : Tmk) (k393 : Tmc → Tms → Int32 → Int32 → Int32 → Option (Tmc × Tms)) (k422 : Tmc → Tms → Int32 → Int32 → Int32 → Int32 → Int32 → Option (Tmc × Tms)) (mc : Tmc) (ms : Tms) (v3 : Int32) (v5 : Int32) (v6 : Int32) (v7 : Int32) (v8 : Int32) : Option (Tmc × Tms) := (if v8 < v3 then (if v7 = 0 then ((X12_isNamed mb ms mk v8 v5).bind fun q3 => (if q3 = 0 then X12_header_478 mb mk k393 k422 mc ms v3 v5 v6 v7 v8 else (if inb v8 30 = true then (if inb v6 7 = true then (if inb v8 30 = true then (if inb v6 7 = true then X12_header_478 mb mk k393 k422 mc (ms.1, ms.2.1, ms.2.2.1, ms.2.2.2.1, (upd ms.2.2.2.2.1 (v6).toNatClampNeg (ms.2.1 (v8).toNatClampNeg)), (upd ms.2.2.2.2.2 (v6).toNatClampNeg (ms.2.2.1 (v8).toNatClampNeg))) v3 v5 v6 (1 : Int32) v8 else none) else none) else none) else none))) else X12_header_484 mb mk k393 FU (mc, ms, v3, v5, v6)) else X12_header_484 mb mk k393 FU (mc, ms, v3, v5, v6))
def X12_header_422 (mb : Tmb) (mk : Tmk) (k393 : Tmc → Tms → Int32 → Int32 → Int32 → Option (Tmc × Tms)) (n : Nat) (st : Tmc × Tms × Int32 × Int32 × Int32 × Int32 × Int32) : Option (Tmc × Tms) := lp (fun rec st => X12_header_422b mb mk k393 (fun a0 a1 a2 a3 a4 a5 a6 => rec (a0, a1, a2, a3, a4, a5, a6)) st.1 st.2.1 st.2.2.1 st.2.2.2.1 st.2.2.2.2.1 st.2.2.2.2.2.1 st.2.2.2.2.2.2) n st
set_option maxRecDepth 20000 in
theorem bX12_header_422 (C : Cx p s m args meth c cX12_header 9 none RX12 (.code yX12_header cX12_header 9 none)) (hI : Apart ad 71) (hK : va_K D vwCl (tysX cy) s) (hN : NW s) {k393 : Tmc → Tms → Int32 → Int32 → Int32 → Option (Tmc × Tms)} {q : Tmc × Tms} (hk393 : ∀ {mc : Tmc} {ms : Tms} {v3 : Int32} {v5 : Int32} {v6 : Int32}, k393 mc ms v3 v5 v6 = some q → ∀ {ls : Array Slot}, lv_has ls 9 [(0, .ref (ad 0)), (3, .int v3), (5, .int v5), (6, .int v6)] → ∀ {H : Heap} {locs : List Loc}, va_P D vwCl (GM cy ad mt mc mb mo ms mk my mu ma me mr mp mg mw mf ml mq) H → va_S (Ac ad 71) s.heap H locs → W p l e ({ frames := 3, cells := 0, slots := 0, locals := 74 } : Room) s m args below meth c H locs 0 0 (MQ below (QR none D (GM cy ad mt q.1 mb mo q.2 mk my mu ma me mr mp mg mw mf ml mq) (Ac ad 71)) args s 0 0 (Ac ad 71)) (F0 m 393 ls [])) : ∀ (n : Nat) {mc : Tmc} {ms : Tms} {v3 : Int32} {v5 : Int32} {v6 : Int32} {v7 : Int32} {v8 : Int32}, X12_header_422 mb mk k393 n (mc, ms, v3, v5, v6, v7, v8) = some q → ∀ {ls : Array Slot}, lv_has ls 9 [(0, .ref (ad 0)), (3, .int v3), (5, .int v5), (6, .int v6), (7, .int v7), (8, .int v8)] → ∀ {H : Heap} {locs : List Loc}, va_P D vwCl (GM cy ad mt mc mb mo ms mk my mu ma me mr mp mg mw mf ml mq) H → va_S (Ac ad 71) s.heap H locs → W p l e ({ frames := 3, cells := 0, slots := 0, locals := 74 } : Room) s m args below meth c H locs 0 0 (MQ below (QR none D (GM cy ad mt q.1 mb mo q.2 mk my mu ma me mr mp mg mw mf ml mq) (Ac ad 71)) args s 0 0 (Ac ad 71)) (F0 m 422 ls []) := by
  obtain ⟨hx, hb, hml, hown, hts, hr, hlk⟩ := id C
  intro n
  induction n with
  | zero =>
    intro mc ms v3 v5 v6 v7 v8 h ls hl H locs hP hS
    have h : (none : Option (Tmc × Tms)) = some q := h
    cases h
  | succ n ih =>
    intro mc ms v3 v5 v6 v7 v8 h ls hl H locs hP hS
    have h : X12_header_422b mb mk k393 (fun a0 a1 a2 a3 a4 a5 a6 => X12_header_422 mb mk k393 n (a0, a1, a2, a3, a4, a5, a6)) mc ms v3 v5 v6 v7 v8 = some q := h
    unfold X12_header_422b at h
    refine lv_iload hx hb dX12_header_422 (lv_at hl 5 rfl) ?_
    refine lv_iload_n hx hb dX12_header_424 rfl (lv_at hl 1 rfl) ?_
    refine b_icmp_ge (tgt := 484) hx hb dX12_header_425 (by decide) (fun c1 => ?_) (fun c1 => ?_)
    · rw [if_neg c1] at h
      exact bX12_header_484 C hI hK hN @hk393 FU h (lv_sub hl [0, 1, 2, 3] rfl) hP hS
    · rw [if_pos c1] at h
      refine lv_iload hx hb dX12_header_428 (lv_at hl 4 rfl) ?_
      refine lv_if_ne (tgt := 484) hx hb dX12_header_430 (by decide) (fun c2 => ?_) (fun c2 => ?_)
      · rw [if_neg c2] at h
        exact bX12_header_484 C hI hK hN @hk393 FU h (lv_sub hl [0, 1, 2, 3] rfl) hP hS
      · rw [if_pos c2] at h
        refine lv_aload_n hx hb dX12_header_433 rfl (lv_at hl 0 rfl) ?_
        refine lv_iload hx hb dX12_header_434 (lv_at hl 5 rfl) ?_
        refine lv_iload hx hb dX12_header_436 (lv_at hl 2 rfl) ?_
        obtain ⟨q3, h4, h⟩ := bnd h
        refine cPi (run_V (rest := []) C (kX12_isNamed h4) caX12_isNamed w1700 ⟨rfl, rfl, Nat.le_of_ble_eq_true rfl, Nat.le_of_ble_eq_true rfl⟩ hK hN hP (rM0 hK hP) rfl hl.1 rfl (Nat.le_of_ble_eq_true rfl) dX12_header_438 ⟨Nat.zero_le _, Nat.zero_le _⟩) ?_
        refine lv_if_ne (tgt := 447) hx hb dX12_header_441 (by decide) (fun c5 => ?_) (fun c5 => ?_)
        · rw [if_neg c5] at h
          refine lv_iconst (v := (1 : Int32)) hx hb dX12_header_447 (by decide) ?_
          refine lv_istore (lv' := [(7, .int (1 : Int32)), (0, .ref (ad 0)), (3, .int v3), (5, .int v5), (6, .int v6), (8, .int v8)]) hx hb dX12_header_448 hl (by decide) rfl (fun ls hl => ?_)
          refine lv_aload_n hx hb dX12_header_450 rfl (lv_at hl 1 rfl) ?_
          refine gM0_20 C hK hP w1387 dX12_header_451 ?_
          refine lv_iload hx hb dX12_header_454 (lv_at hl 4 rfl) ?_
          refine lv_aload_n hx hb dX12_header_456 rfl (lv_at hl 1 rfl) ?_
          refine gM0_17 C hK hP w1384 dX12_header_457 ?_
          refine lv_iload hx hb dX12_header_460 (lv_at hl 5 rfl) ?_
          obtain ⟨n6, h⟩ := grd h
          refine aM10 (f := ms.2.1) C hK hP rfl n6 dX12_header_462 ?_
          obtain ⟨n7, h⟩ := grd h
          refine sM13 (f := ms.2.2.2.2.1) C hI hK hP hS rfl n7 dX12_header_463 (fun H locs hP hS => ?_)
          have hP : va_P D vwCl (GM cy ad mt mc mb mo (ms.1, ms.2.1, ms.2.2.1, ms.2.2.2.1, (upd ms.2.2.2.2.1 (v6).toNatClampNeg (ms.2.1 (v8).toNatClampNeg)), ms.2.2.2.2.2) mk my mu ma me mr mp mg mw mf ml mq) H := hP
          refine lv_aload_n hx hb dX12_header_464 rfl (lv_at hl 1 rfl) ?_
          refine gM0_21 C hK hP w1388 dX12_header_465 ?_
          refine lv_iload hx hb dX12_header_468 (lv_at hl 4 rfl) ?_
          refine lv_aload_n hx hb dX12_header_470 rfl (lv_at hl 1 rfl) ?_
          refine gM0_18 C hK hP w1385 dX12_header_471 ?_
          refine lv_iload hx hb dX12_header_474 (lv_at hl 5 rfl) ?_
          obtain ⟨n8, h⟩ := grd h
          refine aM11 (f := ms.2.2.1) C hK hP rfl n8 dX12_header_476 ?_
          obtain ⟨n9, h⟩ := grd h
          refine sM14 (f := ms.2.2.2.2.2) C hI hK hP hS rfl n9 dX12_header_477 (fun H locs hP hS => ?_)
          have hP : va_P D vwCl (GM cy ad mt mc mb mo (ms.1, ms.2.1, ms.2.2.1, ms.2.2.2.1, (upd ms.2.2.2.2.1 (v6).toNatClampNeg (ms.2.1 (v8).toNatClampNeg)), (upd ms.2.2.2.2.2 (v6).toNatClampNeg (ms.2.2.1 (v8).toNatClampNeg))) mk my mu ma me mr mp mg mw mf ml mq) H := hP
          exact bX12_header_478 C hI hK hN @hk393 @ih h (lv_sub hl [1, 2, 3, 4, 0, 5] rfl) hP hS
        · rw [if_pos c5] at h
          refine lv_goto (tgt := 478) hx hb dX12_header_444 (by decide) ?_
          exact bX12_header_478 C hI hK hN @hk393 @ih h (lv_sub hl [0, 1, 2, 3, 4, 5] rfl) hP hS
def X12_header_393b (mb : Tmb) (mk : Tmk)  (k393 : Tmc → Tms → Int32 → Int32 → Int32 → Option (Tmc × Tms)) (mc : Tmc) (ms : Tms) (v3 : Int32) (v5 : Int32) (v6 : Int32) : Option (Tmc × Tms) := (if v6 < (7 : Int32) then (if inb v6 7 = true then (if inb v6 7 = true then X12_header_422 mb mk k393 FU (mc, (ms.1, ms.2.1, ms.2.2.1, ms.2.2.2.1, (upd ms.2.2.2.2.1 (v6).toNatClampNeg (0 : Int32)), (upd ms.2.2.2.2.2 (v6).toNatClampNeg (0 : Int32))), v3, v5, v6, (0 : Int32), (0 : Int32)) else none) else none) else some (mc, ms))
def X12_header_393 (mb : Tmb) (mk : Tmk)  (n : Nat) (st : Tmc × Tms × Int32 × Int32 × Int32) : Option (Tmc × Tms) := lp (fun rec st => X12_header_393b mb mk  (fun a0 a1 a2 a3 a4 => rec (a0, a1, a2, a3, a4)) st.1 st.2.1 st.2.2.1 st.2.2.2.1 st.2.2.2.2) n st
set_option maxRecDepth 20000 in
theorem bX12_header_393 (C : Cx p s m args meth c cX12_header 9 none RX12 (.code yX12_header cX12_header 9 none)) (hI : Apart ad 71) (hK : va_K D vwCl (tysX cy) s) (hN : NW s)  {q : Tmc × Tms}  : ∀ (n : Nat) {mc : Tmc} {ms : Tms} {v3 : Int32} {v5 : Int32} {v6 : Int32}, X12_header_393 mb mk  n (mc, ms, v3, v5, v6) = some q → ∀ {ls : Array Slot}, lv_has ls 9 [(0, .ref (ad 0)), (3, .int v3), (5, .int v5), (6, .int v6)] → ∀ {H : Heap} {locs : List Loc}, va_P D vwCl (GM cy ad mt mc mb mo ms mk my mu ma me mr mp mg mw mf ml mq) H → va_S (Ac ad 71) s.heap H locs → W p l e ({ frames := 3, cells := 0, slots := 0, locals := 74 } : Room) s m args below meth c H locs 0 0 (MQ below (QR none D (GM cy ad mt q.1 mb mo q.2 mk my mu ma me mr mp mg mw mf ml mq) (Ac ad 71)) args s 0 0 (Ac ad 71)) (F0 m 393 ls []) := by
  obtain ⟨hx, hb, hml, hown, hts, hr, hlk⟩ := id C
  intro n
  induction n with
  | zero =>
    intro mc ms v3 v5 v6 h ls hl H locs hP hS
    have h : (none : Option (Tmc × Tms)) = some q := h
    cases h
  | succ n ih =>
    intro mc ms v3 v5 v6 h ls hl H locs hP hS
    have h : X12_header_393b mb mk  (fun a0 a1 a2 a3 a4 => X12_header_393 mb mk  n (a0, a1, a2, a3, a4)) mc ms v3 v5 v6 = some q := h
    unfold X12_header_393b at h
    refine lv_iload hx hb dX12_header_393 (lv_at hl 3 rfl) ?_
    refine lv_bipush (v := (7 : Int32)) hx hb dX12_header_395 (by decide) ?_
    refine b_icmp_ge (tgt := 509) hx hb dX12_header_397 (by decide) (fun c1 => ?_) (fun c1 => ?_)
    · rw [if_neg c1] at h
      obtain rfl := Option.some.inj h
      exact W.vret hx hb hr (fun t ht _ => ⟨rfl, by rw [ht]; exact hP, hS.F ht⟩) hS.2.2 dX12_header_509 hlk
    · rw [if_pos c1] at h
      refine lv_aload_n hx hb dX12_header_400 rfl (lv_at hl 0 rfl) ?_
      refine gM0_20 C hK hP w1387 dX12_header_401 ?_
      refine lv_iload hx hb dX12_header_404 (lv_at hl 3 rfl) ?_
      refine lv_iconst (v := (0 : Int32)) hx hb dX12_header_406 (by decide) ?_
      obtain ⟨n2, h⟩ := grd h
      refine sM13 (f := ms.2.2.2.2.1) C hI hK hP hS rfl n2 dX12_header_407 (fun H locs hP hS => ?_)
      have hP : va_P D vwCl (GM cy ad mt mc mb mo (ms.1, ms.2.1, ms.2.2.1, ms.2.2.2.1, (upd ms.2.2.2.2.1 (v6).toNatClampNeg (0 : Int32)), ms.2.2.2.2.2) mk my mu ma me mr mp mg mw mf ml mq) H := hP
      refine lv_aload_n hx hb dX12_header_408 rfl (lv_at hl 0 rfl) ?_
      refine gM0_21 C hK hP w1388 dX12_header_409 ?_
      refine lv_iload hx hb dX12_header_412 (lv_at hl 3 rfl) ?_
      refine lv_iconst (v := (0 : Int32)) hx hb dX12_header_414 (by decide) ?_
      obtain ⟨n3, h⟩ := grd h
      refine sM14 (f := ms.2.2.2.2.2) C hI hK hP hS rfl n3 dX12_header_415 (fun H locs hP hS => ?_)
      have hP : va_P D vwCl (GM cy ad mt mc mb mo (ms.1, ms.2.1, ms.2.2.1, ms.2.2.2.1, (upd ms.2.2.2.2.1 (v6).toNatClampNeg (0 : Int32)), (upd ms.2.2.2.2.2 (v6).toNatClampNeg (0 : Int32))) mk my mu ma me mr mp mg mw mf ml mq) H := hP
      refine lv_iconst (v := (0 : Int32)) hx hb dX12_header_416 (by decide) ?_
      refine lv_istore (lv' := [(7, .int (0 : Int32)), (0, .ref (ad 0)), (3, .int v3), (5, .int v5), (6, .int v6)]) hx hb dX12_header_417 hl (by decide) rfl (fun ls hl => ?_)
      refine lv_iconst (v := (0 : Int32)) hx hb dX12_header_419 (by decide) ?_
      refine lv_istore (lv' := [(8, .int (0 : Int32)), (7, .int (0 : Int32)), (0, .ref (ad 0)), (3, .int v3), (5, .int v5), (6, .int v6)]) hx hb dX12_header_420 hl (by decide) rfl (fun ls hl => ?_)
      exact bX12_header_422 C hI hK hN @ih FU h (lv_sub hl [2, 3, 4, 5, 1, 0] rfl) hP hS
def X12_header_379 (mb : Tmb) (mk : Tmk)  (mc : Tmc) (ms : Tms) (v3 : Int32) : Option (Tmc × Tms) := (if (X12_isRight mc) = 0 then some (mc, ms) else X12_header_393 mb mk FU (mc, ms, v3, (0 : Int32), (0 : Int32)))
set_option maxRecDepth 20000 in
theorem bX12_header_379 (C : Cx p s m args meth c cX12_header 9 none RX12 (.code yX12_header cX12_header 9 none)) (hI : Apart ad 71) (hK : va_K D vwCl (tysX cy) s) (hN : NW s)  {q : Tmc × Tms}  {v3 : Int32} (h : X12_header_379 mb mk mc ms v3 = some q) {ls : Array Slot} (hl : lv_has ls 9 [(0, .ref (ad 0)), (3, .int v3)]) {H : Heap} {locs : List Loc} (hP : va_P D vwCl (GM cy ad mt mc mb mo ms mk my mu ma me mr mp mg mw mf ml mq) H) (hS : va_S (Ac ad 71) s.heap H locs) : W p l e ({ frames := 3, cells := 0, slots := 0, locals := 74 } : Room) s m args below meth c H locs 0 0 (MQ below (QR none D (GM cy ad mt q.1 mb mo q.2 mk my mu ma me mr mp mg mw mf ml mq) (Ac ad 71)) args s 0 0 (Ac ad 71)) (F0 m 379 ls []) := by
  obtain ⟨hx, hb, hml, hown, hts, hr, hlk⟩ := id C
  unfold X12_header_379 at h
  refine lv_aload_n hx hb dX12_header_379 rfl (lv_at hl 0 rfl) ?_
  refine cPi (run_V (rest := []) C (kX12_isRight rfl) caX12_isRight w1682 ⟨rfl, rfl, Nat.le_of_ble_eq_true rfl, Nat.le_of_ble_eq_true rfl⟩ hK hN hP (rM0 hK hP) rfl hl.1 rfl (Nat.le_of_ble_eq_true rfl) dX12_header_380 ⟨Nat.zero_le _, Nat.zero_le _⟩) ?_
  refine lv_if_ne (tgt := 387) hx hb dX12_header_383 (by decide) (fun c1 => ?_) (fun c1 => ?_)
  · rw [if_neg c1] at h
    refine lv_iconst (v := (0 : Int32)) hx hb dX12_header_387 (by decide) ?_
    refine lv_istore (lv' := [(5, .int (0 : Int32)), (0, .ref (ad 0)), (3, .int v3)]) hx hb dX12_header_388 hl (by decide) rfl (fun ls hl => ?_)
    refine lv_iconst (v := (0 : Int32)) hx hb dX12_header_390 (by decide) ?_
    refine lv_istore (lv' := [(6, .int (0 : Int32)), (5, .int (0 : Int32)), (0, .ref (ad 0)), (3, .int v3)]) hx hb dX12_header_391 hl (by decide) rfl (fun ls hl => ?_)
    exact bX12_header_393 C hI hK hN FU h (lv_sub hl [2, 3, 1, 0] rfl) hP hS
  · rw [if_pos c1] at h
    obtain rfl := Option.some.inj h
    exact W.vret hx hb hr (fun t ht _ => ⟨rfl, by rw [ht]; exact hP, hS.F ht⟩) hS.2.2 dX12_header_386 hlk
def X12_header_255b (mb : Tmb) (mk : Tmk)  (k255 : Tmc → Tms → Int64 → Int32 → Int32 → Int32 → Option (Tmc × Tms)) (mc : Tmc) (ms : Tms) (v1 : Int64) (v3 : Int32) (v4 : Int32) (v5 : Int32) : Option (Tmc × Tms) := (if v5 < v3 then (if (X12_isRight mc) = 0 then X12_header_379 mb mk mc ms v3 else ((X12_numberAt mb (((v1).toInt32) + ((64 : Int32) * v5)) (4 : Int32)).bind fun q3 => (if inb v4 30 = true then (if q3 < (((ms.2.2.1 (v4).toNatClampNeg)).toInt64) then (if inb v4 30 = true then (if inb v4 30 = true then (if inb v4 30 = true then ((X12_stringAt mb ((ms.2.1 (v4).toNatClampNeg) + ((q3).toInt32)) ((ms.2.1 (v4).toNatClampNeg) + (ms.2.2.1 (v4).toNatClampNeg))).bind fun q10 => (if q10 = (-1 : Int32) then (letq (X12_fail mc (1 : Int32) (((v1).toInt32) + ((64 : Int32) * v5))) fun q15 => X12_header_373 mb mk k255 q15 ms v1 v3 v4 v5) else (if inb v4 30 = true then (if inb v5 30 = true then X12_header_373 mb mk k255 mc (ms.1, ms.2.1, ms.2.2.1, (upd ms.2.2.2.1 (v5).toNatClampNeg ((ms.2.1 (v4).toNatClampNeg) + ((q3).toInt32))), ms.2.2.2.2.1, ms.2.2.2.2.2) v1 v3 v4 v5 else none) else none))) else none) else none) else none) else (letq (X12_fail mc (3 : Int32) (((v1).toInt32) + ((64 : Int32) * v5))) fun q17 => X12_header_373 mb mk k255 q17 ms v1 v3 v4 v5)) else none))) else X12_header_379 mb mk mc ms v3)
def X12_header_255 (mb : Tmb) (mk : Tmk)  (n : Nat) (st : Tmc × Tms × Int64 × Int32 × Int32 × Int32) : Option (Tmc × Tms) := lp (fun rec st => X12_header_255b mb mk  (fun a0 a1 a2 a3 a4 a5 => rec (a0, a1, a2, a3, a4, a5)) st.1 st.2.1 st.2.2.1 st.2.2.2.1 st.2.2.2.2.1 st.2.2.2.2.2) n st
set_option maxRecDepth 20000 in
theorem bX12_header_255 (C : Cx p s m args meth c cX12_header 9 none RX12 (.code yX12_header cX12_header 9 none)) (hI : Apart ad 71) (hK : va_K D vwCl (tysX cy) s) (hN : NW s)  {q : Tmc × Tms}  : ∀ (n : Nat) {mc : Tmc} {ms : Tms} {v1 : Int64} {v3 : Int32} {v4 : Int32} {v5 : Int32}, X12_header_255 mb mk  n (mc, ms, v1, v3, v4, v5) = some q → ∀ {ls : Array Slot}, lv_has ls 9 [(0, .ref (ad 0)), (1, .long v1), (3, .int v3), (4, .int v4), (5, .int v5)] → ∀ {H : Heap} {locs : List Loc}, va_P D vwCl (GM cy ad mt mc mb mo ms mk my mu ma me mr mp mg mw mf ml mq) H → va_S (Ac ad 71) s.heap H locs → W p l e ({ frames := 3, cells := 0, slots := 0, locals := 74 } : Room) s m args below meth c H locs 0 0 (MQ below (QR none D (GM cy ad mt q.1 mb mo q.2 mk my mu ma me mr mp mg mw mf ml mq) (Ac ad 71)) args s 0 0 (Ac ad 71)) (F0 m 255 ls []) := by
  obtain ⟨hx, hb, hml, hown, hts, hr, hlk⟩ := id C
  intro n
  induction n with
  | zero =>
    intro mc ms v1 v3 v4 v5 h ls hl H locs hP hS
    have h : (none : Option (Tmc × Tms)) = some q := h
    cases h
  | succ n ih =>
    intro mc ms v1 v3 v4 v5 h ls hl H locs hP hS
    have h : X12_header_255b mb mk  (fun a0 a1 a2 a3 a4 a5 => X12_header_255 mb mk  n (a0, a1, a2, a3, a4, a5)) mc ms v1 v3 v4 v5 = some q := h
    unfold X12_header_255b at h
    refine lv_iload hx hb dX12_header_255 (lv_at hl 4 rfl) ?_
    refine lv_iload_n hx hb dX12_header_257 rfl (lv_at hl 2 rfl) ?_
    refine b_icmp_ge (tgt := 379) hx hb dX12_header_258 (by decide) (fun c1 => ?_) (fun c1 => ?_)
    · rw [if_neg c1] at h
      exact bX12_header_379 C hI hK hN h (lv_sub hl [0, 2] rfl) hP hS
    · rw [if_pos c1] at h
      refine lv_aload_n hx hb dX12_header_261 rfl (lv_at hl 0 rfl) ?_
      refine cPi (run_V (rest := []) C (kX12_isRight rfl) caX12_isRight w1682 ⟨rfl, rfl, Nat.le_of_ble_eq_true rfl, Nat.le_of_ble_eq_true rfl⟩ hK hN hP (rM0 hK hP) rfl hl.1 rfl (Nat.le_of_ble_eq_true rfl) dX12_header_262 ⟨Nat.zero_le _, Nat.zero_le _⟩) ?_
      refine lv_if_eq (tgt := 379) hx hb dX12_header_265 (by decide) (fun c2 => ?_) (fun c2 => ?_)
      · rw [if_pos c2] at h
        exact bX12_header_379 C hI hK hN h (lv_sub hl [0, 2] rfl) hP hS
      · rw [if_neg c2] at h
        refine lv_lload_n hx hb dX12_header_268 rfl (lv_at hl 1 rfl) ?_
        refine lv_l2i (v := ((v1).toInt32)) hx hb dX12_header_269 rfl ?_
        refine lv_bipush (v := (64 : Int32)) hx hb dX12_header_270 (by decide) ?_
        refine lv_iload hx hb dX12_header_272 (lv_at hl 4 rfl) ?_
        refine lv_imul hx hb dX12_header_274 ?_
        refine lv_iadd hx hb dX12_header_275 ?_
        refine lv_istore (lv' := [(6, .int (((v1).toInt32) + ((64 : Int32) * v5))), (0, .ref (ad 0)), (1, .long v1), (3, .int v3), (4, .int v4), (5, .int v5)]) hx hb dX12_header_276 hl (by decide) rfl (fun ls hl => ?_)
        refine lv_aload_n hx hb dX12_header_278 rfl (lv_at hl 1 rfl) ?_
        refine lv_iload hx hb dX12_header_279 (lv_at hl 0 rfl) ?_
        refine lv_iconst (v := (4 : Int32)) hx hb dX12_header_281 (by decide) ?_
        obtain ⟨q3, h4, h⟩ := bnd h
        refine cPl (run_V (rest := []) C (kX12_numberAt h4) caX12_numberAt w1686 ⟨rfl, rfl, Nat.le_of_ble_eq_true rfl, Nat.le_of_ble_eq_true rfl⟩ hK hN hP (rM0 hK hP) rfl hl.1 rfl (Nat.le_of_ble_eq_true rfl) dX12_header_282 ⟨Nat.zero_le _, Nat.zero_le _⟩) ?_
        refine lv_lstore (lv' := [(7, .long q3), (6, .int (((v1).toInt32) + ((64 : Int32) * v5))), (0, .ref (ad 0)), (1, .long v1), (3, .int v3), (4, .int v4), (5, .int v5)]) hx hb dX12_header_285 hl (by decide) rfl (fun ls hl => ?_)
        refine lv_lload hx hb dX12_header_287 (lv_at hl 0 rfl) ?_
        refine lv_aload_n hx hb dX12_header_289 rfl (lv_at hl 2 rfl) ?_
        refine gM0_18 C hK hP w1385 dX12_header_290 ?_
        refine lv_iload hx hb dX12_header_293 (lv_at hl 5 rfl) ?_
        obtain ⟨n5, h⟩ := grd h
        refine aM11 (f := ms.2.2.1) C hK hP rfl n5 dX12_header_295 ?_
        refine lv_i2l (v := (((ms.2.2.1 (v4).toNatClampNeg)).toInt64)) hx hb dX12_header_296 rfl ?_
        refine lc_lt (tgt := 311) hx hb dX12_header_297 dX12_header_298 (by decide) (fun c6 => ?_) (fun c6 => ?_)
        · rw [if_pos c6] at h
          refine lv_aload_n hx hb dX12_header_311 rfl (lv_at hl 2 rfl) ?_
          refine lv_aload_n hx hb dX12_header_312 rfl (lv_at hl 2 rfl) ?_
          refine gM0_17 C hK hP w1384 dX12_header_313 ?_
          refine lv_iload hx hb dX12_header_316 (lv_at hl 5 rfl) ?_
          obtain ⟨n7, h⟩ := grd h
          refine aM10 (f := ms.2.1) C hK hP rfl n7 dX12_header_318 ?_
          refine lv_lload hx hb dX12_header_319 (lv_at hl 0 rfl) ?_
          refine lv_l2i (v := ((q3).toInt32)) hx hb dX12_header_321 rfl ?_
          refine lv_iadd hx hb dX12_header_322 ?_
          refine lv_aload_n hx hb dX12_header_323 rfl (lv_at hl 2 rfl) ?_
          refine gM0_17 C hK hP w1384 dX12_header_324 ?_
          refine lv_iload hx hb dX12_header_327 (lv_at hl 5 rfl) ?_
          obtain ⟨n8, h⟩ := grd h
          refine aM10 (f := ms.2.1) C hK hP rfl n8 dX12_header_329 ?_
          refine lv_aload_n hx hb dX12_header_330 rfl (lv_at hl 2 rfl) ?_
          refine gM0_18 C hK hP w1385 dX12_header_331 ?_
          refine lv_iload hx hb dX12_header_334 (lv_at hl 5 rfl) ?_
          obtain ⟨n9, h⟩ := grd h
          refine aM11 (f := ms.2.2.1) C hK hP rfl n9 dX12_header_336 ?_
          refine lv_iadd hx hb dX12_header_337 ?_
          obtain ⟨q10, h11, h⟩ := bnd h
          refine cPi (run_V (rest := []) C (kX12_stringAt h11) caX12_stringAt w1696 ⟨rfl, rfl, Nat.le_of_ble_eq_true rfl, Nat.le_of_ble_eq_true rfl⟩ hK hN hP (rM0 hK hP) rfl hl.1 rfl (Nat.le_of_ble_eq_true rfl) dX12_header_338 ⟨Nat.zero_le _, Nat.zero_le _⟩) ?_
          refine lv_iconst (v := (-1 : Int32)) hx hb dX12_header_341 (by decide) ?_
          refine lv_icmp_ne (tgt := 355) hx hb dX12_header_342 (by decide) (fun c12 => ?_) (fun c12 => ?_)
          · rw [if_neg c12] at h
            refine lv_aload_n hx hb dX12_header_355 rfl (lv_at hl 2 rfl) ?_
            refine gM0_19 C hK hP w1386 dX12_header_356 ?_
            refine lv_iload hx hb dX12_header_359 (lv_at hl 6 rfl) ?_
            refine lv_aload_n hx hb dX12_header_361 rfl (lv_at hl 2 rfl) ?_
            refine gM0_17 C hK hP w1384 dX12_header_362 ?_
            refine lv_iload hx hb dX12_header_365 (lv_at hl 5 rfl) ?_
            obtain ⟨n13, h⟩ := grd h
            refine aM10 (f := ms.2.1) C hK hP rfl n13 dX12_header_367 ?_
            refine lv_lload hx hb dX12_header_368 (lv_at hl 0 rfl) ?_
            refine lv_l2i (v := ((q3).toInt32)) hx hb dX12_header_370 rfl ?_
            refine lv_iadd hx hb dX12_header_371 ?_
            obtain ⟨n14, h⟩ := grd h
            refine sM12 (f := ms.2.2.2.1) C hI hK hP hS rfl n14 dX12_header_372 (fun H locs hP hS => ?_)
            have hP : va_P D vwCl (GM cy ad mt mc mb mo (ms.1, ms.2.1, ms.2.2.1, (upd ms.2.2.2.1 (v5).toNatClampNeg ((ms.2.1 (v4).toNatClampNeg) + ((q3).toInt32))), ms.2.2.2.2.1, ms.2.2.2.2.2) mk my mu ma me mr mp mg mw mf ml mq) H := hP
            exact bX12_header_373 C hI hK hN @ih h (lv_sub hl [2, 3, 4, 5, 6] rfl) hP hS
          · rw [if_pos c12] at h
            refine lv_aload_n hx hb dX12_header_345 rfl (lv_at hl 2 rfl) ?_
            refine lv_iconst (v := (1 : Int32)) hx hb dX12_header_346 (by decide) ?_
            refine lv_iload hx hb dX12_header_347 (lv_at hl 1 rfl) ?_
            obtain ⟨q15, h16, h⟩ := lets h
            refine cRv (run_V (rest := []) C (kX12_fail hI h16) caX12_fail w1678 ⟨rfl, rfl, Nat.le_of_ble_eq_true rfl, Nat.le_of_ble_eq_true rfl⟩ hK hN hP (rM0 hK hP) rfl hl.1 rfl (Nat.le_of_ble_eq_true rfl) dX12_header_349 ⟨Nat.zero_le _, Nat.zero_le _⟩) hS (fun H locs hP hS => ?_)
            have hP : va_P D vwCl (GM cy ad mt q15 mb mo ms mk my mu ma me mr mp mg mw mf ml mq) H := hP
            refine lv_goto (tgt := 373) hx hb dX12_header_352 (by decide) ?_
            exact bX12_header_373 C hI hK hN @ih h (lv_sub hl [2, 3, 4, 5, 6] rfl) hP hS
        · rw [if_neg c6] at h
          refine lv_aload_n hx hb dX12_header_301 rfl (lv_at hl 2 rfl) ?_
          refine lv_iconst (v := (3 : Int32)) hx hb dX12_header_302 (by decide) ?_
          refine lv_iload hx hb dX12_header_303 (lv_at hl 1 rfl) ?_
          obtain ⟨q17, h18, h⟩ := lets h
          refine cRv (run_V (rest := []) C (kX12_fail hI h18) caX12_fail w1678 ⟨rfl, rfl, Nat.le_of_ble_eq_true rfl, Nat.le_of_ble_eq_true rfl⟩ hK hN hP (rM0 hK hP) rfl hl.1 rfl (Nat.le_of_ble_eq_true rfl) dX12_header_305 ⟨Nat.zero_le _, Nat.zero_le _⟩) hS (fun H locs hP hS => ?_)
          have hP : va_P D vwCl (GM cy ad mt q17 mb mo ms mk my mu ma me mr mp mg mw mf ml mq) H := hP
          refine lv_goto (tgt := 373) hx hb dX12_header_308 (by decide) ?_
          exact bX12_header_373 C hI hK hN @ih h (lv_sub hl [2, 3, 4, 5, 6] rfl) hP hS
def X12_header_252 (mb : Tmb) (mk : Tmk)  (mc : Tmc) (ms : Tms) (v1 : Int64) (v3 : Int32) (v4 : Int32) : Option (Tmc × Tms) := X12_header_255 mb mk FU (mc, ms, v1, v3, v4, (0 : Int32))
set_option maxRecDepth 20000 in
theorem bX12_header_252 (C : Cx p s m args meth c cX12_header 9 none RX12 (.code yX12_header cX12_header 9 none)) (hI : Apart ad 71) (hK : va_K D vwCl (tysX cy) s) (hN : NW s)  {q : Tmc × Tms}  {v1 : Int64} {v3 : Int32} {v4 : Int32} (h : X12_header_252 mb mk mc ms v1 v3 v4 = some q) {ls : Array Slot} (hl : lv_has ls 9 [(0, .ref (ad 0)), (1, .long v1), (3, .int v3), (4, .int v4)]) {H : Heap} {locs : List Loc} (hP : va_P D vwCl (GM cy ad mt mc mb mo ms mk my mu ma me mr mp mg mw mf ml mq) H) (hS : va_S (Ac ad 71) s.heap H locs) : W p l e ({ frames := 3, cells := 0, slots := 0, locals := 74 } : Room) s m args below meth c H locs 0 0 (MQ below (QR none D (GM cy ad mt q.1 mb mo q.2 mk my mu ma me mr mp mg mw mf ml mq) (Ac ad 71)) args s 0 0 (Ac ad 71)) (F0 m 252 ls []) := by
  obtain ⟨hx, hb, hml, hown, hts, hr, hlk⟩ := id C
  unfold X12_header_252 at h
  refine lv_iconst (v := (0 : Int32)) hx hb dX12_header_252 (by decide) ?_
  refine lv_istore (lv' := [(5, .int (0 : Int32)), (0, .ref (ad 0)), (1, .long v1), (3, .int v3), (4, .int v4)]) hx hb dX12_header_253 hl (by decide) rfl (fun ls hl => ?_)
  exact bX12_header_255 C hI hK hN FU h (lv_sub hl [1, 2, 3, 4, 0] rfl) hP hS
def X12_header_219b (mb : Tmb) (mk : Tmk)  (k219 : Tmc → Tms → Int64 → Int32 → Int32 → Int32 → Option (Tmc × Tms)) (mc : Tmc) (ms : Tms) (v1 : Int64) (v3 : Int32) (v4 : Int32) (v5 : Int32) : Option (Tmc × Tms) := (if v5 < v3 then (if (X12_isRight mc) = 0 then X12_header_252 mb mk mc ms v1 v3 v4 else ((X12_section mc mb ms v5 (((v1).toInt32) + ((64 : Int32) * v5))).bind fun q3 => k219 q3.1 q3.2 v1 v3 v4 (v5 + (1 : Int32)))) else X12_header_252 mb mk mc ms v1 v3 v4)
def X12_header_219 (mb : Tmb) (mk : Tmk)  (n : Nat) (st : Tmc × Tms × Int64 × Int32 × Int32 × Int32) : Option (Tmc × Tms) := lp (fun rec st => X12_header_219b mb mk  (fun a0 a1 a2 a3 a4 a5 => rec (a0, a1, a2, a3, a4, a5)) st.1 st.2.1 st.2.2.1 st.2.2.2.1 st.2.2.2.2.1 st.2.2.2.2.2) n st
set_option maxRecDepth 20000 in
theorem bX12_header_219 (C : Cx p s m args meth c cX12_header 9 none RX12 (.code yX12_header cX12_header 9 none)) (hI : Apart ad 71) (hK : va_K D vwCl (tysX cy) s) (hN : NW s)  {q : Tmc × Tms}  : ∀ (n : Nat) {mc : Tmc} {ms : Tms} {v1 : Int64} {v3 : Int32} {v4 : Int32} {v5 : Int32}, X12_header_219 mb mk  n (mc, ms, v1, v3, v4, v5) = some q → ∀ {ls : Array Slot}, lv_has ls 9 [(0, .ref (ad 0)), (1, .long v1), (3, .int v3), (4, .int v4), (5, .int v5)] → ∀ {H : Heap} {locs : List Loc}, va_P D vwCl (GM cy ad mt mc mb mo ms mk my mu ma me mr mp mg mw mf ml mq) H → va_S (Ac ad 71) s.heap H locs → W p l e ({ frames := 3, cells := 0, slots := 0, locals := 74 } : Room) s m args below meth c H locs 0 0 (MQ below (QR none D (GM cy ad mt q.1 mb mo q.2 mk my mu ma me mr mp mg mw mf ml mq) (Ac ad 71)) args s 0 0 (Ac ad 71)) (F0 m 219 ls []) := by
  obtain ⟨hx, hb, hml, hown, hts, hr, hlk⟩ := id C
  intro n
  induction n with
  | zero =>
    intro mc ms v1 v3 v4 v5 h ls hl H locs hP hS
    have h : (none : Option (Tmc × Tms)) = some q := h
    cases h
  | succ n ih =>
    intro mc ms v1 v3 v4 v5 h ls hl H locs hP hS
    have h : X12_header_219b mb mk  (fun a0 a1 a2 a3 a4 a5 => X12_header_219 mb mk  n (a0, a1, a2, a3, a4, a5)) mc ms v1 v3 v4 v5 = some q := h
    unfold X12_header_219b at h
    refine lv_iload hx hb dX12_header_219 (lv_at hl 4 rfl) ?_
    refine lv_iload_n hx hb dX12_header_221 rfl (lv_at hl 2 rfl) ?_
    refine b_icmp_ge (tgt := 252) hx hb dX12_header_222 (by decide) (fun c1 => ?_) (fun c1 => ?_)
    · rw [if_neg c1] at h
      exact bX12_header_252 C hI hK hN h (lv_sub hl [0, 1, 2, 3] rfl) hP hS
    · rw [if_pos c1] at h
      refine lv_aload_n hx hb dX12_header_225 rfl (lv_at hl 0 rfl) ?_
      refine cPi (run_V (rest := []) C (kX12_isRight rfl) caX12_isRight w1682 ⟨rfl, rfl, Nat.le_of_ble_eq_true rfl, Nat.le_of_ble_eq_true rfl⟩ hK hN hP (rM0 hK hP) rfl hl.1 rfl (Nat.le_of_ble_eq_true rfl) dX12_header_226 ⟨Nat.zero_le _, Nat.zero_le _⟩) ?_
      refine lv_if_eq (tgt := 252) hx hb dX12_header_229 (by decide) (fun c2 => ?_) (fun c2 => ?_)
      · rw [if_pos c2] at h
        exact bX12_header_252 C hI hK hN h (lv_sub hl [0, 1, 2, 3] rfl) hP hS
      · rw [if_neg c2] at h
        refine lv_aload_n hx hb dX12_header_232 rfl (lv_at hl 0 rfl) ?_
        refine lv_iload hx hb dX12_header_233 (lv_at hl 4 rfl) ?_
        refine lv_lload_n hx hb dX12_header_235 rfl (lv_at hl 1 rfl) ?_
        refine lv_l2i (v := ((v1).toInt32)) hx hb dX12_header_236 rfl ?_
        refine lv_bipush (v := (64 : Int32)) hx hb dX12_header_237 (by decide) ?_
        refine lv_iload hx hb dX12_header_239 (lv_at hl 4 rfl) ?_
        refine lv_imul hx hb dX12_header_241 ?_
        refine lv_iadd hx hb dX12_header_242 ?_
        obtain ⟨q3, h4, h⟩ := bnd h
        refine cRv (run_V (rest := []) C (kX12_section hI h4) caX12_section w1691 ⟨rfl, rfl, Nat.le_of_ble_eq_true rfl, Nat.le_of_ble_eq_true rfl⟩ hK hN hP (rM0 hK hP) rfl hl.1 rfl (Nat.le_of_ble_eq_true rfl) dX12_header_243 ⟨Nat.zero_le _, Nat.zero_le _⟩) hS (fun H locs hP hS => ?_)
        have hP : va_P D vwCl (GM cy ad mt q3.1 mb mo q3.2 mk my mu ma me mr mp mg mw mf ml mq) H := hP
        refine lv_iinc (v := (v5 + (1 : Int32))) (lv' := [(5, .int (v5 + (1 : Int32))), (0, .ref (ad 0)), (1, .long v1), (3, .int v3), (4, .int v4)]) hx hb dX12_header_246 hl (k := 4) rfl rfl (by decide) rfl (fun ls hl => ?_)
        refine lv_goto (tgt := 219) hx hb dX12_header_249 (by decide) ?_
        exact ih h (lv_sub hl [1, 2, 3, 4, 0] rfl) hP hS
def X12_header_198 (mb : Tmb) (mk : Tmk)  (mc : Tmc) (ms : Tms) (v1 : Int64) (v3 : Int32) (v4 : Int32) : Option (Tmc × Tms) := (if (X12_isRight mc) = 0 then some (mc, ms) else (if inb mb.2.1 2 = true then X12_header_219 mb mk FU (mc, ((upd ms.1 (mb.2.1).toNatClampNeg v3), ms.2.1, ms.2.2.1, ms.2.2.2.1, ms.2.2.2.2.1, ms.2.2.2.2.2), v1, v3, v4, (0 : Int32)) else none))
set_option maxRecDepth 20000 in
theorem bX12_header_198 (C : Cx p s m args meth c cX12_header 9 none RX12 (.code yX12_header cX12_header 9 none)) (hI : Apart ad 71) (hK : va_K D vwCl (tysX cy) s) (hN : NW s)  {q : Tmc × Tms}  {v1 : Int64} {v3 : Int32} {v4 : Int32} (h : X12_header_198 mb mk mc ms v1 v3 v4 = some q) {ls : Array Slot} (hl : lv_has ls 9 [(0, .ref (ad 0)), (1, .long v1), (3, .int v3), (4, .int v4)]) {H : Heap} {locs : List Loc} (hP : va_P D vwCl (GM cy ad mt mc mb mo ms mk my mu ma me mr mp mg mw mf ml mq) H) (hS : va_S (Ac ad 71) s.heap H locs) : W p l e ({ frames := 3, cells := 0, slots := 0, locals := 74 } : Room) s m args below meth c H locs 0 0 (MQ below (QR none D (GM cy ad mt q.1 mb mo q.2 mk my mu ma me mr mp mg mw mf ml mq) (Ac ad 71)) args s 0 0 (Ac ad 71)) (F0 m 198 ls []) := by
  obtain ⟨hx, hb, hml, hown, hts, hr, hlk⟩ := id C
  unfold X12_header_198 at h
  refine lv_aload_n hx hb dX12_header_198 rfl (lv_at hl 0 rfl) ?_
  refine cPi (run_V (rest := []) C (kX12_isRight rfl) caX12_isRight w1682 ⟨rfl, rfl, Nat.le_of_ble_eq_true rfl, Nat.le_of_ble_eq_true rfl⟩ hK hN hP (rM0 hK hP) rfl hl.1 rfl (Nat.le_of_ble_eq_true rfl) dX12_header_199 ⟨Nat.zero_le _, Nat.zero_le _⟩) ?_
  refine lv_if_ne (tgt := 206) hx hb dX12_header_202 (by decide) (fun c1 => ?_) (fun c1 => ?_)
  · rw [if_neg c1] at h
    refine lv_aload_n hx hb dX12_header_206 rfl (lv_at hl 0 rfl) ?_
    refine gM0_10 C hK hP w1377 dX12_header_207 ?_
    refine lv_aload_n hx hb dX12_header_210 rfl (lv_at hl 0 rfl) ?_
    refine gM0_6 (v := mb.2.1) C hK hP rfl w1373 dX12_header_211 ?_
    refine lv_iload_n hx hb dX12_header_214 rfl (lv_at hl 2 rfl) ?_
    obtain ⟨n2, h⟩ := grd h
    refine sM3 (f := ms.1) C hI hK hP hS rfl n2 dX12_header_215 (fun H locs hP hS => ?_)
    have hP : va_P D vwCl (GM cy ad mt mc mb mo ((upd ms.1 (mb.2.1).toNatClampNeg v3), ms.2.1, ms.2.2.1, ms.2.2.2.1, ms.2.2.2.2.1, ms.2.2.2.2.2) mk my mu ma me mr mp mg mw mf ml mq) H := hP
    refine lv_iconst (v := (0 : Int32)) hx hb dX12_header_216 (by decide) ?_
    refine lv_istore (lv' := [(5, .int (0 : Int32)), (0, .ref (ad 0)), (1, .long v1), (3, .int v3), (4, .int v4)]) hx hb dX12_header_217 hl (by decide) rfl (fun ls hl => ?_)
    exact bX12_header_219 C hI hK hN FU h (lv_sub hl [1, 2, 3, 4, 0] rfl) hP hS
  · rw [if_pos c1] at h
    obtain rfl := Option.some.inj h
    exact W.vret hx hb hr (fun t ht _ => ⟨rfl, by rw [ht]; exact hP, hS.F ht⟩) hS.2.2 dX12_header_205 hlk
def X12_header_191 (mb : Tmb) (mk : Tmk)  (mc : Tmc) (ms : Tms) (v1 : Int64) (v3 : Int32) (v4 : Int32) : Option (Tmc × Tms) := (letq (X12_fail mc (1 : Int32) (40 : Int32)) fun q1 => X12_header_198 mb mk q1 ms v1 v3 v4)
set_option maxRecDepth 20000 in
theorem bX12_header_191 (C : Cx p s m args meth c cX12_header 9 none RX12 (.code yX12_header cX12_header 9 none)) (hI : Apart ad 71) (hK : va_K D vwCl (tysX cy) s) (hN : NW s)  {q : Tmc × Tms}  {v1 : Int64} {v3 : Int32} {v4 : Int32} (h : X12_header_191 mb mk mc ms v1 v3 v4 = some q) {ls : Array Slot} (hl : lv_has ls 9 [(0, .ref (ad 0)), (1, .long v1), (3, .int v3), (4, .int v4)]) {H : Heap} {locs : List Loc} (hP : va_P D vwCl (GM cy ad mt mc mb mo ms mk my mu ma me mr mp mg mw mf ml mq) H) (hS : va_S (Ac ad 71) s.heap H locs) : W p l e ({ frames := 3, cells := 0, slots := 0, locals := 74 } : Room) s m args below meth c H locs 0 0 (MQ below (QR none D (GM cy ad mt q.1 mb mo q.2 mk my mu ma me mr mp mg mw mf ml mq) (Ac ad 71)) args s 0 0 (Ac ad 71)) (F0 m 191 ls []) := by
  obtain ⟨hx, hb, hml, hown, hts, hr, hlk⟩ := id C
  unfold X12_header_191 at h
  refine lv_aload_n hx hb dX12_header_191 rfl (lv_at hl 0 rfl) ?_
  refine lv_iconst (v := (1 : Int32)) hx hb dX12_header_192 (by decide) ?_
  refine lv_bipush (v := (40 : Int32)) hx hb dX12_header_193 (by decide) ?_
  obtain ⟨q1, h2, h⟩ := lets h
  refine cRv (run_V (rest := []) C (kX12_fail hI h2) caX12_fail w1678 ⟨rfl, rfl, Nat.le_of_ble_eq_true rfl, Nat.le_of_ble_eq_true rfl⟩ hK hN hP (rM0 hK hP) rfl hl.1 rfl (Nat.le_of_ble_eq_true rfl) dX12_header_195 ⟨Nat.zero_le _, Nat.zero_le _⟩) hS (fun H locs hP hS => ?_)
  have hP : va_P D vwCl (GM cy ad mt q1 mb mo ms mk my mu ma me mr mp mg mw mf ml mq) H := hP
  exact bX12_header_198 C hI hK hN h (lv_sub hl [0, 1, 2, 3] rfl) hP hS
def X12_header_158 (mb : Tmb) (mk : Tmk)  (mc : Tmc) (ms : Tms) (v1 : Int64) (v3 : Int32) (v4 : Int32) : Option (Tmc × Tms) := (if v1 < (0 : Int64) then X12_header_191 mb mk mc ms v1 v3 v4 else (if ((mb.2.2).toInt64) < v1 then X12_header_191 mb mk mc ms v1 v3 v4 else (if ((mb.2.2).toInt64) < (v1 + ((64 : Int64) * ((v3).toInt64))) then X12_header_191 mb mk mc ms v1 v3 v4 else X12_header_198 mb mk mc ms v1 v3 v4)))
set_option maxRecDepth 20000 in
theorem bX12_header_158 (C : Cx p s m args meth c cX12_header 9 none RX12 (.code yX12_header cX12_header 9 none)) (hI : Apart ad 71) (hK : va_K D vwCl (tysX cy) s) (hN : NW s)  {q : Tmc × Tms}  {v1 : Int64} {v3 : Int32} {v4 : Int32} (h : X12_header_158 mb mk mc ms v1 v3 v4 = some q) {ls : Array Slot} (hl : lv_has ls 9 [(0, .ref (ad 0)), (1, .long v1), (3, .int v3), (4, .int v4)]) {H : Heap} {locs : List Loc} (hP : va_P D vwCl (GM cy ad mt mc mb mo ms mk my mu ma me mr mp mg mw mf ml mq) H) (hS : va_S (Ac ad 71) s.heap H locs) : W p l e ({ frames := 3, cells := 0, slots := 0, locals := 74 } : Room) s m args below meth c H locs 0 0 (MQ below (QR none D (GM cy ad mt q.1 mb mo q.2 mk my mu ma me mr mp mg mw mf ml mq) (Ac ad 71)) args s 0 0 (Ac ad 71)) (F0 m 158 ls []) := by
  obtain ⟨hx, hb, hml, hown, hts, hr, hlk⟩ := id C
  unfold X12_header_158 at h
  refine lv_lload_n hx hb dX12_header_158 rfl (lv_at hl 1 rfl) ?_
  refine lv_lconst (v := (0 : Int64)) hx hb dX12_header_159 (by decide) ?_
  refine lc_lt (tgt := 191) hx hb dX12_header_160 dX12_header_161 (by decide) (fun c1 => ?_) (fun c1 => ?_)
  · rw [if_pos c1] at h
    exact bX12_header_191 C hI hK hN h (lv_sub hl [0, 1, 2, 3] rfl) hP hS
  · rw [if_neg c1] at h
    refine lv_lload_n hx hb dX12_header_164 rfl (lv_at hl 1 rfl) ?_
    refine lv_aload_n hx hb dX12_header_165 rfl (lv_at hl 0 rfl) ?_
    refine gM0_9 (v := mb.2.2) C hK hP rfl w1376 dX12_header_166 ?_
    refine lv_i2l (v := ((mb.2.2).toInt64)) hx hb dX12_header_169 rfl ?_
    refine lc_gt (tgt := 191) hx hb dX12_header_170 dX12_header_171 (by decide) (fun c2 => ?_) (fun c2 => ?_)
    · rw [if_pos c2] at h
      exact bX12_header_191 C hI hK hN h (lv_sub hl [0, 1, 2, 3] rfl) hP hS
    · rw [if_neg c2] at h
      refine lv_lload_n hx hb dX12_header_174 rfl (lv_at hl 1 rfl) ?_
      refine lv_ldc2 (v := (64 : Int64)) hx hb hown (hts _ (List.mem_cons_of_mem _ w1690)) dX12_header_175 ?_
      refine lv_iload_n hx hb dX12_header_178 rfl (lv_at hl 2 rfl) ?_
      refine lv_i2l (v := ((v3).toInt64)) hx hb dX12_header_179 rfl ?_
      refine lv_lmul hx hb dX12_header_180 ?_
      refine lv_ladd hx hb dX12_header_181 ?_
      refine lv_aload_n hx hb dX12_header_182 rfl (lv_at hl 0 rfl) ?_
      refine gM0_9 (v := mb.2.2) C hK hP rfl w1376 dX12_header_183 ?_
      refine lv_i2l (v := ((mb.2.2).toInt64)) hx hb dX12_header_186 rfl ?_
      refine lc_le (tgt := 198) hx hb dX12_header_187 dX12_header_188 (by decide) (fun c3 => ?_) (fun c3 => ?_)
      · rw [if_neg c3] at h
        exact bX12_header_198 C hI hK hN h (lv_sub hl [0, 1, 2, 3] rfl) hP hS
      · rw [if_pos c3] at h
        exact bX12_header_191 C hI hK hN h (lv_sub hl [0, 1, 2, 3] rfl) hP hS
def X12_header_145 (mb : Tmb) (mk : Tmk)  (mc : Tmc) (ms : Tms) (v1 : Int64) (v3 : Int32) (v4 : Int32) : Option (Tmc × Tms) := (if v4 < v3 then X12_header_158 mb mk mc ms v1 v3 v4 else (letq (X12_fail mc (3 : Int32) (62 : Int32)) fun q2 => X12_header_158 mb mk q2 ms v1 v3 v4))
set_option maxRecDepth 20000 in
theorem bX12_header_145 (C : Cx p s m args meth c cX12_header 9 none RX12 (.code yX12_header cX12_header 9 none)) (hI : Apart ad 71) (hK : va_K D vwCl (tysX cy) s) (hN : NW s)  {q : Tmc × Tms}  {v1 : Int64} {v3 : Int32} {v4 : Int32} (h : X12_header_145 mb mk mc ms v1 v3 v4 = some q) {ls : Array Slot} (hl : lv_has ls 9 [(0, .ref (ad 0)), (1, .long v1), (3, .int v3), (4, .int v4)]) {H : Heap} {locs : List Loc} (hP : va_P D vwCl (GM cy ad mt mc mb mo ms mk my mu ma me mr mp mg mw mf ml mq) H) (hS : va_S (Ac ad 71) s.heap H locs) : W p l e ({ frames := 3, cells := 0, slots := 0, locals := 74 } : Room) s m args below meth c H locs 0 0 (MQ below (QR none D (GM cy ad mt q.1 mb mo q.2 mk my mu ma me mr mp mg mw mf ml mq) (Ac ad 71)) args s 0 0 (Ac ad 71)) (F0 m 145 ls []) := by
  obtain ⟨hx, hb, hml, hown, hts, hr, hlk⟩ := id C
  unfold X12_header_145 at h
  refine lv_iload hx hb dX12_header_145 (lv_at hl 3 rfl) ?_
  refine lv_iload_n hx hb dX12_header_147 rfl (lv_at hl 2 rfl) ?_
  refine lv_icmp_lt (tgt := 158) hx hb dX12_header_148 (by decide) (fun c1 => ?_) (fun c1 => ?_)
  · rw [if_pos c1] at h
    exact bX12_header_158 C hI hK hN h (lv_sub hl [0, 1, 2, 3] rfl) hP hS
  · rw [if_neg c1] at h
    refine lv_aload_n hx hb dX12_header_151 rfl (lv_at hl 0 rfl) ?_
    refine lv_iconst (v := (3 : Int32)) hx hb dX12_header_152 (by decide) ?_
    refine lv_bipush (v := (62 : Int32)) hx hb dX12_header_153 (by decide) ?_
    obtain ⟨q2, h3, h⟩ := lets h
    refine cRv (run_V (rest := []) C (kX12_fail hI h3) caX12_fail w1678 ⟨rfl, rfl, Nat.le_of_ble_eq_true rfl, Nat.le_of_ble_eq_true rfl⟩ hK hN hP (rM0 hK hP) rfl hl.1 rfl (Nat.le_of_ble_eq_true rfl) dX12_header_155 ⟨Nat.zero_le _, Nat.zero_le _⟩) hS (fun H locs hP hS => ?_)
    have hP : va_P D vwCl (GM cy ad mt q2 mb mo ms mk my mu ma me mr mp mg mw mf ml mq) H := hP
    exact bX12_header_158 C hI hK hN h (lv_sub hl [0, 1, 2, 3] rfl) hP hS
def X12_header_132 (mb : Tmb) (mk : Tmk)  (mc : Tmc) (ms : Tms) (v1 : Int64) (v3 : Int32) (v4 : Int32) : Option (Tmc × Tms) := (if (30 : Int32) < v3 then (letq (X12_fail mc (4 : Int32) (60 : Int32)) fun q2 => X12_header_145 mb mk q2 ms v1 v3 v4) else X12_header_145 mb mk mc ms v1 v3 v4)
set_option maxRecDepth 20000 in
theorem bX12_header_132 (C : Cx p s m args meth c cX12_header 9 none RX12 (.code yX12_header cX12_header 9 none)) (hI : Apart ad 71) (hK : va_K D vwCl (tysX cy) s) (hN : NW s)  {q : Tmc × Tms}  {v1 : Int64} {v3 : Int32} {v4 : Int32} (h : X12_header_132 mb mk mc ms v1 v3 v4 = some q) {ls : Array Slot} (hl : lv_has ls 9 [(0, .ref (ad 0)), (1, .long v1), (3, .int v3), (4, .int v4)]) {H : Heap} {locs : List Loc} (hP : va_P D vwCl (GM cy ad mt mc mb mo ms mk my mu ma me mr mp mg mw mf ml mq) H) (hS : va_S (Ac ad 71) s.heap H locs) : W p l e ({ frames := 3, cells := 0, slots := 0, locals := 74 } : Room) s m args below meth c H locs 0 0 (MQ below (QR none D (GM cy ad mt q.1 mb mo q.2 mk my mu ma me mr mp mg mw mf ml mq) (Ac ad 71)) args s 0 0 (Ac ad 71)) (F0 m 132 ls []) := by
  obtain ⟨hx, hb, hml, hown, hts, hr, hlk⟩ := id C
  unfold X12_header_132 at h
  refine lv_iload_n hx hb dX12_header_132 rfl (lv_at hl 2 rfl) ?_
  refine lv_bipush (v := (30 : Int32)) hx hb dX12_header_133 (by decide) ?_
  refine b_icmp_le (tgt := 145) hx hb dX12_header_135 (by decide) (fun c1 => ?_) (fun c1 => ?_)
  · rw [if_neg c1] at h
    exact bX12_header_145 C hI hK hN h (lv_sub hl [0, 1, 2, 3] rfl) hP hS
  · rw [if_pos c1] at h
    refine lv_aload_n hx hb dX12_header_138 rfl (lv_at hl 0 rfl) ?_
    refine lv_iconst (v := (4 : Int32)) hx hb dX12_header_139 (by decide) ?_
    refine lv_bipush (v := (60 : Int32)) hx hb dX12_header_140 (by decide) ?_
    obtain ⟨q2, h3, h⟩ := lets h
    refine cRv (run_V (rest := []) C (kX12_fail hI h3) caX12_fail w1678 ⟨rfl, rfl, Nat.le_of_ble_eq_true rfl, Nat.le_of_ble_eq_true rfl⟩ hK hN hP (rM0 hK hP) rfl hl.1 rfl (Nat.le_of_ble_eq_true rfl) dX12_header_142 ⟨Nat.zero_le _, Nat.zero_le _⟩) hS (fun H locs hP hS => ?_)
    have hP : va_P D vwCl (GM cy ad mt q2 mb mo ms mk my mu ma me mr mp mg mw mf ml mq) H := hP
    exact bX12_header_145 C hI hK hN h (lv_sub hl [0, 1, 2, 3] rfl) hP hS
def X12_header_121 (mb : Tmb) (mk : Tmk)  (mc : Tmc) (ms : Tms) (v1 : Int64) (v3 : Int32) (v4 : Int32) : Option (Tmc × Tms) := (if v3 = 0 then (letq (X12_fail mc (2 : Int32) (60 : Int32)) fun q2 => X12_header_132 mb mk q2 ms v1 v3 v4) else X12_header_132 mb mk mc ms v1 v3 v4)
set_option maxRecDepth 20000 in
theorem bX12_header_121 (C : Cx p s m args meth c cX12_header 9 none RX12 (.code yX12_header cX12_header 9 none)) (hI : Apart ad 71) (hK : va_K D vwCl (tysX cy) s) (hN : NW s)  {q : Tmc × Tms}  {v1 : Int64} {v3 : Int32} {v4 : Int32} (h : X12_header_121 mb mk mc ms v1 v3 v4 = some q) {ls : Array Slot} (hl : lv_has ls 9 [(0, .ref (ad 0)), (1, .long v1), (3, .int v3), (4, .int v4)]) {H : Heap} {locs : List Loc} (hP : va_P D vwCl (GM cy ad mt mc mb mo ms mk my mu ma me mr mp mg mw mf ml mq) H) (hS : va_S (Ac ad 71) s.heap H locs) : W p l e ({ frames := 3, cells := 0, slots := 0, locals := 74 } : Room) s m args below meth c H locs 0 0 (MQ below (QR none D (GM cy ad mt q.1 mb mo q.2 mk my mu ma me mr mp mg mw mf ml mq) (Ac ad 71)) args s 0 0 (Ac ad 71)) (F0 m 121 ls []) := by
  obtain ⟨hx, hb, hml, hown, hts, hr, hlk⟩ := id C
  unfold X12_header_121 at h
  refine lv_iload_n hx hb dX12_header_121 rfl (lv_at hl 2 rfl) ?_
  refine lv_if_ne (tgt := 132) hx hb dX12_header_122 (by decide) (fun c1 => ?_) (fun c1 => ?_)
  · rw [if_neg c1] at h
    exact bX12_header_132 C hI hK hN h (lv_sub hl [0, 1, 2, 3] rfl) hP hS
  · rw [if_pos c1] at h
    refine lv_aload_n hx hb dX12_header_125 rfl (lv_at hl 0 rfl) ?_
    refine lv_iconst (v := (2 : Int32)) hx hb dX12_header_126 (by decide) ?_
    refine lv_bipush (v := (60 : Int32)) hx hb dX12_header_127 (by decide) ?_
    obtain ⟨q2, h3, h⟩ := lets h
    refine cRv (run_V (rest := []) C (kX12_fail hI h3) caX12_fail w1678 ⟨rfl, rfl, Nat.le_of_ble_eq_true rfl, Nat.le_of_ble_eq_true rfl⟩ hK hN hP (rM0 hK hP) rfl hl.1 rfl (Nat.le_of_ble_eq_true rfl) dX12_header_129 ⟨Nat.zero_le _, Nat.zero_le _⟩) hS (fun H locs hP hS => ?_)
    have hP : va_P D vwCl (GM cy ad mt q2 mb mo ms mk my mu ma me mr mp mg mw mf ml mq) H := hP
    exact bX12_header_132 C hI hK hN h (lv_sub hl [0, 1, 2, 3] rfl) hP hS
def X12_header_64 (mb : Tmb) (mk : Tmk)  (mc : Tmc) (ms : Tms)  : Option (Tmc × Tms) := (if (X12_isRight mc) = 0 then some (mc, ms) else ((X12_numberAt mb (40 : Int32) (8 : Int32)).bind fun q2 => ((X12_numberAt mb (60 : Int32) (2 : Int32)).bind fun q4 => ((X12_numberAt mb (62 : Int32) (2 : Int32)).bind fun q6 => ((X12_numberAt mb (58 : Int32) (2 : Int32)).bind fun q8 => (if q8 = (64 : Int64) then X12_header_121 mb mk mc ms q2 ((q4).toInt32) ((q6).toInt32) else (letq (X12_fail mc (2 : Int32) (58 : Int32)) fun q11 => X12_header_121 mb mk q11 ms q2 ((q4).toInt32) ((q6).toInt32))))))))
set_option maxRecDepth 20000 in
theorem bX12_header_64 (C : Cx p s m args meth c cX12_header 9 none RX12 (.code yX12_header cX12_header 9 none)) (hI : Apart ad 71) (hK : va_K D vwCl (tysX cy) s) (hN : NW s)  {q : Tmc × Tms}   (h : X12_header_64 mb mk mc ms = some q) {ls : Array Slot} (hl : lv_has ls 9 [(0, .ref (ad 0))]) {H : Heap} {locs : List Loc} (hP : va_P D vwCl (GM cy ad mt mc mb mo ms mk my mu ma me mr mp mg mw mf ml mq) H) (hS : va_S (Ac ad 71) s.heap H locs) : W p l e ({ frames := 3, cells := 0, slots := 0, locals := 74 } : Room) s m args below meth c H locs 0 0 (MQ below (QR none D (GM cy ad mt q.1 mb mo q.2 mk my mu ma me mr mp mg mw mf ml mq) (Ac ad 71)) args s 0 0 (Ac ad 71)) (F0 m 64 ls []) := by
  obtain ⟨hx, hb, hml, hown, hts, hr, hlk⟩ := id C
  unfold X12_header_64 at h
  refine lv_aload_n hx hb dX12_header_64 rfl (lv_at hl 0 rfl) ?_
  refine cPi (run_V (rest := []) C (kX12_isRight rfl) caX12_isRight w1682 ⟨rfl, rfl, Nat.le_of_ble_eq_true rfl, Nat.le_of_ble_eq_true rfl⟩ hK hN hP (rM0 hK hP) rfl hl.1 rfl (Nat.le_of_ble_eq_true rfl) dX12_header_65 ⟨Nat.zero_le _, Nat.zero_le _⟩) ?_
  refine lv_if_ne (tgt := 72) hx hb dX12_header_68 (by decide) (fun c1 => ?_) (fun c1 => ?_)
  · rw [if_neg c1] at h
    refine lv_aload_n hx hb dX12_header_72 rfl (lv_at hl 0 rfl) ?_
    refine lv_bipush (v := (40 : Int32)) hx hb dX12_header_73 (by decide) ?_
    refine lv_bipush (v := (8 : Int32)) hx hb dX12_header_75 (by decide) ?_
    obtain ⟨q2, h3, h⟩ := bnd h
    refine cPl (run_V (rest := []) C (kX12_numberAt h3) caX12_numberAt w1686 ⟨rfl, rfl, Nat.le_of_ble_eq_true rfl, Nat.le_of_ble_eq_true rfl⟩ hK hN hP (rM0 hK hP) rfl hl.1 rfl (Nat.le_of_ble_eq_true rfl) dX12_header_77 ⟨Nat.zero_le _, Nat.zero_le _⟩) ?_
    refine lv_lstore_n (lv' := [(1, .long q2), (0, .ref (ad 0))]) hx hb dX12_header_80 rfl hl (by decide) rfl (fun ls hl => ?_)
    refine lv_aload_n hx hb dX12_header_81 rfl (lv_at hl 1 rfl) ?_
    refine lv_bipush (v := (60 : Int32)) hx hb dX12_header_82 (by decide) ?_
    refine lv_iconst (v := (2 : Int32)) hx hb dX12_header_84 (by decide) ?_
    obtain ⟨q4, h5, h⟩ := bnd h
    refine cPl (run_V (rest := []) C (kX12_numberAt h5) caX12_numberAt w1686 ⟨rfl, rfl, Nat.le_of_ble_eq_true rfl, Nat.le_of_ble_eq_true rfl⟩ hK hN hP (rM0 hK hP) rfl hl.1 rfl (Nat.le_of_ble_eq_true rfl) dX12_header_85 ⟨Nat.zero_le _, Nat.zero_le _⟩) ?_
    refine lv_l2i (v := ((q4).toInt32)) hx hb dX12_header_88 rfl ?_
    refine lv_istore_n (lv' := [(3, .int ((q4).toInt32)), (1, .long q2), (0, .ref (ad 0))]) hx hb dX12_header_89 rfl hl (by decide) rfl (fun ls hl => ?_)
    refine lv_aload_n hx hb dX12_header_90 rfl (lv_at hl 2 rfl) ?_
    refine lv_bipush (v := (62 : Int32)) hx hb dX12_header_91 (by decide) ?_
    refine lv_iconst (v := (2 : Int32)) hx hb dX12_header_93 (by decide) ?_
    obtain ⟨q6, h7, h⟩ := bnd h
    refine cPl (run_V (rest := []) C (kX12_numberAt h7) caX12_numberAt w1686 ⟨rfl, rfl, Nat.le_of_ble_eq_true rfl, Nat.le_of_ble_eq_true rfl⟩ hK hN hP (rM0 hK hP) rfl hl.1 rfl (Nat.le_of_ble_eq_true rfl) dX12_header_94 ⟨Nat.zero_le _, Nat.zero_le _⟩) ?_
    refine lv_l2i (v := ((q6).toInt32)) hx hb dX12_header_97 rfl ?_
    refine lv_istore (lv' := [(4, .int ((q6).toInt32)), (3, .int ((q4).toInt32)), (1, .long q2), (0, .ref (ad 0))]) hx hb dX12_header_98 hl (by decide) rfl (fun ls hl => ?_)
    refine lv_aload_n hx hb dX12_header_100 rfl (lv_at hl 3 rfl) ?_
    refine lv_bipush (v := (58 : Int32)) hx hb dX12_header_101 (by decide) ?_
    refine lv_iconst (v := (2 : Int32)) hx hb dX12_header_103 (by decide) ?_
    obtain ⟨q8, h9, h⟩ := bnd h
    refine cPl (run_V (rest := []) C (kX12_numberAt h9) caX12_numberAt w1686 ⟨rfl, rfl, Nat.le_of_ble_eq_true rfl, Nat.le_of_ble_eq_true rfl⟩ hK hN hP (rM0 hK hP) rfl hl.1 rfl (Nat.le_of_ble_eq_true rfl) dX12_header_104 ⟨Nat.zero_le _, Nat.zero_le _⟩) ?_
    refine lv_ldc2 (v := (64 : Int64)) hx hb hown (hts _ (List.mem_cons_of_mem _ w1690)) dX12_header_107 ?_
    refine lc_eq (tgt := 121) hx hb dX12_header_110 dX12_header_111 (by decide) (fun c10 => ?_) (fun c10 => ?_)
    · rw [if_pos c10] at h
      exact bX12_header_121 C hI hK hN h (lv_sub hl [3, 2, 1, 0] rfl) hP hS
    · rw [if_neg c10] at h
      refine lv_aload_n hx hb dX12_header_114 rfl (lv_at hl 3 rfl) ?_
      refine lv_iconst (v := (2 : Int32)) hx hb dX12_header_115 (by decide) ?_
      refine lv_bipush (v := (58 : Int32)) hx hb dX12_header_116 (by decide) ?_
      obtain ⟨q11, h12, h⟩ := lets h
      refine cRv (run_V (rest := []) C (kX12_fail hI h12) caX12_fail w1678 ⟨rfl, rfl, Nat.le_of_ble_eq_true rfl, Nat.le_of_ble_eq_true rfl⟩ hK hN hP (rM0 hK hP) rfl hl.1 rfl (Nat.le_of_ble_eq_true rfl) dX12_header_118 ⟨Nat.zero_le _, Nat.zero_le _⟩) hS (fun H locs hP hS => ?_)
      have hP : va_P D vwCl (GM cy ad mt q11 mb mo ms mk my mu ma me mr mp mg mw mf ml mq) H := hP
      exact bX12_header_121 C hI hK hN h (lv_sub hl [3, 2, 1, 0] rfl) hP hS
  · rw [if_pos c1] at h
    obtain rfl := Option.some.inj h
    exact W.vret hx hb hr (fun t ht _ => ⟨rfl, by rw [ht]; exact hP, hS.F ht⟩) hS.2.2 dX12_header_71 hlk
def X12_header_42 (mb : Tmb) (mk : Tmk)  (mc : Tmc) (ms : Tms)  : Option (Tmc × Tms) := (if (X12_isRight mc) = 0 then X12_header_64 mb mk mc ms else (if mb.2.2 < (64 : Int32) then (letq (X12_fail mc (1 : Int32) (0 : Int32)) fun q3 => X12_header_64 mb mk q3 ms) else X12_header_64 mb mk mc ms))
set_option maxRecDepth 20000 in
theorem bX12_header_42 (C : Cx p s m args meth c cX12_header 9 none RX12 (.code yX12_header cX12_header 9 none)) (hI : Apart ad 71) (hK : va_K D vwCl (tysX cy) s) (hN : NW s)  {q : Tmc × Tms}   (h : X12_header_42 mb mk mc ms = some q) {ls : Array Slot} (hl : lv_has ls 9 [(0, .ref (ad 0))]) {H : Heap} {locs : List Loc} (hP : va_P D vwCl (GM cy ad mt mc mb mo ms mk my mu ma me mr mp mg mw mf ml mq) H) (hS : va_S (Ac ad 71) s.heap H locs) : W p l e ({ frames := 3, cells := 0, slots := 0, locals := 74 } : Room) s m args below meth c H locs 0 0 (MQ below (QR none D (GM cy ad mt q.1 mb mo q.2 mk my mu ma me mr mp mg mw mf ml mq) (Ac ad 71)) args s 0 0 (Ac ad 71)) (F0 m 42 ls []) := by
  obtain ⟨hx, hb, hml, hown, hts, hr, hlk⟩ := id C
  unfold X12_header_42 at h
  refine lv_aload_n hx hb dX12_header_42 rfl (lv_at hl 0 rfl) ?_
  refine cPi (run_V (rest := []) C (kX12_isRight rfl) caX12_isRight w1682 ⟨rfl, rfl, Nat.le_of_ble_eq_true rfl, Nat.le_of_ble_eq_true rfl⟩ hK hN hP (rM0 hK hP) rfl hl.1 rfl (Nat.le_of_ble_eq_true rfl) dX12_header_43 ⟨Nat.zero_le _, Nat.zero_le _⟩) ?_
  refine lv_if_eq (tgt := 64) hx hb dX12_header_46 (by decide) (fun c1 => ?_) (fun c1 => ?_)
  · rw [if_pos c1] at h
    exact bX12_header_64 C hI hK hN h (lv_sub hl [0] rfl) hP hS
  · rw [if_neg c1] at h
    refine lv_aload_n hx hb dX12_header_49 rfl (lv_at hl 0 rfl) ?_
    refine gM0_9 (v := mb.2.2) C hK hP rfl w1376 dX12_header_50 ?_
    refine lv_bipush (v := (64 : Int32)) hx hb dX12_header_53 (by decide) ?_
    refine b_icmp_ge (tgt := 64) hx hb dX12_header_55 (by decide) (fun c2 => ?_) (fun c2 => ?_)
    · rw [if_neg c2] at h
      exact bX12_header_64 C hI hK hN h (lv_sub hl [0] rfl) hP hS
    · rw [if_pos c2] at h
      refine lv_aload_n hx hb dX12_header_58 rfl (lv_at hl 0 rfl) ?_
      refine lv_iconst (v := (1 : Int32)) hx hb dX12_header_59 (by decide) ?_
      refine lv_iconst (v := (0 : Int32)) hx hb dX12_header_60 (by decide) ?_
      obtain ⟨q3, h4, h⟩ := lets h
      refine cRv (run_V (rest := []) C (kX12_fail hI h4) caX12_fail w1678 ⟨rfl, rfl, Nat.le_of_ble_eq_true rfl, Nat.le_of_ble_eq_true rfl⟩ hK hN hP (rM0 hK hP) rfl hl.1 rfl (Nat.le_of_ble_eq_true rfl) dX12_header_61 ⟨Nat.zero_le _, Nat.zero_le _⟩) hS (fun H locs hP hS => ?_)
      have hP : va_P D vwCl (GM cy ad mt q3 mb mo ms mk my mu ma me mr mp mg mw mf ml mq) H := hP
      exact bX12_header_64 C hI hK hN h (lv_sub hl [0] rfl) hP hS
def X12_header_2b (mb : Tmb) (mk : Tmk)  (k2 : Tmc → Tms → Int32 → Option (Tmc × Tms)) (mc : Tmc) (ms : Tms) (v1 : Int32) : Option (Tmc × Tms) := (if v1 < (7 : Int32) then (if v1 < mb.2.2 then ((X12_byteOf mb v1).bind fun q3 => (if inb v1 7 = true then (if q3 = (mk.2 (v1).toNatClampNeg) then X12_header_36 mb mk k2 mc ms v1 else (letq (X12_fail mc (2 : Int32) v1) fun q7 => X12_header_36 mb mk k2 q7 ms v1)) else none)) else X12_header_42 mb mk mc ms) else X12_header_42 mb mk mc ms)
def X12_header_2 (mb : Tmb) (mk : Tmk)  (n : Nat) (st : Tmc × Tms × Int32) : Option (Tmc × Tms) := lp (fun rec st => X12_header_2b mb mk  (fun a0 a1 a2 => rec (a0, a1, a2)) st.1 st.2.1 st.2.2) n st
set_option maxRecDepth 20000 in
theorem bX12_header_2 (C : Cx p s m args meth c cX12_header 9 none RX12 (.code yX12_header cX12_header 9 none)) (hI : Apart ad 71) (hK : va_K D vwCl (tysX cy) s) (hN : NW s)  {q : Tmc × Tms}  : ∀ (n : Nat) {mc : Tmc} {ms : Tms} {v1 : Int32}, X12_header_2 mb mk  n (mc, ms, v1) = some q → ∀ {ls : Array Slot}, lv_has ls 9 [(0, .ref (ad 0)), (1, .int v1)] → ∀ {H : Heap} {locs : List Loc}, va_P D vwCl (GM cy ad mt mc mb mo ms mk my mu ma me mr mp mg mw mf ml mq) H → va_S (Ac ad 71) s.heap H locs → W p l e ({ frames := 3, cells := 0, slots := 0, locals := 74 } : Room) s m args below meth c H locs 0 0 (MQ below (QR none D (GM cy ad mt q.1 mb mo q.2 mk my mu ma me mr mp mg mw mf ml mq) (Ac ad 71)) args s 0 0 (Ac ad 71)) (F0 m 2 ls []) := by
  obtain ⟨hx, hb, hml, hown, hts, hr, hlk⟩ := id C
  intro n
  induction n with
  | zero =>
    intro mc ms v1 h ls hl H locs hP hS
    have h : (none : Option (Tmc × Tms)) = some q := h
    cases h
  | succ n ih =>
    intro mc ms v1 h ls hl H locs hP hS
    have h : X12_header_2b mb mk  (fun a0 a1 a2 => X12_header_2 mb mk  n (a0, a1, a2)) mc ms v1 = some q := h
    unfold X12_header_2b at h
    refine lv_iload_n hx hb dX12_header_2 rfl (lv_at hl 1 rfl) ?_
    refine lv_bipush (v := (7 : Int32)) hx hb dX12_header_3 (by decide) ?_
    refine b_icmp_ge (tgt := 42) hx hb dX12_header_5 (by decide) (fun c1 => ?_) (fun c1 => ?_)
    · rw [if_neg c1] at h
      exact bX12_header_42 C hI hK hN h (lv_sub hl [0] rfl) hP hS
    · rw [if_pos c1] at h
      refine lv_iload_n hx hb dX12_header_8 rfl (lv_at hl 1 rfl) ?_
      refine lv_aload_n hx hb dX12_header_9 rfl (lv_at hl 0 rfl) ?_
      refine gM0_9 (v := mb.2.2) C hK hP rfl w1376 dX12_header_10 ?_
      refine b_icmp_ge (tgt := 42) hx hb dX12_header_13 (by decide) (fun c2 => ?_) (fun c2 => ?_)
      · rw [if_neg c2] at h
        exact bX12_header_42 C hI hK hN h (lv_sub hl [0] rfl) hP hS
      · rw [if_pos c2] at h
        refine lv_aload_n hx hb dX12_header_16 rfl (lv_at hl 0 rfl) ?_
        refine lv_iload_n hx hb dX12_header_17 rfl (lv_at hl 1 rfl) ?_
        obtain ⟨q3, h4, h⟩ := bnd h
        refine cPi (run_V (rest := []) C (kX12_byteOf h4) caX12_byteOf w1674 ⟨rfl, rfl, Nat.le_of_ble_eq_true rfl, Nat.le_of_ble_eq_true rfl⟩ hK hN hP (rM0 hK hP) rfl hl.1 rfl (Nat.le_of_ble_eq_true rfl) dX12_header_18 ⟨Nat.zero_le _, Nat.zero_le _⟩) ?_
        refine lv_aload_n hx hb dX12_header_21 rfl (lv_at hl 0 rfl) ?_
        refine gM0_23 C hK hP w1390 dX12_header_22 ?_
        refine lv_iload_n hx hb dX12_header_25 rfl (lv_at hl 1 rfl) ?_
        obtain ⟨n5, h⟩ := grd h
        refine aM16 (f := mk.2) C hK hP rfl n5 dX12_header_26 ?_
        refine lv_icmp_eq (tgt := 36) hx hb dX12_header_27 (by decide) (fun c6 => ?_) (fun c6 => ?_)
        · rw [if_pos c6] at h
          exact bX12_header_36 C hI hK hN @ih h (lv_sub hl [0, 1] rfl) hP hS
        · rw [if_neg c6] at h
          refine lv_aload_n hx hb dX12_header_30 rfl (lv_at hl 0 rfl) ?_
          refine lv_iconst (v := (2 : Int32)) hx hb dX12_header_31 (by decide) ?_
          refine lv_iload_n hx hb dX12_header_32 rfl (lv_at hl 1 rfl) ?_
          obtain ⟨q7, h8, h⟩ := lets h
          refine cRv (run_V (rest := []) C (kX12_fail hI h8) caX12_fail w1678 ⟨rfl, rfl, Nat.le_of_ble_eq_true rfl, Nat.le_of_ble_eq_true rfl⟩ hK hN hP (rM0 hK hP) rfl hl.1 rfl (Nat.le_of_ble_eq_true rfl) dX12_header_33 ⟨Nat.zero_le _, Nat.zero_le _⟩) hS (fun H locs hP hS => ?_)
          have hP : va_P D vwCl (GM cy ad mt q7 mb mo ms mk my mu ma me mr mp mg mw mf ml mq) H := hP
          exact bX12_header_36 C hI hK hN @ih h (lv_sub hl [0, 1] rfl) hP hS
def X12_header (mc : Tmc) (mb : Tmb) (ms : Tms) (mk : Tmk)  : Option (Tmc × Tms) := X12_header_2 mb mk FU (mc, ms, (0 : Int32))
set_option maxRecDepth 20000 in
theorem bX12_header_0 (C : Cx p s m args meth c cX12_header 9 none RX12 (.code yX12_header cX12_header 9 none)) (hI : Apart ad 71) (hK : va_K D vwCl (tysX cy) s) (hN : NW s)  {q : Tmc × Tms}   (h : X12_header mc mb ms mk = some q) {ls : Array Slot} (hl : lv_has ls 9 [(0, .ref (ad 0))]) {H : Heap} {locs : List Loc} (hP : va_P D vwCl (GM cy ad mt mc mb mo ms mk my mu ma me mr mp mg mw mf ml mq) H) (hS : va_S (Ac ad 71) s.heap H locs) : W p l e ({ frames := 3, cells := 0, slots := 0, locals := 74 } : Room) s m args below meth c H locs 0 0 (MQ below (QR none D (GM cy ad mt q.1 mb mo q.2 mk my mu ma me mr mp mg mw mf ml mq) (Ac ad 71)) args s 0 0 (Ac ad 71)) (F0 m 0 ls []) := by
  obtain ⟨hx, hb, hml, hown, hts, hr, hlk⟩ := id C
  unfold X12_header at h
  refine lv_iconst (v := (0 : Int32)) hx hb dX12_header_0 (by decide) ?_
  refine lv_istore_n (lv' := [(1, .int (0 : Int32)), (0, .ref (ad 0))]) hx hb dX12_header_1 rfl hl (by decide) rfl (fun ls hl => ?_)
  exact bX12_header_2 C hI hK hN FU h (lv_sub hl [1, 0] rfl) hP hS
theorem kX12_header (hI : Apart ad 71)  {q : Tmc × Tms} (h : X12_header mc mb ms mk = some q) : Met l yX12_header (.code yX12_header cX12_header 9 none :: WA) ({ frames := 3, cells := 0, slots := 0, locals := 74 } : Room) (va_Pc [.ref (ad 0)] (PR D cy (GM cy ad mt mc mb mo ms mk my mu ma me mr mp mg mw mf ml mq))) (QR none D (GM cy ad mt q.1 mb mo q.2 mk my mu ma me mr mp mg mw mf ml mq) (Ac ad 71)) 0 0 (Ac ad 71) :=
  met_of (by decide) (Nat.le_of_ble_eq_true rfl) (fun p e s m below meth c ls C hP hK hN hl => bX12_header_0 C hI hK hN h hl hP va_S.rf)
def X12_endOf (ms : Tms) (v1 : Int32) : Option (Int32) := (if inb v1 7 = true then (if inb v1 7 = true then some ((ms.2.2.2.2.1 (v1).toNatClampNeg) + (ms.2.2.2.2.2 (v1).toNatClampNeg)) else none) else none)
set_option maxRecDepth 20000 in
theorem bX12_endOf_0 (C : Cx p s m args meth c cX12_endOf 2 (some .int) RX12 (.code yX12_endOf cX12_endOf 2 (some .int))) (hK : va_K D vwCl (tysX cy) s) (hN : NW s)  {q : Int32}  {v1 : Int32} (h : X12_endOf ms v1 = some q) {ls : Array Slot} (hl : lv_has ls 2 [(0, .ref (ad 0)), (1, .int v1)]) (hP : va_P D vwCl (GM cy ad mt mc mb mo ms mk my mu ma me mr mp mg mw mf ml mq) s.heap) : W p l e ({ frames := 0, cells := 0, slots := 0, locals := 0 } : Room) s m args below meth c s.heap [] 0 0 (MQ below (QP (some (.int q))) args s 0 0 (fun _ => False)) (F0 m 0 ls []) := by
  obtain ⟨hx, hb, hml, hown, hts, hr, hlk⟩ := id C
  unfold X12_endOf at h
  refine lv_aload_n hx hb dX12_endOf_0 rfl (lv_at hl 0 rfl) ?_
  refine gM0_20 C hK hP w1387 dX12_endOf_1 ?_
  refine lv_iload_n hx hb dX12_endOf_4 rfl (lv_at hl 1 rfl) ?_
  obtain ⟨n1, h⟩ := grd h
  refine aM13 (f := ms.2.2.2.2.1) C hK hP rfl n1 dX12_endOf_5 ?_
  refine lv_aload_n hx hb dX12_endOf_6 rfl (lv_at hl 0 rfl) ?_
  refine gM0_21 C hK hP w1388 dX12_endOf_7 ?_
  refine lv_iload_n hx hb dX12_endOf_10 rfl (lv_at hl 1 rfl) ?_
  obtain ⟨n2, h⟩ := grd h
  refine aM14 (f := ms.2.2.2.2.2) C hK hP rfl n2 dX12_endOf_11 ?_
  refine lv_iadd hx hb dX12_endOf_12 ?_
  obtain rfl := Option.some.inj h
  exact W.iret hx hb hr (fun t ht _ => ⟨rfl, ht⟩) (fun _ h9 => by cases h9) dX12_endOf_13 hlk
theorem kX12_endOf  {v1 : Int32} {q : Int32} (h : X12_endOf ms v1 = some q) : Met l yX12_endOf (.code yX12_endOf cX12_endOf 2 (some .int) :: WA) ({ frames := 0, cells := 0, slots := 0, locals := 0 } : Room) (va_Pc [.ref (ad 0), .int v1] (PR D cy (GM cy ad mt mc mb mo ms mk my mu ma me mr mp mg mw mf ml mq))) (QP (some (.int q))) 0 0 (fun _ => False) :=
  met_of (by decide) (Nat.le_of_ble_eq_true rfl) (fun p e s m below meth c ls C hP hK hN hl => bX12_endOf_0 C hK hN h hl hP)
def X12_matter_81 (mb : Tmb) (ms : Tms)  (mc : Tmc) (my : Tmy) (v1 : Int32) : Option (Tmc × Tmy) := (letq (X12_fail mc (2 : Int32) v1) fun q1 => some (q1, my))
set_option maxRecDepth 20000 in
theorem bX12_matter_81 (C : Cx p s m args meth c cX12_matter 10 none RX12 (.code yX12_matter cX12_matter 10 none)) (hI : Apart ad 71) (hK : va_K D vwCl (tysX cy) s) (hN : NW s)  {q : Tmc × Tmy}  {v1 : Int32} (h : X12_matter_81 mb ms mc my v1 = some q) {ls : Array Slot} (hl : lv_has ls 10 [(0, .ref (ad 0)), (1, .int v1)]) {H : Heap} {locs : List Loc} (hP : va_P D vwCl (GM cy ad mt mc mb mo ms mk my mu ma me mr mp mg mw mf ml mq) H) (hS : va_S (Ac ad 71) s.heap H locs) : W p l e ({ frames := 2, cells := 0, slots := 0, locals := 46 } : Room) s m args below meth c H locs 0 0 (MQ below (QR none D (GM cy ad mt q.1 mb mo ms mk q.2 mu ma me mr mp mg mw mf ml mq) (Ac ad 71)) args s 0 0 (Ac ad 71)) (F0 m 81 ls []) := by
  obtain ⟨hx, hb, hml, hown, hts, hr, hlk⟩ := id C
  unfold X12_matter_81 at h
  refine lv_aload_n hx hb dX12_matter_81 rfl (lv_at hl 0 rfl) ?_
  refine lv_iconst (v := (2 : Int32)) hx hb dX12_matter_82 (by decide) ?_
  refine lv_iload_n hx hb dX12_matter_83 rfl (lv_at hl 1 rfl) ?_
  obtain ⟨q1, h2, h⟩ := lets h
  refine cRv (run_V (rest := []) C (kX12_fail hI h2) caX12_fail w1678 ⟨rfl, rfl, Nat.le_of_ble_eq_true rfl, Nat.le_of_ble_eq_true rfl⟩ hK hN hP (rM0 hK hP) rfl hl.1 rfl (Nat.le_of_ble_eq_true rfl) dX12_matter_84 ⟨Nat.zero_le _, Nat.zero_le _⟩) hS (fun H locs hP hS => ?_)
  have hP : va_P D vwCl (GM cy ad mt q1 mb mo ms mk my mu ma me mr mp mg mw mf ml mq) H := hP
  obtain rfl := Option.some.inj h
  exact W.vret hx hb hr (fun t ht _ => ⟨rfl, by rw [ht]; exact hP, hS.F ht⟩) hS.2.2 dX12_matter_87 hlk
def X12_matter_159 (mb : Tmb) (ms : Tms)  (mc : Tmc) (my : Tmy) (v1 : Int32) (z0 : Int32) : Option (Tmc × Tmy) := (letq (X12_fail mc z0 v1) fun q1 => some (q1, my))
set_option maxRecDepth 20000 in
theorem bX12_matter_159 (C : Cx p s m args meth c cX12_matter 10 none RX12 (.code yX12_matter cX12_matter 10 none)) (hI : Apart ad 71) (hK : va_K D vwCl (tysX cy) s) (hN : NW s)  {q : Tmc × Tmy}  {v1 : Int32} {z0 : Int32} (h : X12_matter_159 mb ms mc my v1 z0 = some q) {ls : Array Slot} (hl : lv_has ls 10 [(1, .int v1)]) {H : Heap} {locs : List Loc} (hP : va_P D vwCl (GM cy ad mt mc mb mo ms mk my mu ma me mr mp mg mw mf ml mq) H) (hS : va_S (Ac ad 71) s.heap H locs) : W p l e ({ frames := 2, cells := 0, slots := 0, locals := 46 } : Room) s m args below meth c H locs 0 0 (MQ below (QR none D (GM cy ad mt q.1 mb mo ms mk q.2 mu ma me mr mp mg mw mf ml mq) (Ac ad 71)) args s 0 0 (Ac ad 71)) (F0 m 159 ls [.int z0, .ref (ad 0)]) := by
  obtain ⟨hx, hb, hml, hown, hts, hr, hlk⟩ := id C
  unfold X12_matter_159 at h
  refine lv_iload_n hx hb dX12_matter_159 rfl (lv_at hl 0 rfl) ?_
  obtain ⟨q1, h2, h⟩ := lets h
  refine cRv (run_V (rest := []) C (kX12_fail hI h2) caX12_fail w1678 ⟨rfl, rfl, Nat.le_of_ble_eq_true rfl, Nat.le_of_ble_eq_true rfl⟩ hK hN hP (rM0 hK hP) rfl hl.1 rfl (Nat.le_of_ble_eq_true rfl) dX12_matter_160 ⟨Nat.zero_le _, Nat.zero_le _⟩) hS (fun H locs hP hS => ?_)
  have hP : va_P D vwCl (GM cy ad mt q1 mb mo ms mk my mu ma me mr mp mg mw mf ml mq) H := hP
  obtain rfl := Option.some.inj h
  exact W.vret hx hb hr (fun t ht _ => ⟨rfl, by rw [ht]; exact hP, hS.F ht⟩) hS.2.2 dX12_matter_163 hlk
def X12_matter_132 (mb : Tmb) (ms : Tms)  (mc : Tmc) (my : Tmy) (v1 : Int32) (v2 : Int64) (v4 : Int64) (v6 : Int64) (z0 : Int32) : Option (Tmc × Tmy) := (if z0 = (-1 : Int32) then (if inb (1 : Int32) 7 = true then (if v6 < (((ms.2.2.2.2.2 ((1 : Int32)).toNatClampNeg)).toInt64) then X12_matter_159 mb ms mc my v1 (1 : Int32) else X12_matter_159 mb ms mc my v1 (3 : Int32)) else none) else (if inb mb.2.1 2 = true then (if (my.1 (mb.2.1).toNatClampNeg) = (100 : Int32) then (letq (X12_fail mc (4 : Int32) v1) fun q12 => some (q12, my)) else (if inb mb.2.1 2 = true then (if inb (((100 : Int32) * mb.2.1) + (my.1 (mb.2.1).toNatClampNeg)) 200 = true then (if inb (((100 : Int32) * mb.2.1) + (my.1 (mb.2.1).toNatClampNeg)) 200 = true then (if inb (1 : Int32) 7 = true then (if inb (((100 : Int32) * mb.2.1) + (my.1 (mb.2.1).toNatClampNeg)) 200 = true then (if inb (((100 : Int32) * mb.2.1) + (my.1 (mb.2.1).toNatClampNeg)) 200 = true then (if inb mb.2.1 2 = true then (if inb mb.2.1 2 = true then some (mc, ((upd my.1 (mb.2.1).toNatClampNeg ((my.1 (mb.2.1).toNatClampNeg) + (1 : Int32))), (vp_updL my.2.1 ((((100 : Int32) * mb.2.1) + (my.1 (mb.2.1).toNatClampNeg))).toNatClampNeg v2), (vp_updL my.2.2.1 ((((100 : Int32) * mb.2.1) + (my.1 (mb.2.1).toNatClampNeg))).toNatClampNeg v4), (upd my.2.2.2.1 ((((100 : Int32) * mb.2.1) + (my.1 (mb.2.1).toNatClampNeg))).toNatClampNeg ((ms.2.2.2.2.1 ((1 : Int32)).toNatClampNeg) + ((v6).toInt32))), (upd my.2.2.2.2 ((((100 : Int32) * mb.2.1) + (my.1 (mb.2.1).toNatClampNeg))).toNatClampNeg z0))) else none) else none) else none) else none) else none) else none) else none) else none)) else none))
set_option maxRecDepth 20000 in
theorem bX12_matter_132 (C : Cx p s m args meth c cX12_matter 10 none RX12 (.code yX12_matter cX12_matter 10 none)) (hI : Apart ad 71) (hK : va_K D vwCl (tysX cy) s) (hN : NW s)  {q : Tmc × Tmy}  {v1 : Int32} {v2 : Int64} {v4 : Int64} {v6 : Int64} {z0 : Int32} (h : X12_matter_132 mb ms mc my v1 v2 v4 v6 z0 = some q) {ls : Array Slot} (hl : lv_has ls 10 [(0, .ref (ad 0)), (1, .int v1), (2, .long v2), (4, .long v4), (6, .long v6)]) {H : Heap} {locs : List Loc} (hP : va_P D vwCl (GM cy ad mt mc mb mo ms mk my mu ma me mr mp mg mw mf ml mq) H) (hS : va_S (Ac ad 71) s.heap H locs) : W p l e ({ frames := 2, cells := 0, slots := 0, locals := 46 } : Room) s m args below meth c H locs 0 0 (MQ below (QR none D (GM cy ad mt q.1 mb mo ms mk q.2 mu ma me mr mp mg mw mf ml mq) (Ac ad 71)) args s 0 0 (Ac ad 71)) (F0 m 132 ls [.int z0]) := by
  obtain ⟨hx, hb, hml, hown, hts, hr, hlk⟩ := id C
  unfold X12_matter_132 at h
  refine lv_istore (lv' := [(8, .int z0), (0, .ref (ad 0)), (1, .int v1), (2, .long v2), (4, .long v4), (6, .long v6)]) hx hb dX12_matter_132 hl (by decide) rfl (fun ls hl => ?_)
  refine lv_iload hx hb dX12_matter_134 (lv_at hl 0 rfl) ?_
  refine lv_iconst (v := (-1 : Int32)) hx hb dX12_matter_136 (by decide) ?_
  refine lv_icmp_ne (tgt := 164) hx hb dX12_matter_137 (by decide) (fun c1 => ?_) (fun c1 => ?_)
  · rw [if_neg c1] at h
    refine lv_aload_n hx hb dX12_matter_164 rfl (lv_at hl 1 rfl) ?_
    refine gM0_11 C hK hP w1378 dX12_matter_165 ?_
    refine lv_aload_n hx hb dX12_matter_168 rfl (lv_at hl 1 rfl) ?_
    refine gM0_6 (v := mb.2.1) C hK hP rfl w1373 dX12_matter_169 ?_
    obtain ⟨n2, h⟩ := grd h
    refine aM4 (f := my.1) C hK hP rfl n2 dX12_matter_172 ?_
    refine lv_bipush (v := (100 : Int32)) hx hb dX12_matter_173 (by decide) ?_
    refine lv_icmp_ne (tgt := 185) hx hb dX12_matter_175 (by decide) (fun c3 => ?_) (fun c3 => ?_)
    · rw [if_neg c3] at h
      refine lv_bipush (v := (100 : Int32)) hx hb dX12_matter_185 (by decide) ?_
      refine lv_aload_n hx hb dX12_matter_187 rfl (lv_at hl 1 rfl) ?_
      refine gM0_6 (v := mb.2.1) C hK hP rfl w1373 dX12_matter_188 ?_
      refine lv_imul hx hb dX12_matter_191 ?_
      refine lv_aload_n hx hb dX12_matter_192 rfl (lv_at hl 1 rfl) ?_
      refine gM0_11 C hK hP w1378 dX12_matter_193 ?_
      refine lv_aload_n hx hb dX12_matter_196 rfl (lv_at hl 1 rfl) ?_
      refine gM0_6 (v := mb.2.1) C hK hP rfl w1373 dX12_matter_197 ?_
      obtain ⟨n4, h⟩ := grd h
      refine aM4 (f := my.1) C hK hP rfl n4 dX12_matter_200 ?_
      refine lv_iadd hx hb dX12_matter_201 ?_
      refine lv_istore (lv' := [(9, .int (((100 : Int32) * mb.2.1) + (my.1 (mb.2.1).toNatClampNeg))), (8, .int z0), (0, .ref (ad 0)), (1, .int v1), (2, .long v2), (4, .long v4), (6, .long v6)]) hx hb dX12_matter_202 hl (by decide) rfl (fun ls hl => ?_)
      refine lv_aload_n hx hb dX12_matter_204 rfl (lv_at hl 2 rfl) ?_
      refine gM0_24 C hK hP w1391 dX12_matter_205 ?_
      refine lv_iload hx hb dX12_matter_208 (lv_at hl 0 rfl) ?_
      refine lv_lload_n hx hb dX12_matter_210 rfl (lv_at hl 4 rfl) ?_
      obtain ⟨n5, h⟩ := grd h
      refine sM17 (f := my.2.1) C hI hK hP hS rfl n5 dX12_matter_211 (fun H locs hP hS => ?_)
      have hP : va_P D vwCl (GM cy ad mt mc mb mo ms mk (my.1, (vp_updL my.2.1 ((((100 : Int32) * mb.2.1) + (my.1 (mb.2.1).toNatClampNeg))).toNatClampNeg v2), my.2.2.1, my.2.2.2.1, my.2.2.2.2) mu ma me mr mp mg mw mf ml mq) H := hP
      refine lv_aload_n hx hb dX12_matter_212 rfl (lv_at hl 2 rfl) ?_
      refine gM0_25 C hK hP w1392 dX12_matter_213 ?_
      refine lv_iload hx hb dX12_matter_216 (lv_at hl 0 rfl) ?_
      refine lv_lload hx hb dX12_matter_218 (lv_at hl 5 rfl) ?_
      obtain ⟨n6, h⟩ := grd h
      refine sM18 (f := my.2.2.1) C hI hK hP hS rfl n6 dX12_matter_220 (fun H locs hP hS => ?_)
      have hP : va_P D vwCl (GM cy ad mt mc mb mo ms mk (my.1, (vp_updL my.2.1 ((((100 : Int32) * mb.2.1) + (my.1 (mb.2.1).toNatClampNeg))).toNatClampNeg v2), (vp_updL my.2.2.1 ((((100 : Int32) * mb.2.1) + (my.1 (mb.2.1).toNatClampNeg))).toNatClampNeg v4), my.2.2.2.1, my.2.2.2.2) mu ma me mr mp mg mw mf ml mq) H := hP
      refine lv_aload_n hx hb dX12_matter_221 rfl (lv_at hl 2 rfl) ?_
      refine gM0_26 C hK hP w1393 dX12_matter_222 ?_
      refine lv_iload hx hb dX12_matter_225 (lv_at hl 0 rfl) ?_
      refine lv_aload_n hx hb dX12_matter_227 rfl (lv_at hl 2 rfl) ?_
      refine gM0_20 C hK hP w1387 dX12_matter_228 ?_
      refine lv_iconst (v := (1 : Int32)) hx hb dX12_matter_231 (by decide) ?_
      obtain ⟨n7, h⟩ := grd h
      refine aM13 (f := ms.2.2.2.2.1) C hK hP rfl n7 dX12_matter_232 ?_
      refine lv_lload hx hb dX12_matter_233 (lv_at hl 6 rfl) ?_
      refine lv_l2i (v := ((v6).toInt32)) hx hb dX12_matter_235 rfl ?_
      refine lv_iadd hx hb dX12_matter_236 ?_
      obtain ⟨n8, h⟩ := grd h
      refine sM19 (f := my.2.2.2.1) C hI hK hP hS rfl n8 dX12_matter_237 (fun H locs hP hS => ?_)
      have hP : va_P D vwCl (GM cy ad mt mc mb mo ms mk (my.1, (vp_updL my.2.1 ((((100 : Int32) * mb.2.1) + (my.1 (mb.2.1).toNatClampNeg))).toNatClampNeg v2), (vp_updL my.2.2.1 ((((100 : Int32) * mb.2.1) + (my.1 (mb.2.1).toNatClampNeg))).toNatClampNeg v4), (upd my.2.2.2.1 ((((100 : Int32) * mb.2.1) + (my.1 (mb.2.1).toNatClampNeg))).toNatClampNeg ((ms.2.2.2.2.1 ((1 : Int32)).toNatClampNeg) + ((v6).toInt32))), my.2.2.2.2) mu ma me mr mp mg mw mf ml mq) H := hP
      refine lv_aload_n hx hb dX12_matter_238 rfl (lv_at hl 2 rfl) ?_
      refine gM0_27 C hK hP w1394 dX12_matter_239 ?_
      refine lv_iload hx hb dX12_matter_242 (lv_at hl 0 rfl) ?_
      refine lv_iload hx hb dX12_matter_244 (lv_at hl 1 rfl) ?_
      obtain ⟨n9, h⟩ := grd h
      refine sM20 (f := my.2.2.2.2) C hI hK hP hS rfl n9 dX12_matter_246 (fun H locs hP hS => ?_)
      have hP : va_P D vwCl (GM cy ad mt mc mb mo ms mk (my.1, (vp_updL my.2.1 ((((100 : Int32) * mb.2.1) + (my.1 (mb.2.1).toNatClampNeg))).toNatClampNeg v2), (vp_updL my.2.2.1 ((((100 : Int32) * mb.2.1) + (my.1 (mb.2.1).toNatClampNeg))).toNatClampNeg v4), (upd my.2.2.2.1 ((((100 : Int32) * mb.2.1) + (my.1 (mb.2.1).toNatClampNeg))).toNatClampNeg ((ms.2.2.2.2.1 ((1 : Int32)).toNatClampNeg) + ((v6).toInt32))), (upd my.2.2.2.2 ((((100 : Int32) * mb.2.1) + (my.1 (mb.2.1).toNatClampNeg))).toNatClampNeg z0)) mu ma me mr mp mg mw mf ml mq) H := hP
      refine lv_aload_n hx hb dX12_matter_247 rfl (lv_at hl 2 rfl) ?_
      refine gM0_11 C hK hP w1378 dX12_matter_248 ?_
      refine lv_aload_n hx hb dX12_matter_251 rfl (lv_at hl 2 rfl) ?_
      refine gM0_6 (v := mb.2.1) C hK hP rfl w1373 dX12_matter_252 ?_
      refine lv_dup2_11 hx hb dX12_matter_255 rfl rfl ?_
      obtain ⟨n10, h⟩ := grd h
      refine aM4 (f := my.1) C hK hP rfl n10 dX12_matter_256 ?_
      refine lv_iconst (v := (1 : Int32)) hx hb dX12_matter_257 (by decide) ?_
      refine lv_iadd hx hb dX12_matter_258 ?_
      obtain ⟨n11, h⟩ := grd h
      refine sM4 (f := my.1) C hI hK hP hS rfl n11 dX12_matter_259 (fun H locs hP hS => ?_)
      have hP : va_P D vwCl (GM cy ad mt mc mb mo ms mk ((upd my.1 (mb.2.1).toNatClampNeg ((my.1 (mb.2.1).toNatClampNeg) + (1 : Int32))), (vp_updL my.2.1 ((((100 : Int32) * mb.2.1) + (my.1 (mb.2.1).toNatClampNeg))).toNatClampNeg v2), (vp_updL my.2.2.1 ((((100 : Int32) * mb.2.1) + (my.1 (mb.2.1).toNatClampNeg))).toNatClampNeg v4), (upd my.2.2.2.1 ((((100 : Int32) * mb.2.1) + (my.1 (mb.2.1).toNatClampNeg))).toNatClampNeg ((ms.2.2.2.2.1 ((1 : Int32)).toNatClampNeg) + ((v6).toInt32))), (upd my.2.2.2.2 ((((100 : Int32) * mb.2.1) + (my.1 (mb.2.1).toNatClampNeg))).toNatClampNeg z0)) mu ma me mr mp mg mw mf ml mq) H := hP
      obtain rfl := Option.some.inj h
      exact W.vret hx hb hr (fun t ht _ => ⟨rfl, by rw [ht]; exact hP, hS.F ht⟩) hS.2.2 dX12_matter_260 hlk
    · rw [if_pos c3] at h
      refine lv_aload_n hx hb dX12_matter_178 rfl (lv_at hl 1 rfl) ?_
      refine lv_iconst (v := (4 : Int32)) hx hb dX12_matter_179 (by decide) ?_
      refine lv_iload_n hx hb dX12_matter_180 rfl (lv_at hl 2 rfl) ?_
      obtain ⟨q12, h13, h⟩ := lets h
      refine cRv (run_V (rest := []) C (kX12_fail hI h13) caX12_fail w1678 ⟨rfl, rfl, Nat.le_of_ble_eq_true rfl, Nat.le_of_ble_eq_true rfl⟩ hK hN hP (rM0 hK hP) rfl hl.1 rfl (Nat.le_of_ble_eq_true rfl) dX12_matter_181 ⟨Nat.zero_le _, Nat.zero_le _⟩) hS (fun H locs hP hS => ?_)
      have hP : va_P D vwCl (GM cy ad mt q12 mb mo ms mk my mu ma me mr mp mg mw mf ml mq) H := hP
      obtain rfl := Option.some.inj h
      exact W.vret hx hb hr (fun t ht _ => ⟨rfl, by rw [ht]; exact hP, hS.F ht⟩) hS.2.2 dX12_matter_184 hlk
  · rw [if_pos c1] at h
    refine lv_aload_n hx hb dX12_matter_140 rfl (lv_at hl 1 rfl) ?_
    refine lv_lload hx hb dX12_matter_141 (lv_at hl 5 rfl) ?_
    refine lv_aload_n hx hb dX12_matter_143 rfl (lv_at hl 1 rfl) ?_
    refine gM0_21 C hK hP w1388 dX12_matter_144 ?_
    refine lv_iconst (v := (1 : Int32)) hx hb dX12_matter_147 (by decide) ?_
    obtain ⟨n14, h⟩ := grd h
    refine aM14 (f := ms.2.2.2.2.2) C hK hP rfl n14 dX12_matter_148 ?_
    refine lv_i2l (v := (((ms.2.2.2.2.2 ((1 : Int32)).toNatClampNeg)).toInt64)) hx hb dX12_matter_149 rfl ?_
    refine lc_lt (tgt := 158) hx hb dX12_matter_150 dX12_matter_151 (by decide) (fun c15 => ?_) (fun c15 => ?_)
    · rw [if_pos c15] at h
      refine lv_iconst (v := (1 : Int32)) hx hb dX12_matter_158 (by decide) ?_
      exact bX12_matter_159 C hI hK hN h (lv_sub hl [2] rfl) hP hS
    · rw [if_neg c15] at h
      refine lv_iconst (v := (3 : Int32)) hx hb dX12_matter_154 (by decide) ?_
      refine lv_goto (tgt := 159) hx hb dX12_matter_155 (by decide) ?_
      exact bX12_matter_159 C hI hK hN h (lv_sub hl [2] rfl) hP hS
def X12_matter (mc : Tmc) (mb : Tmb) (ms : Tms) (my : Tmy) (v1 : Int32) : Option (Tmc × Tmy) := ((X12_numberAt mb (v1 + (8 : Int32)) (8 : Int32)).bind fun q1 => ((X12_numberAt mb (v1 + (16 : Int32)) (8 : Int32)).bind fun q3 => ((X12_byteOf mb (v1 + (4 : Int32))).bind fun q5 => (if (q5 - q5 / (16 : Int32) * (16 : Int32)) = (2 : Int32) then ((X12_numberAt mb (v1 + (6 : Int32)) (2 : Int32)).bind fun q8 => (if q8 = (0 : Int64) then some (mc, my) else (if q3 = (0 : Int64) then some (mc, my) else (if q1 < (0 : Int64) then X12_matter_81 mb ms mc my v1 else (if q3 < (0 : Int64) then X12_matter_81 mb ms mc my v1 else (if (q1 + q3) < (0 : Int64) then X12_matter_81 mb ms mc my v1 else ((X12_numberAt mb v1 (4 : Int32)).bind fun q15 => (if inb (1 : Int32) 7 = true then (if q15 < (((ms.2.2.2.2.2 ((1 : Int32)).toNatClampNeg)).toInt64) then (if inb (1 : Int32) 7 = true then ((X12_endOf ms (1 : Int32)).bind fun q20 => ((X12_stringAt mb ((ms.2.2.2.2.1 ((1 : Int32)).toNatClampNeg) + ((q15).toInt32)) q20).bind fun q22 => X12_matter_132 mb ms mc my v1 q1 q3 q15 q22)) else none) else X12_matter_132 mb ms mc my v1 q1 q3 q15 (-1 : Int32)) else none)))))))) else some (mc, my)))))
set_option maxRecDepth 20000 in
theorem bX12_matter_0 (C : Cx p s m args meth c cX12_matter 10 none RX12 (.code yX12_matter cX12_matter 10 none)) (hI : Apart ad 71) (hK : va_K D vwCl (tysX cy) s) (hN : NW s)  {q : Tmc × Tmy}  {v1 : Int32} (h : X12_matter mc mb ms my v1 = some q) {ls : Array Slot} (hl : lv_has ls 10 [(0, .ref (ad 0)), (1, .int v1)]) {H : Heap} {locs : List Loc} (hP : va_P D vwCl (GM cy ad mt mc mb mo ms mk my mu ma me mr mp mg mw mf ml mq) H) (hS : va_S (Ac ad 71) s.heap H locs) : W p l e ({ frames := 2, cells := 0, slots := 0, locals := 46 } : Room) s m args below meth c H locs 0 0 (MQ below (QR none D (GM cy ad mt q.1 mb mo ms mk q.2 mu ma me mr mp mg mw mf ml mq) (Ac ad 71)) args s 0 0 (Ac ad 71)) (F0 m 0 ls []) := by
  obtain ⟨hx, hb, hml, hown, hts, hr, hlk⟩ := id C
  unfold X12_matter at h
  refine lv_aload_n hx hb dX12_matter_0 rfl (lv_at hl 0 rfl) ?_
  refine lv_iload_n hx hb dX12_matter_1 rfl (lv_at hl 1 rfl) ?_
  refine lv_bipush (v := (8 : Int32)) hx hb dX12_matter_2 (by decide) ?_
  refine lv_iadd hx hb dX12_matter_4 ?_
  refine lv_bipush (v := (8 : Int32)) hx hb dX12_matter_5 (by decide) ?_
  obtain ⟨q1, h2, h⟩ := bnd h
  refine cPl (run_V (rest := []) C (kX12_numberAt h2) caX12_numberAt w1686 ⟨rfl, rfl, Nat.le_of_ble_eq_true rfl, Nat.le_of_ble_eq_true rfl⟩ hK hN hP (rM0 hK hP) rfl hl.1 rfl (Nat.le_of_ble_eq_true rfl) dX12_matter_7 ⟨Nat.zero_le _, Nat.zero_le _⟩) ?_
  refine lv_lstore_n (lv' := [(2, .long q1), (0, .ref (ad 0)), (1, .int v1)]) hx hb dX12_matter_10 rfl hl (by decide) rfl (fun ls hl => ?_)
  refine lv_aload_n hx hb dX12_matter_11 rfl (lv_at hl 1 rfl) ?_
  refine lv_iload_n hx hb dX12_matter_12 rfl (lv_at hl 2 rfl) ?_
  refine lv_bipush (v := (16 : Int32)) hx hb dX12_matter_13 (by decide) ?_
  refine lv_iadd hx hb dX12_matter_15 ?_
  refine lv_bipush (v := (8 : Int32)) hx hb dX12_matter_16 (by decide) ?_
  obtain ⟨q3, h4, h⟩ := bnd h
  refine cPl (run_V (rest := []) C (kX12_numberAt h4) caX12_numberAt w1686 ⟨rfl, rfl, Nat.le_of_ble_eq_true rfl, Nat.le_of_ble_eq_true rfl⟩ hK hN hP (rM0 hK hP) rfl hl.1 rfl (Nat.le_of_ble_eq_true rfl) dX12_matter_18 ⟨Nat.zero_le _, Nat.zero_le _⟩) ?_
  refine lv_lstore (lv' := [(4, .long q3), (2, .long q1), (0, .ref (ad 0)), (1, .int v1)]) hx hb dX12_matter_21 hl (by decide) rfl (fun ls hl => ?_)
  refine lv_aload_n hx hb dX12_matter_23 rfl (lv_at hl 2 rfl) ?_
  refine lv_iload_n hx hb dX12_matter_24 rfl (lv_at hl 3 rfl) ?_
  refine lv_iconst (v := (4 : Int32)) hx hb dX12_matter_25 (by decide) ?_
  refine lv_iadd hx hb dX12_matter_26 ?_
  obtain ⟨q5, h6, h⟩ := bnd h
  refine cPi (run_V (rest := []) C (kX12_byteOf h6) caX12_byteOf w1674 ⟨rfl, rfl, Nat.le_of_ble_eq_true rfl, Nat.le_of_ble_eq_true rfl⟩ hK hN hP (rM0 hK hP) rfl hl.1 rfl (Nat.le_of_ble_eq_true rfl) dX12_matter_27 ⟨Nat.zero_le _, Nat.zero_le _⟩) ?_
  refine lv_bipush (v := (16 : Int32)) hx hb dX12_matter_30 (by decide) ?_
  refine lv_irem hx hb dX12_matter_32 (by decide) ?_
  refine lv_iconst (v := (2 : Int32)) hx hb dX12_matter_33 (by decide) ?_
  refine lv_icmp_ne (tgt := 58) hx hb dX12_matter_34 (by decide) (fun c7 => ?_) (fun c7 => ?_)
  · rw [if_neg c7] at h
    obtain rfl := Option.some.inj h
    exact W.vret hx hb hr (fun t ht _ => ⟨rfl, by rw [ht]; exact hP, hS.F ht⟩) hS.2.2 dX12_matter_58 hlk
  · rw [if_pos c7] at h
    refine lv_aload_n hx hb dX12_matter_37 rfl (lv_at hl 2 rfl) ?_
    refine lv_iload_n hx hb dX12_matter_38 rfl (lv_at hl 3 rfl) ?_
    refine lv_bipush (v := (6 : Int32)) hx hb dX12_matter_39 (by decide) ?_
    refine lv_iadd hx hb dX12_matter_41 ?_
    refine lv_iconst (v := (2 : Int32)) hx hb dX12_matter_42 (by decide) ?_
    obtain ⟨q8, h9, h⟩ := bnd h
    refine cPl (run_V (rest := []) C (kX12_numberAt h9) caX12_numberAt w1686 ⟨rfl, rfl, Nat.le_of_ble_eq_true rfl, Nat.le_of_ble_eq_true rfl⟩ hK hN hP (rM0 hK hP) rfl hl.1 rfl (Nat.le_of_ble_eq_true rfl) dX12_matter_43 ⟨Nat.zero_le _, Nat.zero_le _⟩) ?_
    refine lv_lconst (v := (0 : Int64)) hx hb dX12_matter_46 (by decide) ?_
    refine lc_eq (tgt := 58) hx hb dX12_matter_47 dX12_matter_48 (by decide) (fun c10 => ?_) (fun c10 => ?_)
    · rw [if_pos c10] at h
      obtain rfl := Option.some.inj h
      exact W.vret hx hb hr (fun t ht _ => ⟨rfl, by rw [ht]; exact hP, hS.F ht⟩) hS.2.2 dX12_matter_58 hlk
    · rw [if_neg c10] at h
      refine lv_lload hx hb dX12_matter_51 (lv_at hl 0 rfl) ?_
      refine lv_lconst (v := (0 : Int64)) hx hb dX12_matter_53 (by decide) ?_
      refine lc_ne (tgt := 59) hx hb dX12_matter_54 dX12_matter_55 (by decide) (fun c11 => ?_) (fun c11 => ?_)
      · rw [if_neg c11] at h
        refine lv_lload_n hx hb dX12_matter_59 rfl (lv_at hl 1 rfl) ?_
        refine lv_lconst (v := (0 : Int64)) hx hb dX12_matter_60 (by decide) ?_
        refine lc_lt (tgt := 81) hx hb dX12_matter_61 dX12_matter_62 (by decide) (fun c12 => ?_) (fun c12 => ?_)
        · rw [if_pos c12] at h
          exact bX12_matter_81 C hI hK hN h (lv_sub hl [2, 3] rfl) hP hS
        · rw [if_neg c12] at h
          refine lv_lload hx hb dX12_matter_65 (lv_at hl 0 rfl) ?_
          refine lv_lconst (v := (0 : Int64)) hx hb dX12_matter_67 (by decide) ?_
          refine lc_lt (tgt := 81) hx hb dX12_matter_68 dX12_matter_69 (by decide) (fun c13 => ?_) (fun c13 => ?_)
          · rw [if_pos c13] at h
            exact bX12_matter_81 C hI hK hN h (lv_sub hl [2, 3] rfl) hP hS
          · rw [if_neg c13] at h
            refine lv_lload_n hx hb dX12_matter_72 rfl (lv_at hl 1 rfl) ?_
            refine lv_lload hx hb dX12_matter_73 (lv_at hl 0 rfl) ?_
            refine lv_ladd hx hb dX12_matter_75 ?_
            refine lv_lconst (v := (0 : Int64)) hx hb dX12_matter_76 (by decide) ?_
            refine lc_ge (tgt := 88) hx hb dX12_matter_77 dX12_matter_78 (by decide) (fun c14 => ?_) (fun c14 => ?_)
            · rw [if_neg c14] at h
              refine lv_aload_n hx hb dX12_matter_88 rfl (lv_at hl 2 rfl) ?_
              refine lv_iload_n hx hb dX12_matter_89 rfl (lv_at hl 3 rfl) ?_
              refine lv_iconst (v := (4 : Int32)) hx hb dX12_matter_90 (by decide) ?_
              obtain ⟨q15, h16, h⟩ := bnd h
              refine cPl (run_V (rest := []) C (kX12_numberAt h16) caX12_numberAt w1686 ⟨rfl, rfl, Nat.le_of_ble_eq_true rfl, Nat.le_of_ble_eq_true rfl⟩ hK hN hP (rM0 hK hP) rfl hl.1 rfl (Nat.le_of_ble_eq_true rfl) dX12_matter_91 ⟨Nat.zero_le _, Nat.zero_le _⟩) ?_
              refine lv_lstore (lv' := [(6, .long q15), (4, .long q3), (2, .long q1), (0, .ref (ad 0)), (1, .int v1)]) hx hb dX12_matter_94 hl (by decide) rfl (fun ls hl => ?_)
              refine lv_lload hx hb dX12_matter_96 (lv_at hl 0 rfl) ?_
              refine lv_aload_n hx hb dX12_matter_98 rfl (lv_at hl 3 rfl) ?_
              refine gM0_21 C hK hP w1388 dX12_matter_99 ?_
              refine lv_iconst (v := (1 : Int32)) hx hb dX12_matter_102 (by decide) ?_
              obtain ⟨n17, h⟩ := grd h
              refine aM14 (f := ms.2.2.2.2.2) C hK hP rfl n17 dX12_matter_103 ?_
              refine lv_i2l (v := (((ms.2.2.2.2.2 ((1 : Int32)).toNatClampNeg)).toInt64)) hx hb dX12_matter_104 rfl ?_
              refine lc_lt (tgt := 113) hx hb dX12_matter_105 dX12_matter_106 (by decide) (fun c18 => ?_) (fun c18 => ?_)
              · rw [if_pos c18] at h
                refine lv_aload_n hx hb dX12_matter_113 rfl (lv_at hl 3 rfl) ?_
                refine lv_aload_n hx hb dX12_matter_114 rfl (lv_at hl 3 rfl) ?_
                refine gM0_20 C hK hP w1387 dX12_matter_115 ?_
                refine lv_iconst (v := (1 : Int32)) hx hb dX12_matter_118 (by decide) ?_
                obtain ⟨n19, h⟩ := grd h
                refine aM13 (f := ms.2.2.2.2.1) C hK hP rfl n19 dX12_matter_119 ?_
                refine lv_lload hx hb dX12_matter_120 (lv_at hl 0 rfl) ?_
                refine lv_l2i (v := ((q15).toInt32)) hx hb dX12_matter_122 rfl ?_
                refine lv_iadd hx hb dX12_matter_123 ?_
                refine lv_aload_n hx hb dX12_matter_124 rfl (lv_at hl 3 rfl) ?_
                refine lv_iconst (v := (1 : Int32)) hx hb dX12_matter_125 (by decide) ?_
                obtain ⟨q20, h21, h⟩ := bnd h
                refine cPi (run_V (rest := [.int ((ms.2.2.2.2.1 ((1 : Int32)).toNatClampNeg) + ((q15).toInt32)), .ref (ad 0)]) C (kX12_endOf h21) caX12_endOf w1712 ⟨rfl, rfl, Nat.le_of_ble_eq_true rfl, Nat.le_of_ble_eq_true rfl⟩ hK hN hP (rM0 hK hP) rfl hl.1 rfl (Nat.le_of_ble_eq_true rfl) dX12_matter_126 ⟨Nat.zero_le _, Nat.zero_le _⟩) ?_
                obtain ⟨q22, h23, h⟩ := bnd h
                refine cPi (run_V (rest := []) C (kX12_stringAt h23) caX12_stringAt w1696 ⟨rfl, rfl, Nat.le_of_ble_eq_true rfl, Nat.le_of_ble_eq_true rfl⟩ hK hN hP (rM0 hK hP) rfl hl.1 rfl (Nat.le_of_ble_eq_true rfl) dX12_matter_129 ⟨Nat.zero_le _, Nat.zero_le _⟩) ?_
                exact bX12_matter_132 C hI hK hN h (lv_sub hl [3, 4, 2, 1, 0] rfl) hP hS
              · rw [if_neg c18] at h
                refine lv_iconst (v := (-1 : Int32)) hx hb dX12_matter_109 (by decide) ?_
                refine lv_goto (tgt := 132) hx hb dX12_matter_110 (by decide) ?_
                exact bX12_matter_132 C hI hK hN h (lv_sub hl [3, 4, 2, 1, 0] rfl) hP hS
            · rw [if_pos c14] at h
              exact bX12_matter_81 C hI hK hN h (lv_sub hl [2, 3] rfl) hP hS
      · rw [if_pos c11] at h
        obtain rfl := Option.some.inj h
        exact W.vret hx hb hr (fun t ht _ => ⟨rfl, by rw [ht]; exact hP, hS.F ht⟩) hS.2.2 dX12_matter_58 hlk
theorem kX12_matter (hI : Apart ad 71) {v1 : Int32} {q : Tmc × Tmy} (h : X12_matter mc mb ms my v1 = some q) : Met l yX12_matter (.code yX12_matter cX12_matter 10 none :: WA) ({ frames := 2, cells := 0, slots := 0, locals := 46 } : Room) (va_Pc [.ref (ad 0), .int v1] (PR D cy (GM cy ad mt mc mb mo ms mk my mu ma me mr mp mg mw mf ml mq))) (QR none D (GM cy ad mt q.1 mb mo ms mk q.2 mu ma me mr mp mg mw mf ml mq) (Ac ad 71)) 0 0 (Ac ad 71) :=
  met_of (by decide) (Nat.le_of_ble_eq_true rfl) (fun p e s m below meth c ls C hP hK hN hl => bX12_matter_0 C hI hK hN h hl hP va_S.rf)
def X12_symbols_45 (mb : Tmb) (ms : Tms)  (mc : Tmc) (my : Tmy) (v1 : Int32) : Option (Tmc × Tmy) := (if (X12_isRight mc) = 0 then some (mc, my) else (if inb (0 : Int32) 7 = true then (if ((ms.2.2.2.2.2 ((0 : Int32)).toNatClampNeg) - (ms.2.2.2.2.2 ((0 : Int32)).toNatClampNeg) / (24 : Int32) * (24 : Int32)) = 0 then some (mc, my) else (if inb (0 : Int32) 7 = true then (letq (X12_fail mc (1 : Int32) ((ms.2.2.2.2.1 ((0 : Int32)).toNatClampNeg) + ((24 : Int32) * v1))) fun q5 => some (q5, my)) else none)) else none))
set_option maxRecDepth 20000 in
theorem bX12_symbols_45 (C : Cx p s m args meth c cX12_symbols 3 none RX12 (.code yX12_symbols cX12_symbols 3 none)) (hI : Apart ad 71) (hK : va_K D vwCl (tysX cy) s) (hN : NW s)  {q : Tmc × Tmy}  {v1 : Int32} (h : X12_symbols_45 mb ms mc my v1 = some q) {ls : Array Slot} (hl : lv_has ls 3 [(0, .ref (ad 0)), (1, .int v1)]) {H : Heap} {locs : List Loc} (hP : va_P D vwCl (GM cy ad mt mc mb mo ms mk my mu ma me mr mp mg mw mf ml mq) H) (hS : va_S (Ac ad 71) s.heap H locs) : W p l e ({ frames := 3, cells := 0, slots := 0, locals := 75 } : Room) s m args below meth c H locs 0 0 (MQ below (QR none D (GM cy ad mt q.1 mb mo ms mk q.2 mu ma me mr mp mg mw mf ml mq) (Ac ad 71)) args s 0 0 (Ac ad 71)) (F0 m 45 ls []) := by
  obtain ⟨hx, hb, hml, hown, hts, hr, hlk⟩ := id C
  unfold X12_symbols_45 at h
  refine lv_aload_n hx hb dX12_symbols_45 rfl (lv_at hl 0 rfl) ?_
  refine cPi (run_V (rest := []) C (kX12_isRight rfl) caX12_isRight w1682 ⟨rfl, rfl, Nat.le_of_ble_eq_true rfl, Nat.le_of_ble_eq_true rfl⟩ hK hN hP (rM0 hK hP) rfl hl.1 rfl (Nat.le_of_ble_eq_true rfl) dX12_symbols_46 ⟨Nat.zero_le _, Nat.zero_le _⟩) ?_
  refine lv_if_eq (tgt := 80) hx hb dX12_symbols_49 (by decide) (fun c1 => ?_) (fun c1 => ?_)
  · rw [if_pos c1] at h
    obtain rfl := Option.some.inj h
    exact W.vret hx hb hr (fun t ht _ => ⟨rfl, by rw [ht]; exact hP, hS.F ht⟩) hS.2.2 dX12_symbols_80 hlk
  · rw [if_neg c1] at h
    refine lv_aload_n hx hb dX12_symbols_52 rfl (lv_at hl 0 rfl) ?_
    refine gM0_21 C hK hP w1388 dX12_symbols_53 ?_
    refine lv_iconst (v := (0 : Int32)) hx hb dX12_symbols_56 (by decide) ?_
    obtain ⟨n2, h⟩ := grd h
    refine aM14 (f := ms.2.2.2.2.2) C hK hP rfl n2 dX12_symbols_57 ?_
    refine lv_bipush (v := (24 : Int32)) hx hb dX12_symbols_58 (by decide) ?_
    refine lv_irem hx hb dX12_symbols_60 (by decide) ?_
    refine lv_if_eq (tgt := 80) hx hb dX12_symbols_61 (by decide) (fun c3 => ?_) (fun c3 => ?_)
    · rw [if_pos c3] at h
      obtain rfl := Option.some.inj h
      exact W.vret hx hb hr (fun t ht _ => ⟨rfl, by rw [ht]; exact hP, hS.F ht⟩) hS.2.2 dX12_symbols_80 hlk
    · rw [if_neg c3] at h
      refine lv_aload_n hx hb dX12_symbols_64 rfl (lv_at hl 0 rfl) ?_
      refine lv_iconst (v := (1 : Int32)) hx hb dX12_symbols_65 (by decide) ?_
      refine lv_aload_n hx hb dX12_symbols_66 rfl (lv_at hl 0 rfl) ?_
      refine gM0_20 C hK hP w1387 dX12_symbols_67 ?_
      refine lv_iconst (v := (0 : Int32)) hx hb dX12_symbols_70 (by decide) ?_
      obtain ⟨n4, h⟩ := grd h
      refine aM13 (f := ms.2.2.2.2.1) C hK hP rfl n4 dX12_symbols_71 ?_
      refine lv_bipush (v := (24 : Int32)) hx hb dX12_symbols_72 (by decide) ?_
      refine lv_iload_n hx hb dX12_symbols_74 rfl (lv_at hl 1 rfl) ?_
      refine lv_imul hx hb dX12_symbols_75 ?_
      refine lv_iadd hx hb dX12_symbols_76 ?_
      obtain ⟨q5, h6, h⟩ := lets h
      refine cRv (run_V (rest := []) C (kX12_fail hI h6) caX12_fail w1678 ⟨rfl, rfl, Nat.le_of_ble_eq_true rfl, Nat.le_of_ble_eq_true rfl⟩ hK hN hP (rM0 hK hP) rfl hl.1 rfl (Nat.le_of_ble_eq_true rfl) dX12_symbols_77 ⟨Nat.zero_le _, Nat.zero_le _⟩) hS (fun H locs hP hS => ?_)
      have hP : va_P D vwCl (GM cy ad mt q5 mb mo ms mk my mu ma me mr mp mg mw mf ml mq) H := hP
      obtain rfl := Option.some.inj h
      exact W.vret hx hb hr (fun t ht _ => ⟨rfl, by rw [ht]; exact hP, hS.F ht⟩) hS.2.2 dX12_symbols_80 hlk
def X12_symbols_12b (mb : Tmb) (ms : Tms)  (k12 : Tmc → Tmy → Int32 → Int32 → Option (Tmc × Tmy)) (mc : Tmc) (my : Tmy) (v1 : Int32) (v2 : Int32) : Option (Tmc × Tmy) := (if v2 < v1 then (if (X12_isRight mc) = 0 then X12_symbols_45 mb ms mc my v1 else (if inb (0 : Int32) 7 = true then ((X12_matter mc mb ms my ((ms.2.2.2.2.1 ((0 : Int32)).toNatClampNeg) + ((24 : Int32) * v2))).bind fun q4 => k12 q4.1 q4.2 v1 (v2 + (1 : Int32))) else none)) else X12_symbols_45 mb ms mc my v1)
def X12_symbols_12 (mb : Tmb) (ms : Tms)  (n : Nat) (st : Tmc × Tmy × Int32 × Int32) : Option (Tmc × Tmy) := lp (fun rec st => X12_symbols_12b mb ms  (fun a0 a1 a2 a3 => rec (a0, a1, a2, a3)) st.1 st.2.1 st.2.2.1 st.2.2.2) n st
set_option maxRecDepth 20000 in
theorem bX12_symbols_12 (C : Cx p s m args meth c cX12_symbols 3 none RX12 (.code yX12_symbols cX12_symbols 3 none)) (hI : Apart ad 71) (hK : va_K D vwCl (tysX cy) s) (hN : NW s)  {q : Tmc × Tmy}  : ∀ (n : Nat) {mc : Tmc} {my : Tmy} {v1 : Int32} {v2 : Int32}, X12_symbols_12 mb ms  n (mc, my, v1, v2) = some q → ∀ {ls : Array Slot}, lv_has ls 3 [(0, .ref (ad 0)), (1, .int v1), (2, .int v2)] → ∀ {H : Heap} {locs : List Loc}, va_P D vwCl (GM cy ad mt mc mb mo ms mk my mu ma me mr mp mg mw mf ml mq) H → va_S (Ac ad 71) s.heap H locs → W p l e ({ frames := 3, cells := 0, slots := 0, locals := 75 } : Room) s m args below meth c H locs 0 0 (MQ below (QR none D (GM cy ad mt q.1 mb mo ms mk q.2 mu ma me mr mp mg mw mf ml mq) (Ac ad 71)) args s 0 0 (Ac ad 71)) (F0 m 12 ls []) := by
  obtain ⟨hx, hb, hml, hown, hts, hr, hlk⟩ := id C
  intro n
  induction n with
  | zero =>
    intro mc my v1 v2 h ls hl H locs hP hS
    have h : (none : Option (Tmc × Tmy)) = some q := h
    cases h
  | succ n ih =>
    intro mc my v1 v2 h ls hl H locs hP hS
    have h : X12_symbols_12b mb ms  (fun a0 a1 a2 a3 => X12_symbols_12 mb ms  n (a0, a1, a2, a3)) mc my v1 v2 = some q := h
    unfold X12_symbols_12b at h
    refine lv_iload_n hx hb dX12_symbols_12 rfl (lv_at hl 2 rfl) ?_
    refine lv_iload_n hx hb dX12_symbols_13 rfl (lv_at hl 1 rfl) ?_
    refine b_icmp_ge (tgt := 45) hx hb dX12_symbols_14 (by decide) (fun c1 => ?_) (fun c1 => ?_)
    · rw [if_neg c1] at h
      exact bX12_symbols_45 C hI hK hN h (lv_sub hl [0, 1] rfl) hP hS
    · rw [if_pos c1] at h
      refine lv_aload_n hx hb dX12_symbols_17 rfl (lv_at hl 0 rfl) ?_
      refine cPi (run_V (rest := []) C (kX12_isRight rfl) caX12_isRight w1682 ⟨rfl, rfl, Nat.le_of_ble_eq_true rfl, Nat.le_of_ble_eq_true rfl⟩ hK hN hP (rM0 hK hP) rfl hl.1 rfl (Nat.le_of_ble_eq_true rfl) dX12_symbols_18 ⟨Nat.zero_le _, Nat.zero_le _⟩) ?_
      refine lv_if_eq (tgt := 45) hx hb dX12_symbols_21 (by decide) (fun c2 => ?_) (fun c2 => ?_)
      · rw [if_pos c2] at h
        exact bX12_symbols_45 C hI hK hN h (lv_sub hl [0, 1] rfl) hP hS
      · rw [if_neg c2] at h
        refine lv_aload_n hx hb dX12_symbols_24 rfl (lv_at hl 0 rfl) ?_
        refine lv_aload_n hx hb dX12_symbols_25 rfl (lv_at hl 0 rfl) ?_
        refine gM0_20 C hK hP w1387 dX12_symbols_26 ?_
        refine lv_iconst (v := (0 : Int32)) hx hb dX12_symbols_29 (by decide) ?_
        obtain ⟨n3, h⟩ := grd h
        refine aM13 (f := ms.2.2.2.2.1) C hK hP rfl n3 dX12_symbols_30 ?_
        refine lv_bipush (v := (24 : Int32)) hx hb dX12_symbols_31 (by decide) ?_
        refine lv_iload_n hx hb dX12_symbols_33 rfl (lv_at hl 2 rfl) ?_
        refine lv_imul hx hb dX12_symbols_34 ?_
        refine lv_iadd hx hb dX12_symbols_35 ?_
        obtain ⟨q4, h5, h⟩ := bnd h
        refine cRv (run_V (rest := []) C (kX12_matter hI h5) caX12_matter w1708 ⟨rfl, rfl, Nat.le_of_ble_eq_true rfl, Nat.le_of_ble_eq_true rfl⟩ hK hN hP (rM0 hK hP) rfl hl.1 rfl (Nat.le_of_ble_eq_true rfl) dX12_symbols_36 ⟨Nat.zero_le _, Nat.zero_le _⟩) hS (fun H locs hP hS => ?_)
        have hP : va_P D vwCl (GM cy ad mt q4.1 mb mo ms mk q4.2 mu ma me mr mp mg mw mf ml mq) H := hP
        refine lv_iinc (v := (v2 + (1 : Int32))) (lv' := [(2, .int (v2 + (1 : Int32))), (0, .ref (ad 0)), (1, .int v1)]) hx hb dX12_symbols_39 hl (k := 2) rfl rfl (by decide) rfl (fun ls hl => ?_)
        refine lv_goto (tgt := 12) hx hb dX12_symbols_42 (by decide) ?_
        exact ih h (lv_sub hl [1, 2, 0] rfl) hP hS
def X12_symbols (mc : Tmc) (mb : Tmb) (ms : Tms) (my : Tmy)  : Option (Tmc × Tmy) := (if inb (0 : Int32) 7 = true then X12_symbols_12 mb ms FU (mc, my, ((ms.2.2.2.2.2 ((0 : Int32)).toNatClampNeg) / (24 : Int32)), (0 : Int32)) else none)
set_option maxRecDepth 20000 in
theorem bX12_symbols_0 (C : Cx p s m args meth c cX12_symbols 3 none RX12 (.code yX12_symbols cX12_symbols 3 none)) (hI : Apart ad 71) (hK : va_K D vwCl (tysX cy) s) (hN : NW s)  {q : Tmc × Tmy}   (h : X12_symbols mc mb ms my = some q) {ls : Array Slot} (hl : lv_has ls 3 [(0, .ref (ad 0))]) {H : Heap} {locs : List Loc} (hP : va_P D vwCl (GM cy ad mt mc mb mo ms mk my mu ma me mr mp mg mw mf ml mq) H) (hS : va_S (Ac ad 71) s.heap H locs) : W p l e ({ frames := 3, cells := 0, slots := 0, locals := 75 } : Room) s m args below meth c H locs 0 0 (MQ below (QR none D (GM cy ad mt q.1 mb mo ms mk q.2 mu ma me mr mp mg mw mf ml mq) (Ac ad 71)) args s 0 0 (Ac ad 71)) (F0 m 0 ls []) := by
  obtain ⟨hx, hb, hml, hown, hts, hr, hlk⟩ := id C
  unfold X12_symbols at h
  refine lv_aload_n hx hb dX12_symbols_0 rfl (lv_at hl 0 rfl) ?_
  refine gM0_21 C hK hP w1388 dX12_symbols_1 ?_
  refine lv_iconst (v := (0 : Int32)) hx hb dX12_symbols_4 (by decide) ?_
  obtain ⟨n1, h⟩ := grd h
  refine aM14 (f := ms.2.2.2.2.2) C hK hP rfl n1 dX12_symbols_5 ?_
  refine lv_bipush (v := (24 : Int32)) hx hb dX12_symbols_6 (by decide) ?_
  refine lv_idiv hx hb dX12_symbols_8 (by decide) ?_
  refine lv_istore_n (lv' := [(1, .int ((ms.2.2.2.2.2 ((0 : Int32)).toNatClampNeg) / (24 : Int32))), (0, .ref (ad 0))]) hx hb dX12_symbols_9 rfl hl (by decide) rfl (fun ls hl => ?_)
  refine lv_iconst (v := (0 : Int32)) hx hb dX12_symbols_10 (by decide) ?_
  refine lv_istore_n (lv' := [(2, .int (0 : Int32)), (1, .int ((ms.2.2.2.2.2 ((0 : Int32)).toNatClampNeg) / (24 : Int32))), (0, .ref (ad 0))]) hx hb dX12_symbols_11 rfl hl (by decide) rfl (fun ls hl => ?_)
  exact bX12_symbols_12 C hI hK hN FU h (lv_sub hl [2, 1, 0] rfl) hP hS
theorem kX12_symbols (hI : Apart ad 71)  {q : Tmc × Tmy} (h : X12_symbols mc mb ms my = some q) : Met l yX12_symbols (.code yX12_symbols cX12_symbols 3 none :: WA) ({ frames := 3, cells := 0, slots := 0, locals := 75 } : Room) (va_Pc [.ref (ad 0)] (PR D cy (GM cy ad mt mc mb mo ms mk my mu ma me mr mp mg mw mf ml mq))) (QR none D (GM cy ad mt q.1 mb mo ms mk q.2 mu ma me mr mp mg mw mf ml mq) (Ac ad 71)) 0 0 (Ac ad 71) :=
  met_of (by decide) (Nat.le_of_ble_eq_true rfl) (fun p e s m below meth c ls C hP hK hN hl => bX12_symbols_0 C hI hK hN h hl hP va_S.rf)
def X12_lengthIn_55 (mb : Tmb)  (mc : Tmc) (v3 : Int64) : Option (Int32 × Tmc) := (if (X12_isRight mc) = 0 then some ((0 : Int32), mc) else some ((mc.1 + ((v3).toInt32)), mc))
set_option maxRecDepth 20000 in
theorem bX12_lengthIn_55 (C : Cx p s m args meth c cX12_lengthIn 5 (some .int) RX12 (.code yX12_lengthIn cX12_lengthIn 5 (some .int))) (hI : Apart ad 71) (hK : va_K D vwCl (tysX cy) s) (hN : NW s)  {q : Int32 × Tmc}  {v3 : Int64} (h : X12_lengthIn_55 mb mc v3 = some q) {ls : Array Slot} (hl : lv_has ls 5 [(0, .ref (ad 0)), (3, .long v3)]) {H : Heap} {locs : List Loc} (hP : va_P D vwCl (GM cy ad mt mc mb mo ms mk my mu ma me mr mp mg mw mf ml mq) H) (hS : va_S (Ac ad 71) s.heap H locs) : W p l e ({ frames := 3, cells := 0, slots := 0, locals := 69 } : Room) s m args below meth c H locs 0 0 (MQ below (QR (some (.int q.1)) D (GM cy ad mt q.2 mb mo ms mk my mu ma me mr mp mg mw mf ml mq) (Ac ad 71)) args s 0 0 (Ac ad 71)) (F0 m 55 ls []) := by
  obtain ⟨hx, hb, hml, hown, hts, hr, hlk⟩ := id C
  unfold X12_lengthIn_55 at h
  refine lv_aload_n hx hb dX12_lengthIn_55 rfl (lv_at hl 0 rfl) ?_
  refine cPi (run_V (rest := []) C (kX12_isRight rfl) caX12_isRight w1682 ⟨rfl, rfl, Nat.le_of_ble_eq_true rfl, Nat.le_of_ble_eq_true rfl⟩ hK hN hP (rM0 hK hP) rfl hl.1 rfl (Nat.le_of_ble_eq_true rfl) dX12_lengthIn_56 ⟨Nat.zero_le _, Nat.zero_le _⟩) ?_
  refine lv_if_eq (tgt := 72) hx hb dX12_lengthIn_59 (by decide) (fun c1 => ?_) (fun c1 => ?_)
  · rw [if_pos c1] at h
    refine lv_iconst (v := (0 : Int32)) hx hb dX12_lengthIn_72 (by decide) ?_
    obtain rfl := Option.some.inj h
    exact W.iret hx hb hr (fun t ht _ => ⟨rfl, by rw [ht]; exact hP, hS.F ht⟩) hS.2.2 dX12_lengthIn_73 hlk
  · rw [if_neg c1] at h
    refine lv_aload_n hx hb dX12_lengthIn_62 rfl (lv_at hl 0 rfl) ?_
    refine gM0_77 (v := mc.1) C hK hP rfl w1444 dX12_lengthIn_63 ?_
    refine lv_lload_n hx hb dX12_lengthIn_66 rfl (lv_at hl 1 rfl) ?_
    refine lv_l2i (v := ((v3).toInt32)) hx hb dX12_lengthIn_67 rfl ?_
    refine lv_iadd hx hb dX12_lengthIn_68 ?_
    refine lv_goto (tgt := 73) hx hb dX12_lengthIn_69 (by decide) ?_
    obtain rfl := Option.some.inj h
    exact W.iret hx hb hr (fun t ht _ => ⟨rfl, by rw [ht]; exact hP, hS.F ht⟩) hS.2.2 dX12_lengthIn_73 hlk
def X12_lengthIn (mc : Tmc) (mb : Tmb) (v1 : Int32) : Option (Int32 × Tmc) := ((X12_number mc mb (4 : Int32)).bind fun q1 => (if (X12_isRight q1.2) = 0 then some ((0 : Int32), q1.2) else (if q1.1 < (4294967280 : Int64) then (if (((v1 - q1.2.1)).toInt64) < q1.1 then (letq (X12_fail q1.2 (1 : Int32) mc.1) fun q6 => X12_lengthIn_55 mb q6 q1.1) else X12_lengthIn_55 mb q1.2 q1.1) else (letq (X12_fail q1.2 (2 : Int32) mc.1) fun q8 => X12_lengthIn_55 mb q8 q1.1))))
set_option maxRecDepth 20000 in
theorem bX12_lengthIn_0 (C : Cx p s m args meth c cX12_lengthIn 5 (some .int) RX12 (.code yX12_lengthIn cX12_lengthIn 5 (some .int))) (hI : Apart ad 71) (hK : va_K D vwCl (tysX cy) s) (hN : NW s)  {q : Int32 × Tmc}  {v1 : Int32} (h : X12_lengthIn mc mb v1 = some q) {ls : Array Slot} (hl : lv_has ls 5 [(0, .ref (ad 0)), (1, .int v1)]) {H : Heap} {locs : List Loc} (hP : va_P D vwCl (GM cy ad mt mc mb mo ms mk my mu ma me mr mp mg mw mf ml mq) H) (hS : va_S (Ac ad 71) s.heap H locs) : W p l e ({ frames := 3, cells := 0, slots := 0, locals := 69 } : Room) s m args below meth c H locs 0 0 (MQ below (QR (some (.int q.1)) D (GM cy ad mt q.2 mb mo ms mk my mu ma me mr mp mg mw mf ml mq) (Ac ad 71)) args s 0 0 (Ac ad 71)) (F0 m 0 ls []) := by
  obtain ⟨hx, hb, hml, hown, hts, hr, hlk⟩ := id C
  unfold X12_lengthIn at h
  refine lv_aload_n hx hb dX12_lengthIn_0 rfl (lv_at hl 0 rfl) ?_
  refine gM0_77 (v := mc.1) C hK hP rfl w1444 dX12_lengthIn_1 ?_
  refine lv_istore_n (lv' := [(2, .int mc.1), (0, .ref (ad 0)), (1, .int v1)]) hx hb dX12_lengthIn_4 rfl hl (by decide) rfl (fun ls hl => ?_)
  refine lv_aload_n hx hb dX12_lengthIn_5 rfl (lv_at hl 1 rfl) ?_
  refine lv_iconst (v := (4 : Int32)) hx hb dX12_lengthIn_6 (by decide) ?_
  obtain ⟨q1, h2, h⟩ := bnd h
  refine cRl (run_V (rest := []) C (kX12_number hI h2) caX12_number w1724 ⟨rfl, rfl, Nat.le_of_ble_eq_true rfl, Nat.le_of_ble_eq_true rfl⟩ hK hN hP (rM0 hK hP) rfl hl.1 rfl (Nat.le_of_ble_eq_true rfl) dX12_lengthIn_7 ⟨Nat.zero_le _, Nat.zero_le _⟩) hS (fun H locs hP hS => ?_)
  have hP : va_P D vwCl (GM cy ad mt q1.2 mb mo ms mk my mu ma me mr mp mg mw mf ml mq) H := hP
  refine lv_lstore_n (lv' := [(3, .long q1.1), (2, .int mc.1), (0, .ref (ad 0)), (1, .int v1)]) hx hb dX12_lengthIn_10 rfl hl (by decide) rfl (fun ls hl => ?_)
  refine lv_aload_n hx hb dX12_lengthIn_11 rfl (lv_at hl 2 rfl) ?_
  refine cPi (run_V (rest := []) C (kX12_isRight rfl) caX12_isRight w1682 ⟨rfl, rfl, Nat.le_of_ble_eq_true rfl, Nat.le_of_ble_eq_true rfl⟩ hK hN hP (rM0 hK hP) rfl hl.1 rfl (Nat.le_of_ble_eq_true rfl) dX12_lengthIn_12 ⟨Nat.zero_le _, Nat.zero_le _⟩) ?_
  refine lv_if_ne (tgt := 20) hx hb dX12_lengthIn_15 (by decide) (fun c3 => ?_) (fun c3 => ?_)
  · rw [if_neg c3] at h
    refine lv_lload_n hx hb dX12_lengthIn_20 rfl (lv_at hl 0 rfl) ?_
    refine lv_ldc2 (v := (4294967280 : Int64)) hx hb hown (hts _ (List.mem_cons_of_mem _ w1728)) dX12_lengthIn_21 ?_
    refine lc_lt (tgt := 37) hx hb dX12_lengthIn_24 dX12_lengthIn_25 (by decide) (fun c4 => ?_) (fun c4 => ?_)
    · rw [if_pos c4] at h
      refine lv_lload_n hx hb dX12_lengthIn_37 rfl (lv_at hl 0 rfl) ?_
      refine lv_iload_n hx hb dX12_lengthIn_38 rfl (lv_at hl 3 rfl) ?_
      refine lv_aload_n hx hb dX12_lengthIn_39 rfl (lv_at hl 2 rfl) ?_
      refine gM0_77 (v := q1.2.1) C hK hP rfl w1444 dX12_lengthIn_40 ?_
      refine lv_isub hx hb dX12_lengthIn_43 ?_
      refine lv_i2l (v := (((v1 - q1.2.1)).toInt64)) hx hb dX12_lengthIn_44 rfl ?_
      refine lc_le (tgt := 55) hx hb dX12_lengthIn_45 dX12_lengthIn_46 (by decide) (fun c5 => ?_) (fun c5 => ?_)
      · rw [if_neg c5] at h
        exact bX12_lengthIn_55 C hI hK hN h (lv_sub hl [2, 0] rfl) hP hS
      · rw [if_pos c5] at h
        refine lv_aload_n hx hb dX12_lengthIn_49 rfl (lv_at hl 2 rfl) ?_
        refine lv_iconst (v := (1 : Int32)) hx hb dX12_lengthIn_50 (by decide) ?_
        refine lv_iload_n hx hb dX12_lengthIn_51 rfl (lv_at hl 1 rfl) ?_
        obtain ⟨q6, h7, h⟩ := lets h
        refine cRv (run_V (rest := []) C (kX12_fail hI h7) caX12_fail w1678 ⟨rfl, rfl, Nat.le_of_ble_eq_true rfl, Nat.le_of_ble_eq_true rfl⟩ hK hN hP (rM0 hK hP) rfl hl.1 rfl (Nat.le_of_ble_eq_true rfl) dX12_lengthIn_52 ⟨Nat.zero_le _, Nat.zero_le _⟩) hS (fun H locs hP hS => ?_)
        have hP : va_P D vwCl (GM cy ad mt q6 mb mo ms mk my mu ma me mr mp mg mw mf ml mq) H := hP
        exact bX12_lengthIn_55 C hI hK hN h (lv_sub hl [2, 0] rfl) hP hS
    · rw [if_neg c4] at h
      refine lv_aload_n hx hb dX12_lengthIn_28 rfl (lv_at hl 2 rfl) ?_
      refine lv_iconst (v := (2 : Int32)) hx hb dX12_lengthIn_29 (by decide) ?_
      refine lv_iload_n hx hb dX12_lengthIn_30 rfl (lv_at hl 1 rfl) ?_
      obtain ⟨q8, h9, h⟩ := lets h
      refine cRv (run_V (rest := []) C (kX12_fail hI h9) caX12_fail w1678 ⟨rfl, rfl, Nat.le_of_ble_eq_true rfl, Nat.le_of_ble_eq_true rfl⟩ hK hN hP (rM0 hK hP) rfl hl.1 rfl (Nat.le_of_ble_eq_true rfl) dX12_lengthIn_31 ⟨Nat.zero_le _, Nat.zero_le _⟩) hS (fun H locs hP hS => ?_)
      have hP : va_P D vwCl (GM cy ad mt q8 mb mo ms mk my mu ma me mr mp mg mw mf ml mq) H := hP
      refine lv_goto (tgt := 55) hx hb dX12_lengthIn_34 (by decide) ?_
      exact bX12_lengthIn_55 C hI hK hN h (lv_sub hl [2, 0] rfl) hP hS
  · rw [if_pos c3] at h
    refine lv_iconst (v := (0 : Int32)) hx hb dX12_lengthIn_18 (by decide) ?_
    obtain rfl := Option.some.inj h
    exact W.iret hx hb hr (fun t ht _ => ⟨rfl, by rw [ht]; exact hP, hS.F ht⟩) hS.2.2 dX12_lengthIn_19 hlk
theorem kX12_lengthIn (hI : Apart ad 71) {v1 : Int32} {q : Int32 × Tmc} (h : X12_lengthIn mc mb v1 = some q) : Met l yX12_lengthIn (.code yX12_lengthIn cX12_lengthIn 5 (some .int) :: WA) ({ frames := 3, cells := 0, slots := 0, locals := 69 } : Room) (va_Pc [.ref (ad 0), .int v1] (PR D cy (GM cy ad mt mc mb mo ms mk my mu ma me mr mp mg mw mf ml mq))) (QR (some (.int q.1)) D (GM cy ad mt q.2 mb mo ms mk my mu ma me mr mp mg mw mf ml mq) (Ac ad 71)) 0 0 (Ac ad 71) :=
  met_of (by decide) (Nat.le_of_ble_eq_true rfl) (fun p e s m below meth c ls C hP hK hN hl => bX12_lengthIn_0 C hI hK hN h hl hP va_S.rf)
def X12_isForm_110     : Int32 := (1 : Int32)
set_option maxRecDepth 20000 in
theorem bX12_isForm_110 (C : Cx p s m args meth c cX12_isForm 2 (some .boolean) RX12 (.code yX12_isForm cX12_isForm 2 (some .boolean))) (hK : va_K D vwCl (tysX cy) s) (hN : NW s)  {q : Int32}   (h : X12_isForm_110 = q) {ls : Array Slot} (hl : lv_has ls 2 []) (hP : va_P D vwCl (GM cy ad mt mc mb mo ms mk my mu ma me mr mp mg mw mf ml mq) s.heap) : W p l e ({ frames := 0, cells := 0, slots := 0, locals := 0 } : Room) s m args below meth c s.heap [] 0 0 (MQ below (QP (some (.int q))) args s 0 0 (fun _ => False)) (F0 m 110 ls []) := by
  obtain ⟨hx, hb, hml, hown, hts, hr, hlk⟩ := id C
  unfold X12_isForm_110 at h
  refine lv_iconst (v := (1 : Int32)) hx hb dX12_isForm_110 (by decide) ?_
  refine lv_goto (tgt := 115) hx hb dX12_isForm_111 (by decide) ?_
  obtain rfl := h
  exact W.zret (ty := .boolean) hx hb hr (by decide) (fun t ht _ => ⟨rfl, ht⟩) (fun _ h9 => by cases h9) dX12_isForm_115 hlk
def X12_isForm  (v0 : Int64) : Int32 := (if v0 = (1 : Int64) then X12_isForm_110 else (if v0 = (11 : Int64) then X12_isForm_110 else (if v0 = (5 : Int64) then X12_isForm_110 else (if v0 = (6 : Int64) then X12_isForm_110 else (if v0 = (7 : Int64) then X12_isForm_110 else (if v0 = (15 : Int64) then X12_isForm_110 else (if v0 = (13 : Int64) then X12_isForm_110 else (if v0 = (8 : Int64) then X12_isForm_110 else (if v0 = (14 : Int64) then X12_isForm_110 else (if v0 = (19 : Int64) then X12_isForm_110 else (if v0 = (23 : Int64) then X12_isForm_110 else (if v0 = (24 : Int64) then X12_isForm_110 else (if v0 = (25 : Int64) then X12_isForm_110 else (if v0 = (33 : Int64) then X12_isForm_110 else (0 : Int32)))))))))))))))
set_option maxRecDepth 20000 in
theorem bX12_isForm_0 (C : Cx p s m args meth c cX12_isForm 2 (some .boolean) RX12 (.code yX12_isForm cX12_isForm 2 (some .boolean))) (hK : va_K D vwCl (tysX cy) s) (hN : NW s)  {q : Int32}  {v0 : Int64} (h : X12_isForm v0 = q) {ls : Array Slot} (hl : lv_has ls 2 [(0, .long v0)]) (hP : va_P D vwCl (GM cy ad mt mc mb mo ms mk my mu ma me mr mp mg mw mf ml mq) s.heap) : W p l e ({ frames := 0, cells := 0, slots := 0, locals := 0 } : Room) s m args below meth c s.heap [] 0 0 (MQ below (QP (some (.int q))) args s 0 0 (fun _ => False)) (F0 m 0 ls []) := by
  obtain ⟨hx, hb, hml, hown, hts, hr, hlk⟩ := id C
  unfold X12_isForm at h
  refine lv_lload_n hx hb dX12_isForm_0 rfl (lv_at hl 0 rfl) ?_
  refine lv_lconst (v := (1 : Int64)) hx hb dX12_isForm_1 (by decide) ?_
  refine lc_eq (tgt := 110) hx hb dX12_isForm_2 dX12_isForm_3 (by decide) (fun c1 => ?_) (fun c1 => ?_)
  · rw [if_pos c1] at h
    exact bX12_isForm_110 C hK hN h (lv_sub hl [] rfl) hP
  · rw [if_neg c1] at h
    refine lv_lload_n hx hb dX12_isForm_6 rfl (lv_at hl 0 rfl) ?_
    refine lv_ldc2 (v := (11 : Int64)) hx hb hown (hts _ (List.mem_cons_of_mem _ w1757)) dX12_isForm_7 ?_
    refine lc_eq (tgt := 110) hx hb dX12_isForm_10 dX12_isForm_11 (by decide) (fun c2 => ?_) (fun c2 => ?_)
    · rw [if_pos c2] at h
      exact bX12_isForm_110 C hK hN h (lv_sub hl [] rfl) hP
    · rw [if_neg c2] at h
      refine lv_lload_n hx hb dX12_isForm_14 rfl (lv_at hl 0 rfl) ?_
      refine lv_ldc2 (v := (5 : Int64)) hx hb hown (hts _ (List.mem_cons_of_mem _ w1758)) dX12_isForm_15 ?_
      refine lc_eq (tgt := 110) hx hb dX12_isForm_18 dX12_isForm_19 (by decide) (fun c3 => ?_) (fun c3 => ?_)
      · rw [if_pos c3] at h
        exact bX12_isForm_110 C hK hN h (lv_sub hl [] rfl) hP
      · rw [if_neg c3] at h
        refine lv_lload_n hx hb dX12_isForm_22 rfl (lv_at hl 0 rfl) ?_
        refine lv_ldc2 (v := (6 : Int64)) hx hb hown (hts _ (List.mem_cons_of_mem _ w1759)) dX12_isForm_23 ?_
        refine lc_eq (tgt := 110) hx hb dX12_isForm_26 dX12_isForm_27 (by decide) (fun c4 => ?_) (fun c4 => ?_)
        · rw [if_pos c4] at h
          exact bX12_isForm_110 C hK hN h (lv_sub hl [] rfl) hP
        · rw [if_neg c4] at h
          refine lv_lload_n hx hb dX12_isForm_30 rfl (lv_at hl 0 rfl) ?_
          refine lv_ldc2 (v := (7 : Int64)) hx hb hown (hts _ (List.mem_cons_of_mem _ w1760)) dX12_isForm_31 ?_
          refine lc_eq (tgt := 110) hx hb dX12_isForm_34 dX12_isForm_35 (by decide) (fun c5 => ?_) (fun c5 => ?_)
          · rw [if_pos c5] at h
            exact bX12_isForm_110 C hK hN h (lv_sub hl [] rfl) hP
          · rw [if_neg c5] at h
            refine lv_lload_n hx hb dX12_isForm_38 rfl (lv_at hl 0 rfl) ?_
            refine lv_ldc2 (v := (15 : Int64)) hx hb hown (hts _ (List.mem_cons_of_mem _ w1761)) dX12_isForm_39 ?_
            refine lc_eq (tgt := 110) hx hb dX12_isForm_42 dX12_isForm_43 (by decide) (fun c6 => ?_) (fun c6 => ?_)
            · rw [if_pos c6] at h
              exact bX12_isForm_110 C hK hN h (lv_sub hl [] rfl) hP
            · rw [if_neg c6] at h
              refine lv_lload_n hx hb dX12_isForm_46 rfl (lv_at hl 0 rfl) ?_
              refine lv_ldc2 (v := (13 : Int64)) hx hb hown (hts _ (List.mem_cons_of_mem _ w1762)) dX12_isForm_47 ?_
              refine lc_eq (tgt := 110) hx hb dX12_isForm_50 dX12_isForm_51 (by decide) (fun c7 => ?_) (fun c7 => ?_)
              · rw [if_pos c7] at h
                exact bX12_isForm_110 C hK hN h (lv_sub hl [] rfl) hP
              · rw [if_neg c7] at h
                refine lv_lload_n hx hb dX12_isForm_54 rfl (lv_at hl 0 rfl) ?_
                refine lv_ldc2 (v := (8 : Int64)) hx hb hown (hts _ (List.mem_cons_of_mem _ w1695)) dX12_isForm_55 ?_
                refine lc_eq (tgt := 110) hx hb dX12_isForm_58 dX12_isForm_59 (by decide) (fun c8 => ?_) (fun c8 => ?_)
                · rw [if_pos c8] at h
                  exact bX12_isForm_110 C hK hN h (lv_sub hl [] rfl) hP
                · rw [if_neg c8] at h
                  refine lv_lload_n hx hb dX12_isForm_62 rfl (lv_at hl 0 rfl) ?_
                  refine lv_ldc2 (v := (14 : Int64)) hx hb hown (hts _ (List.mem_cons_of_mem _ w1763)) dX12_isForm_63 ?_
                  refine lc_eq (tgt := 110) hx hb dX12_isForm_66 dX12_isForm_67 (by decide) (fun c9 => ?_) (fun c9 => ?_)
                  · rw [if_pos c9] at h
                    exact bX12_isForm_110 C hK hN h (lv_sub hl [] rfl) hP
                  · rw [if_neg c9] at h
                    refine lv_lload_n hx hb dX12_isForm_70 rfl (lv_at hl 0 rfl) ?_
                    refine lv_ldc2 (v := (19 : Int64)) hx hb hown (hts _ (List.mem_cons_of_mem _ w1764)) dX12_isForm_71 ?_
                    refine lc_eq (tgt := 110) hx hb dX12_isForm_74 dX12_isForm_75 (by decide) (fun c10 => ?_) (fun c10 => ?_)
                    · rw [if_pos c10] at h
                      exact bX12_isForm_110 C hK hN h (lv_sub hl [] rfl) hP
                    · rw [if_neg c10] at h
                      refine lv_lload_n hx hb dX12_isForm_78 rfl (lv_at hl 0 rfl) ?_
                      refine lv_ldc2 (v := (23 : Int64)) hx hb hown (hts _ (List.mem_cons_of_mem _ w1765)) dX12_isForm_79 ?_
                      refine lc_eq (tgt := 110) hx hb dX12_isForm_82 dX12_isForm_83 (by decide) (fun c11 => ?_) (fun c11 => ?_)
                      · rw [if_pos c11] at h
                        exact bX12_isForm_110 C hK hN h (lv_sub hl [] rfl) hP
                      · rw [if_neg c11] at h
                        refine lv_lload_n hx hb dX12_isForm_86 rfl (lv_at hl 0 rfl) ?_
                        refine lv_ldc2 (v := (24 : Int64)) hx hb hown (hts _ (List.mem_cons_of_mem _ w1766)) dX12_isForm_87 ?_
                        refine lc_eq (tgt := 110) hx hb dX12_isForm_90 dX12_isForm_91 (by decide) (fun c12 => ?_) (fun c12 => ?_)
                        · rw [if_pos c12] at h
                          exact bX12_isForm_110 C hK hN h (lv_sub hl [] rfl) hP
                        · rw [if_neg c12] at h
                          refine lv_lload_n hx hb dX12_isForm_94 rfl (lv_at hl 0 rfl) ?_
                          refine lv_ldc2 (v := (25 : Int64)) hx hb hown (hts _ (List.mem_cons_of_mem _ w1767)) dX12_isForm_95 ?_
                          refine lc_eq (tgt := 110) hx hb dX12_isForm_98 dX12_isForm_99 (by decide) (fun c13 => ?_) (fun c13 => ?_)
                          · rw [if_pos c13] at h
                            exact bX12_isForm_110 C hK hN h (lv_sub hl [] rfl) hP
                          · rw [if_neg c13] at h
                            refine lv_lload_n hx hb dX12_isForm_102 rfl (lv_at hl 0 rfl) ?_
                            refine lv_ldc2 (v := (33 : Int64)) hx hb hown (hts _ (List.mem_cons_of_mem _ w1768)) dX12_isForm_103 ?_
                            refine lc_ne (tgt := 114) hx hb dX12_isForm_106 dX12_isForm_107 (by decide) (fun c14 => ?_) (fun c14 => ?_)
                            · rw [if_neg c14] at h
                              refine lv_iconst (v := (0 : Int32)) hx hb dX12_isForm_114 (by decide) ?_
                              obtain rfl := h
                              exact W.zret (ty := .boolean) hx hb hr (by decide) (fun t ht _ => ⟨rfl, ht⟩) (fun _ h9 => by cases h9) dX12_isForm_115 hlk
                            · rw [if_pos c14] at h
                              exact bX12_isForm_110 C hK hN h (lv_sub hl [] rfl) hP
theorem kX12_isForm  {v0 : Int64} {q : Int32} (h : X12_isForm v0 = q) : Met l yX12_isForm (.code yX12_isForm cX12_isForm 2 (some .boolean) :: WA) ({ frames := 0, cells := 0, slots := 0, locals := 0 } : Room) (va_Pc [.long v0] (PR D cy (GM cy ad mt mc mb mo ms mk my mu ma me mr mp mg mw mf ml mq))) (QP (some (.int q))) 0 0 (fun _ => False) :=
  met_of (by decide) (Nat.le_of_ble_eq_true rfl) (fun p e s m below meth c ls C hP hK hN hl => bX12_isForm_0 C hK hN h hl hP)
def X12_pairs_171 (mb : Tmb) (k2 : Tmc → Tma → Int32 → Option (Tmc × Tma)) (mc : Tmc) (ma : Tma) (v1 : Int32) (z0 : Int64) (z1 : Int32) : Option (Tmc × Tma) := (if inb z1 640 = true then (if inb ma.1 40 = true then (if inb ma.1 40 = true then k2 mc (ma.1, ma.2.1, ma.2.2.1, ma.2.2.2.1, (upd ma.2.2.2.2.1 (ma.1).toNatClampNeg ((ma.2.2.2.2.1 (ma.1).toNatClampNeg) + (1 : Int32))), ma.2.2.2.2.2.1, ma.2.2.2.2.2.2.1, (vp_updL ma.2.2.2.2.2.2.2 (z1).toNatClampNeg z0)) v1 else none) else none) else none)
set_option maxRecDepth 20000 in
theorem bX12_pairs_171 (C : Cx p s m args meth c cX12_pairs 8 none RX12 (.code yX12_pairs cX12_pairs 8 none)) (hI : Apart ad 71) (hK : va_K D vwCl (tysX cy) s) (hN : NW s) {k2 : Tmc → Tma → Int32 → Option (Tmc × Tma)} {q : Tmc × Tma} (hk2 : ∀ {mc : Tmc} {ma : Tma} {v1 : Int32}, k2 mc ma v1 = some q → ∀ {ls : Array Slot}, lv_has ls 8 [(0, .ref (ad 0)), (1, .int v1)] → ∀ {H : Heap} {locs : List Loc}, va_P D vwCl (GM cy ad mt mc mb mo ms mk my mu ma me mr mp mg mw mf ml mq) H → va_S (Ac ad 71) s.heap H locs → W p l e ({ frames := 3, cells := 0, slots := 0, locals := 69 } : Room) s m args below meth c H locs 0 0 (MQ below (QR none D (GM cy ad mt q.1 mb mo ms mk my mu q.2 me mr mp mg mw mf ml mq) (Ac ad 71)) args s 0 0 (Ac ad 71)) (F0 m 2 ls [])) {v1 : Int32} {z0 : Int64} {z1 : Int32} (h : X12_pairs_171 mb k2 mc ma v1 z0 z1 = some q) {ls : Array Slot} (hl : lv_has ls 8 [(0, .ref (ad 0)), (1, .int v1)]) {H : Heap} {locs : List Loc} (hP : va_P D vwCl (GM cy ad mt mc mb mo ms mk my mu ma me mr mp mg mw mf ml mq) H) (hS : va_S (Ac ad 71) s.heap H locs) : W p l e ({ frames := 3, cells := 0, slots := 0, locals := 69 } : Room) s m args below meth c H locs 0 0 (MQ below (QR none D (GM cy ad mt q.1 mb mo ms mk my mu q.2 me mr mp mg mw mf ml mq) (Ac ad 71)) args s 0 0 (Ac ad 71)) (F0 m 171 ls [.long z0, .int z1, .ref (ad 33)]) := by
  obtain ⟨hx, hb, hml, hown, hts, hr, hlk⟩ := id C
  unfold X12_pairs_171 at h
  obtain ⟨n1, h⟩ := grd h
  refine sM33 (f := ma.2.2.2.2.2.2.2) C hI hK hP hS rfl n1 dX12_pairs_171 (fun H locs hP hS => ?_)
  have hP : va_P D vwCl (GM cy ad mt mc mb mo ms mk my mu (ma.1, ma.2.1, ma.2.2.1, ma.2.2.2.1, ma.2.2.2.2.1, ma.2.2.2.2.2.1, ma.2.2.2.2.2.2.1, (vp_updL ma.2.2.2.2.2.2.2 (z1).toNatClampNeg z0)) me mr mp mg mw mf ml mq) H := hP
  refine lv_aload_n hx hb dX12_pairs_172 rfl (lv_at hl 0 rfl) ?_
  refine gM0_38 C hK hP w1405 dX12_pairs_173 ?_
  refine lv_aload_n hx hb dX12_pairs_176 rfl (lv_at hl 0 rfl) ?_
  refine gM0_34 (v := ma.1) C hK hP rfl w1401 dX12_pairs_177 ?_
  refine lv_dup2_11 hx hb dX12_pairs_180 rfl rfl ?_
  obtain ⟨n2, h⟩ := grd h
  refine aM30 (f := ma.2.2.2.2.1) C hK hP rfl n2 dX12_pairs_181 ?_
  refine lv_iconst (v := (1 : Int32)) hx hb dX12_pairs_182 (by decide) ?_
  refine lv_iadd hx hb dX12_pairs_183 ?_
  obtain ⟨n3, h⟩ := grd h
  refine sM30 (f := ma.2.2.2.2.1) C hI hK hP hS rfl n3 dX12_pairs_184 (fun H locs hP hS => ?_)
  have hP : va_P D vwCl (GM cy ad mt mc mb mo ms mk my mu (ma.1, ma.2.1, ma.2.2.1, ma.2.2.2.1, (upd ma.2.2.2.2.1 (ma.1).toNatClampNeg ((ma.2.2.2.2.1 (ma.1).toNatClampNeg) + (1 : Int32))), ma.2.2.2.2.2.1, ma.2.2.2.2.2.2.1, (vp_updL ma.2.2.2.2.2.2.2 (z1).toNatClampNeg z0)) me mr mp mg mw mf ml mq) H := hP
  refine lv_goto (tgt := 2) hx hb dX12_pairs_185 (by decide) ?_
  exact hk2 h (lv_sub hl [0, 1] rfl) hP hS
def X12_pairs_102 (mb : Tmb) (k2 : Tmc → Tma → Int32 → Option (Tmc × Tma)) (mc : Tmc) (ma : Tma) (v1 : Int32) (v3 : Int64) (v5 : Int64) : Option (Tmc × Tma) := (if (X12_isRight mc) = 0 then some (mc, ma) else (if inb ma.1 40 = true then (if inb (((16 : Int32) * ma.1) + (ma.2.2.2.2.1 (ma.1).toNatClampNeg)) 640 = true then (if inb (((16 : Int32) * ma.1) + (ma.2.2.2.2.1 (ma.1).toNatClampNeg)) 640 = true then (if v5 = (33 : Int64) then ((X12_leb mc mb (1 : Int32)).bind fun q6 => X12_pairs_171 mb k2 q6.2 (ma.1, ma.2.1, ma.2.2.1, ma.2.2.2.1, ma.2.2.2.2.1, (vp_updL ma.2.2.2.2.2.1 ((((16 : Int32) * ma.1) + (ma.2.2.2.2.1 (ma.1).toNatClampNeg))).toNatClampNeg v3), (upd ma.2.2.2.2.2.2.1 ((((16 : Int32) * ma.1) + (ma.2.2.2.2.1 (ma.1).toNatClampNeg))).toNatClampNeg ((v5).toInt32)), ma.2.2.2.2.2.2.2) v1 q6.1 (((16 : Int32) * ma.1) + (ma.2.2.2.2.1 (ma.1).toNatClampNeg))) else X12_pairs_171 mb k2 mc (ma.1, ma.2.1, ma.2.2.1, ma.2.2.2.1, ma.2.2.2.2.1, (vp_updL ma.2.2.2.2.2.1 ((((16 : Int32) * ma.1) + (ma.2.2.2.2.1 (ma.1).toNatClampNeg))).toNatClampNeg v3), (upd ma.2.2.2.2.2.2.1 ((((16 : Int32) * ma.1) + (ma.2.2.2.2.1 (ma.1).toNatClampNeg))).toNatClampNeg ((v5).toInt32)), ma.2.2.2.2.2.2.2) v1 (0 : Int64) (((16 : Int32) * ma.1) + (ma.2.2.2.2.1 (ma.1).toNatClampNeg))) else none) else none) else none))
set_option maxRecDepth 20000 in
theorem bX12_pairs_102 (C : Cx p s m args meth c cX12_pairs 8 none RX12 (.code yX12_pairs cX12_pairs 8 none)) (hI : Apart ad 71) (hK : va_K D vwCl (tysX cy) s) (hN : NW s) {k2 : Tmc → Tma → Int32 → Option (Tmc × Tma)} {q : Tmc × Tma} (hk2 : ∀ {mc : Tmc} {ma : Tma} {v1 : Int32}, k2 mc ma v1 = some q → ∀ {ls : Array Slot}, lv_has ls 8 [(0, .ref (ad 0)), (1, .int v1)] → ∀ {H : Heap} {locs : List Loc}, va_P D vwCl (GM cy ad mt mc mb mo ms mk my mu ma me mr mp mg mw mf ml mq) H → va_S (Ac ad 71) s.heap H locs → W p l e ({ frames := 3, cells := 0, slots := 0, locals := 69 } : Room) s m args below meth c H locs 0 0 (MQ below (QR none D (GM cy ad mt q.1 mb mo ms mk my mu q.2 me mr mp mg mw mf ml mq) (Ac ad 71)) args s 0 0 (Ac ad 71)) (F0 m 2 ls [])) {v1 : Int32} {v3 : Int64} {v5 : Int64} (h : X12_pairs_102 mb k2 mc ma v1 v3 v5 = some q) {ls : Array Slot} (hl : lv_has ls 8 [(0, .ref (ad 0)), (1, .int v1), (3, .long v3), (5, .long v5)]) {H : Heap} {locs : List Loc} (hP : va_P D vwCl (GM cy ad mt mc mb mo ms mk my mu ma me mr mp mg mw mf ml mq) H) (hS : va_S (Ac ad 71) s.heap H locs) : W p l e ({ frames := 3, cells := 0, slots := 0, locals := 69 } : Room) s m args below meth c H locs 0 0 (MQ below (QR none D (GM cy ad mt q.1 mb mo ms mk my mu q.2 me mr mp mg mw mf ml mq) (Ac ad 71)) args s 0 0 (Ac ad 71)) (F0 m 102 ls []) := by
  obtain ⟨hx, hb, hml, hown, hts, hr, hlk⟩ := id C
  unfold X12_pairs_102 at h
  refine lv_aload_n hx hb dX12_pairs_102 rfl (lv_at hl 0 rfl) ?_
  refine cPi (run_V (rest := []) C (kX12_isRight rfl) caX12_isRight w1682 ⟨rfl, rfl, Nat.le_of_ble_eq_true rfl, Nat.le_of_ble_eq_true rfl⟩ hK hN hP (rM0 hK hP) rfl hl.1 rfl (Nat.le_of_ble_eq_true rfl) dX12_pairs_103 ⟨Nat.zero_le _, Nat.zero_le _⟩) ?_
  refine lv_if_ne (tgt := 110) hx hb dX12_pairs_106 (by decide) (fun c1 => ?_) (fun c1 => ?_)
  · rw [if_neg c1] at h
    refine lv_bipush (v := (16 : Int32)) hx hb dX12_pairs_110 (by decide) ?_
    refine lv_aload_n hx hb dX12_pairs_112 rfl (lv_at hl 0 rfl) ?_
    refine gM0_34 (v := ma.1) C hK hP rfl w1401 dX12_pairs_113 ?_
    refine lv_imul hx hb dX12_pairs_116 ?_
    refine lv_aload_n hx hb dX12_pairs_117 rfl (lv_at hl 0 rfl) ?_
    refine gM0_38 C hK hP w1405 dX12_pairs_118 ?_
    refine lv_aload_n hx hb dX12_pairs_121 rfl (lv_at hl 0 rfl) ?_
    refine gM0_34 (v := ma.1) C hK hP rfl w1401 dX12_pairs_122 ?_
    obtain ⟨n2, h⟩ := grd h
    refine aM30 (f := ma.2.2.2.2.1) C hK hP rfl n2 dX12_pairs_125 ?_
    refine lv_iadd hx hb dX12_pairs_126 ?_
    refine lv_istore (lv' := [(7, .int (((16 : Int32) * ma.1) + (ma.2.2.2.2.1 (ma.1).toNatClampNeg))), (0, .ref (ad 0)), (1, .int v1), (3, .long v3), (5, .long v5)]) hx hb dX12_pairs_127 hl (by decide) rfl (fun ls hl => ?_)
    refine lv_aload_n hx hb dX12_pairs_129 rfl (lv_at hl 1 rfl) ?_
    refine gM0_39 C hK hP w1406 dX12_pairs_130 ?_
    refine lv_iload hx hb dX12_pairs_133 (lv_at hl 0 rfl) ?_
    refine lv_lload_n hx hb dX12_pairs_135 rfl (lv_at hl 3 rfl) ?_
    obtain ⟨n3, h⟩ := grd h
    refine sM31 (f := ma.2.2.2.2.2.1) C hI hK hP hS rfl n3 dX12_pairs_136 (fun H locs hP hS => ?_)
    have hP : va_P D vwCl (GM cy ad mt mc mb mo ms mk my mu (ma.1, ma.2.1, ma.2.2.1, ma.2.2.2.1, ma.2.2.2.2.1, (vp_updL ma.2.2.2.2.2.1 ((((16 : Int32) * ma.1) + (ma.2.2.2.2.1 (ma.1).toNatClampNeg))).toNatClampNeg v3), ma.2.2.2.2.2.2.1, ma.2.2.2.2.2.2.2) me mr mp mg mw mf ml mq) H := hP
    refine lv_aload_n hx hb dX12_pairs_137 rfl (lv_at hl 1 rfl) ?_
    refine gM0_40 C hK hP w1407 dX12_pairs_138 ?_
    refine lv_iload hx hb dX12_pairs_141 (lv_at hl 0 rfl) ?_
    refine lv_lload hx hb dX12_pairs_143 (lv_at hl 4 rfl) ?_
    refine lv_l2i (v := ((v5).toInt32)) hx hb dX12_pairs_145 rfl ?_
    obtain ⟨n4, h⟩ := grd h
    refine sM32 (f := ma.2.2.2.2.2.2.1) C hI hK hP hS rfl n4 dX12_pairs_146 (fun H locs hP hS => ?_)
    have hP : va_P D vwCl (GM cy ad mt mc mb mo ms mk my mu (ma.1, ma.2.1, ma.2.2.1, ma.2.2.2.1, ma.2.2.2.2.1, (vp_updL ma.2.2.2.2.2.1 ((((16 : Int32) * ma.1) + (ma.2.2.2.2.1 (ma.1).toNatClampNeg))).toNatClampNeg v3), (upd ma.2.2.2.2.2.2.1 ((((16 : Int32) * ma.1) + (ma.2.2.2.2.1 (ma.1).toNatClampNeg))).toNatClampNeg ((v5).toInt32)), ma.2.2.2.2.2.2.2) me mr mp mg mw mf ml mq) H := hP
    refine lv_aload_n hx hb dX12_pairs_147 rfl (lv_at hl 1 rfl) ?_
    refine gM0_41 C hK hP w1408 dX12_pairs_148 ?_
    refine lv_iload hx hb dX12_pairs_151 (lv_at hl 0 rfl) ?_
    refine lv_lload hx hb dX12_pairs_153 (lv_at hl 4 rfl) ?_
    refine lv_ldc2 (v := (33 : Int64)) hx hb hown (hts _ (List.mem_cons_of_mem _ w1768)) dX12_pairs_155 ?_
    refine lc_ne (tgt := 170) hx hb dX12_pairs_158 dX12_pairs_159 (by decide) (fun c5 => ?_) (fun c5 => ?_)
    · rw [if_neg c5] at h
      refine lv_lconst (v := (0 : Int64)) hx hb dX12_pairs_170 (by decide) ?_
      exact bX12_pairs_171 C hI hK hN @hk2 h (lv_sub hl [1, 2] rfl) hP hS
    · rw [if_pos c5] at h
      refine lv_aload_n hx hb dX12_pairs_162 rfl (lv_at hl 1 rfl) ?_
      refine lv_iconst (v := (1 : Int32)) hx hb dX12_pairs_163 (by decide) ?_
      obtain ⟨q6, h7, h⟩ := bnd h
      refine cRl (run_V (rest := [.int (((16 : Int32) * ma.1) + (ma.2.2.2.2.1 (ma.1).toNatClampNeg)), .ref (ad 33)]) C (kX12_leb hI h7) caX12_leb w1745 ⟨rfl, rfl, Nat.le_of_ble_eq_true rfl, Nat.le_of_ble_eq_true rfl⟩ hK hN hP (rM0 hK hP) rfl hl.1 rfl (Nat.le_of_ble_eq_true rfl) dX12_pairs_164 ⟨Nat.zero_le _, Nat.zero_le _⟩) hS (fun H locs hP hS => ?_)
      have hP : va_P D vwCl (GM cy ad mt q6.2 mb mo ms mk my mu (ma.1, ma.2.1, ma.2.2.1, ma.2.2.2.1, ma.2.2.2.2.1, (vp_updL ma.2.2.2.2.2.1 ((((16 : Int32) * ma.1) + (ma.2.2.2.2.1 (ma.1).toNatClampNeg))).toNatClampNeg v3), (upd ma.2.2.2.2.2.2.1 ((((16 : Int32) * ma.1) + (ma.2.2.2.2.1 (ma.1).toNatClampNeg))).toNatClampNeg ((v5).toInt32)), ma.2.2.2.2.2.2.2) me mr mp mg mw mf ml mq) H := hP
      refine lv_goto (tgt := 171) hx hb dX12_pairs_167 (by decide) ?_
      exact bX12_pairs_171 C hI hK hN @hk2 h (lv_sub hl [1, 2] rfl) hP hS
  · rw [if_pos c1] at h
    obtain rfl := Option.some.inj h
    exact W.vret hx hb hr (fun t ht _ => ⟨rfl, by rw [ht]; exact hP, hS.F ht⟩) hS.2.2 dX12_pairs_109 hlk
def X12_pairs_82 (mb : Tmb) (k2 : Tmc → Tma → Int32 → Option (Tmc × Tma)) (mc : Tmc) (ma : Tma) (v1 : Int32) (v2 : Int32) (v3 : Int64) (v5 : Int64) : Option (Tmc × Tma) := (if inb ma.1 40 = true then (if (ma.2.2.2.2.1 (ma.1).toNatClampNeg) = (16 : Int32) then (letq (X12_fail mc (4 : Int32) v2) fun q3 => X12_pairs_102 mb k2 q3 ma v1 v3 v5) else X12_pairs_102 mb k2 mc ma v1 v3 v5) else none)
set_option maxRecDepth 20000 in
theorem bX12_pairs_82 (C : Cx p s m args meth c cX12_pairs 8 none RX12 (.code yX12_pairs cX12_pairs 8 none)) (hI : Apart ad 71) (hK : va_K D vwCl (tysX cy) s) (hN : NW s) {k2 : Tmc → Tma → Int32 → Option (Tmc × Tma)} {q : Tmc × Tma} (hk2 : ∀ {mc : Tmc} {ma : Tma} {v1 : Int32}, k2 mc ma v1 = some q → ∀ {ls : Array Slot}, lv_has ls 8 [(0, .ref (ad 0)), (1, .int v1)] → ∀ {H : Heap} {locs : List Loc}, va_P D vwCl (GM cy ad mt mc mb mo ms mk my mu ma me mr mp mg mw mf ml mq) H → va_S (Ac ad 71) s.heap H locs → W p l e ({ frames := 3, cells := 0, slots := 0, locals := 69 } : Room) s m args below meth c H locs 0 0 (MQ below (QR none D (GM cy ad mt q.1 mb mo ms mk my mu q.2 me mr mp mg mw mf ml mq) (Ac ad 71)) args s 0 0 (Ac ad 71)) (F0 m 2 ls [])) {v1 : Int32} {v2 : Int32} {v3 : Int64} {v5 : Int64} (h : X12_pairs_82 mb k2 mc ma v1 v2 v3 v5 = some q) {ls : Array Slot} (hl : lv_has ls 8 [(0, .ref (ad 0)), (1, .int v1), (2, .int v2), (3, .long v3), (5, .long v5)]) {H : Heap} {locs : List Loc} (hP : va_P D vwCl (GM cy ad mt mc mb mo ms mk my mu ma me mr mp mg mw mf ml mq) H) (hS : va_S (Ac ad 71) s.heap H locs) : W p l e ({ frames := 3, cells := 0, slots := 0, locals := 69 } : Room) s m args below meth c H locs 0 0 (MQ below (QR none D (GM cy ad mt q.1 mb mo ms mk my mu q.2 me mr mp mg mw mf ml mq) (Ac ad 71)) args s 0 0 (Ac ad 71)) (F0 m 82 ls []) := by
  obtain ⟨hx, hb, hml, hown, hts, hr, hlk⟩ := id C
  unfold X12_pairs_82 at h
  refine lv_aload_n hx hb dX12_pairs_82 rfl (lv_at hl 0 rfl) ?_
  refine gM0_38 C hK hP w1405 dX12_pairs_83 ?_
  refine lv_aload_n hx hb dX12_pairs_86 rfl (lv_at hl 0 rfl) ?_
  refine gM0_34 (v := ma.1) C hK hP rfl w1401 dX12_pairs_87 ?_
  obtain ⟨n1, h⟩ := grd h
  refine aM30 (f := ma.2.2.2.2.1) C hK hP rfl n1 dX12_pairs_90 ?_
  refine lv_bipush (v := (16 : Int32)) hx hb dX12_pairs_91 (by decide) ?_
  refine lv_icmp_ne (tgt := 102) hx hb dX12_pairs_93 (by decide) (fun c2 => ?_) (fun c2 => ?_)
  · rw [if_neg c2] at h
    exact bX12_pairs_102 C hI hK hN @hk2 h (lv_sub hl [0, 1, 3, 4] rfl) hP hS
  · rw [if_pos c2] at h
    refine lv_aload_n hx hb dX12_pairs_96 rfl (lv_at hl 0 rfl) ?_
    refine lv_iconst (v := (4 : Int32)) hx hb dX12_pairs_97 (by decide) ?_
    refine lv_iload_n hx hb dX12_pairs_98 rfl (lv_at hl 2 rfl) ?_
    obtain ⟨q3, h4, h⟩ := lets h
    refine cRv (run_V (rest := []) C (kX12_fail hI h4) caX12_fail w1678 ⟨rfl, rfl, Nat.le_of_ble_eq_true rfl, Nat.le_of_ble_eq_true rfl⟩ hK hN hP (rM0 hK hP) rfl hl.1 rfl (Nat.le_of_ble_eq_true rfl) dX12_pairs_99 ⟨Nat.zero_le _, Nat.zero_le _⟩) hS (fun H locs hP hS => ?_)
    have hP : va_P D vwCl (GM cy ad mt q3 mb mo ms mk my mu ma me mr mp mg mw mf ml mq) H := hP
    exact bX12_pairs_102 C hI hK hN @hk2 h (lv_sub hl [0, 1, 3, 4] rfl) hP hS
def X12_pairs_76 (mb : Tmb) (k2 : Tmc → Tma → Int32 → Option (Tmc × Tma)) (mc : Tmc) (ma : Tma) (v1 : Int32) (v2 : Int32) (v3 : Int64) (v5 : Int64) : Option (Tmc × Tma) := (letq (X12_fail mc (2 : Int32) v2) fun q1 => X12_pairs_82 mb k2 q1 ma v1 v2 v3 v5)
set_option maxRecDepth 20000 in
theorem bX12_pairs_76 (C : Cx p s m args meth c cX12_pairs 8 none RX12 (.code yX12_pairs cX12_pairs 8 none)) (hI : Apart ad 71) (hK : va_K D vwCl (tysX cy) s) (hN : NW s) {k2 : Tmc → Tma → Int32 → Option (Tmc × Tma)} {q : Tmc × Tma} (hk2 : ∀ {mc : Tmc} {ma : Tma} {v1 : Int32}, k2 mc ma v1 = some q → ∀ {ls : Array Slot}, lv_has ls 8 [(0, .ref (ad 0)), (1, .int v1)] → ∀ {H : Heap} {locs : List Loc}, va_P D vwCl (GM cy ad mt mc mb mo ms mk my mu ma me mr mp mg mw mf ml mq) H → va_S (Ac ad 71) s.heap H locs → W p l e ({ frames := 3, cells := 0, slots := 0, locals := 69 } : Room) s m args below meth c H locs 0 0 (MQ below (QR none D (GM cy ad mt q.1 mb mo ms mk my mu q.2 me mr mp mg mw mf ml mq) (Ac ad 71)) args s 0 0 (Ac ad 71)) (F0 m 2 ls [])) {v1 : Int32} {v2 : Int32} {v3 : Int64} {v5 : Int64} (h : X12_pairs_76 mb k2 mc ma v1 v2 v3 v5 = some q) {ls : Array Slot} (hl : lv_has ls 8 [(0, .ref (ad 0)), (1, .int v1), (2, .int v2), (3, .long v3), (5, .long v5)]) {H : Heap} {locs : List Loc} (hP : va_P D vwCl (GM cy ad mt mc mb mo ms mk my mu ma me mr mp mg mw mf ml mq) H) (hS : va_S (Ac ad 71) s.heap H locs) : W p l e ({ frames := 3, cells := 0, slots := 0, locals := 69 } : Room) s m args below meth c H locs 0 0 (MQ below (QR none D (GM cy ad mt q.1 mb mo ms mk my mu q.2 me mr mp mg mw mf ml mq) (Ac ad 71)) args s 0 0 (Ac ad 71)) (F0 m 76 ls []) := by
  obtain ⟨hx, hb, hml, hown, hts, hr, hlk⟩ := id C
  unfold X12_pairs_76 at h
  refine lv_aload_n hx hb dX12_pairs_76 rfl (lv_at hl 0 rfl) ?_
  refine lv_iconst (v := (2 : Int32)) hx hb dX12_pairs_77 (by decide) ?_
  refine lv_iload_n hx hb dX12_pairs_78 rfl (lv_at hl 2 rfl) ?_
  obtain ⟨q1, h2, h⟩ := lets h
  refine cRv (run_V (rest := []) C (kX12_fail hI h2) caX12_fail w1678 ⟨rfl, rfl, Nat.le_of_ble_eq_true rfl, Nat.le_of_ble_eq_true rfl⟩ hK hN hP (rM0 hK hP) rfl hl.1 rfl (Nat.le_of_ble_eq_true rfl) dX12_pairs_79 ⟨Nat.zero_le _, Nat.zero_le _⟩) hS (fun H locs hP hS => ?_)
  have hP : va_P D vwCl (GM cy ad mt q1 mb mo ms mk my mu ma me mr mp mg mw mf ml mq) H := hP
  exact bX12_pairs_82 C hI hK hN @hk2 h (lv_sub hl [0, 1, 2, 3, 4] rfl) hP hS
def X12_pairs_54 (mb : Tmb) (k2 : Tmc → Tma → Int32 → Option (Tmc × Tma)) (mc : Tmc) (ma : Tma) (v2 : Int32) (v3 : Int64) (v5 : Int64) (z0 : Int32) : Option (Tmc × Tma) := (if z0 = 0 then k2 mc ma z0 else (if v3 = (0 : Int64) then X12_pairs_76 mb k2 mc ma z0 v2 v3 v5 else (if (X12_isForm v5) = 0 then X12_pairs_76 mb k2 mc ma z0 v2 v3 v5 else X12_pairs_82 mb k2 mc ma z0 v2 v3 v5)))
set_option maxRecDepth 20000 in
theorem bX12_pairs_54 (C : Cx p s m args meth c cX12_pairs 8 none RX12 (.code yX12_pairs cX12_pairs 8 none)) (hI : Apart ad 71) (hK : va_K D vwCl (tysX cy) s) (hN : NW s) {k2 : Tmc → Tma → Int32 → Option (Tmc × Tma)} {q : Tmc × Tma} (hk2 : ∀ {mc : Tmc} {ma : Tma} {v1 : Int32}, k2 mc ma v1 = some q → ∀ {ls : Array Slot}, lv_has ls 8 [(0, .ref (ad 0)), (1, .int v1)] → ∀ {H : Heap} {locs : List Loc}, va_P D vwCl (GM cy ad mt mc mb mo ms mk my mu ma me mr mp mg mw mf ml mq) H → va_S (Ac ad 71) s.heap H locs → W p l e ({ frames := 3, cells := 0, slots := 0, locals := 69 } : Room) s m args below meth c H locs 0 0 (MQ below (QR none D (GM cy ad mt q.1 mb mo ms mk my mu q.2 me mr mp mg mw mf ml mq) (Ac ad 71)) args s 0 0 (Ac ad 71)) (F0 m 2 ls [])) {v2 : Int32} {v3 : Int64} {v5 : Int64} {z0 : Int32} (h : X12_pairs_54 mb k2 mc ma v2 v3 v5 z0 = some q) {ls : Array Slot} (hl : lv_has ls 8 [(0, .ref (ad 0)), (2, .int v2), (3, .long v3), (5, .long v5)]) {H : Heap} {locs : List Loc} (hP : va_P D vwCl (GM cy ad mt mc mb mo ms mk my mu ma me mr mp mg mw mf ml mq) H) (hS : va_S (Ac ad 71) s.heap H locs) : W p l e ({ frames := 3, cells := 0, slots := 0, locals := 69 } : Room) s m args below meth c H locs 0 0 (MQ below (QR none D (GM cy ad mt q.1 mb mo ms mk my mu q.2 me mr mp mg mw mf ml mq) (Ac ad 71)) args s 0 0 (Ac ad 71)) (F0 m 54 ls [.int z0]) := by
  obtain ⟨hx, hb, hml, hown, hts, hr, hlk⟩ := id C
  unfold X12_pairs_54 at h
  refine lv_istore_n (lv' := [(1, .int z0), (0, .ref (ad 0)), (2, .int v2), (3, .long v3), (5, .long v5)]) hx hb dX12_pairs_54 rfl hl (by decide) rfl (fun ls hl => ?_)
  refine lv_iload_n hx hb dX12_pairs_55 rfl (lv_at hl 0 rfl) ?_
  refine lv_if_ne (tgt := 62) hx hb dX12_pairs_56 (by decide) (fun c1 => ?_) (fun c1 => ?_)
  · rw [if_neg c1] at h
    refine lv_lload_n hx hb dX12_pairs_62 rfl (lv_at hl 3 rfl) ?_
    refine lv_lconst (v := (0 : Int64)) hx hb dX12_pairs_63 (by decide) ?_
    refine lc_eq (tgt := 76) hx hb dX12_pairs_64 dX12_pairs_65 (by decide) (fun c2 => ?_) (fun c2 => ?_)
    · rw [if_pos c2] at h
      exact bX12_pairs_76 C hI hK hN @hk2 h (lv_sub hl [1, 0, 2, 3, 4] rfl) hP hS
    · rw [if_neg c2] at h
      refine lv_lload hx hb dX12_pairs_68 (lv_at hl 4 rfl) ?_
      refine cPi (run_S (rest := []) C (kX12_isForm rfl) caX12_isForm w1754 ⟨rfl, rfl, Nat.le_of_ble_eq_true rfl, Nat.le_of_ble_eq_true rfl⟩ hK hN hP rfl hl.1 rfl (Nat.le_of_ble_eq_true rfl) dX12_pairs_70 ⟨Nat.zero_le _, Nat.zero_le _⟩) ?_
      refine lv_if_ne (tgt := 82) hx hb dX12_pairs_73 (by decide) (fun c3 => ?_) (fun c3 => ?_)
      · rw [if_neg c3] at h
        exact bX12_pairs_82 C hI hK hN @hk2 h (lv_sub hl [1, 0, 2, 3, 4] rfl) hP hS
      · rw [if_pos c3] at h
        exact bX12_pairs_76 C hI hK hN @hk2 h (lv_sub hl [1, 0, 2, 3, 4] rfl) hP hS
  · rw [if_pos c1] at h
    refine lv_goto (tgt := 2) hx hb dX12_pairs_59 (by decide) ?_
    exact hk2 h (lv_sub hl [1, 0] rfl) hP hS
def X12_pairs_49 (mb : Tmb) (k2 : Tmc → Tma → Int32 → Option (Tmc × Tma)) (mc : Tmc) (ma : Tma) (v2 : Int32) (v3 : Int64) (v5 : Int64) : Option (Tmc × Tma) := X12_pairs_54 mb k2 mc ma v2 v3 v5 (1 : Int32)
set_option maxRecDepth 20000 in
theorem bX12_pairs_49 (C : Cx p s m args meth c cX12_pairs 8 none RX12 (.code yX12_pairs cX12_pairs 8 none)) (hI : Apart ad 71) (hK : va_K D vwCl (tysX cy) s) (hN : NW s) {k2 : Tmc → Tma → Int32 → Option (Tmc × Tma)} {q : Tmc × Tma} (hk2 : ∀ {mc : Tmc} {ma : Tma} {v1 : Int32}, k2 mc ma v1 = some q → ∀ {ls : Array Slot}, lv_has ls 8 [(0, .ref (ad 0)), (1, .int v1)] → ∀ {H : Heap} {locs : List Loc}, va_P D vwCl (GM cy ad mt mc mb mo ms mk my mu ma me mr mp mg mw mf ml mq) H → va_S (Ac ad 71) s.heap H locs → W p l e ({ frames := 3, cells := 0, slots := 0, locals := 69 } : Room) s m args below meth c H locs 0 0 (MQ below (QR none D (GM cy ad mt q.1 mb mo ms mk my mu q.2 me mr mp mg mw mf ml mq) (Ac ad 71)) args s 0 0 (Ac ad 71)) (F0 m 2 ls [])) {v2 : Int32} {v3 : Int64} {v5 : Int64} (h : X12_pairs_49 mb k2 mc ma v2 v3 v5 = some q) {ls : Array Slot} (hl : lv_has ls 8 [(0, .ref (ad 0)), (2, .int v2), (3, .long v3), (5, .long v5)]) {H : Heap} {locs : List Loc} (hP : va_P D vwCl (GM cy ad mt mc mb mo ms mk my mu ma me mr mp mg mw mf ml mq) H) (hS : va_S (Ac ad 71) s.heap H locs) : W p l e ({ frames := 3, cells := 0, slots := 0, locals := 69 } : Room) s m args below meth c H locs 0 0 (MQ below (QR none D (GM cy ad mt q.1 mb mo ms mk my mu q.2 me mr mp mg mw mf ml mq) (Ac ad 71)) args s 0 0 (Ac ad 71)) (F0 m 49 ls []) := by
  obtain ⟨hx, hb, hml, hown, hts, hr, hlk⟩ := id C
  unfold X12_pairs_49 at h
  refine lv_iconst (v := (1 : Int32)) hx hb dX12_pairs_49 (by decide) ?_
  refine lv_goto (tgt := 54) hx hb dX12_pairs_50 (by decide) ?_
  exact bX12_pairs_54 C hI hK hN @hk2 h (lv_sub hl [0, 1, 2, 3] rfl) hP hS
def X12_pairs_53 (mb : Tmb) (k2 : Tmc → Tma → Int32 → Option (Tmc × Tma)) (mc : Tmc) (ma : Tma) (v2 : Int32) (v3 : Int64) (v5 : Int64) : Option (Tmc × Tma) := X12_pairs_54 mb k2 mc ma v2 v3 v5 (0 : Int32)
set_option maxRecDepth 20000 in
theorem bX12_pairs_53 (C : Cx p s m args meth c cX12_pairs 8 none RX12 (.code yX12_pairs cX12_pairs 8 none)) (hI : Apart ad 71) (hK : va_K D vwCl (tysX cy) s) (hN : NW s) {k2 : Tmc → Tma → Int32 → Option (Tmc × Tma)} {q : Tmc × Tma} (hk2 : ∀ {mc : Tmc} {ma : Tma} {v1 : Int32}, k2 mc ma v1 = some q → ∀ {ls : Array Slot}, lv_has ls 8 [(0, .ref (ad 0)), (1, .int v1)] → ∀ {H : Heap} {locs : List Loc}, va_P D vwCl (GM cy ad mt mc mb mo ms mk my mu ma me mr mp mg mw mf ml mq) H → va_S (Ac ad 71) s.heap H locs → W p l e ({ frames := 3, cells := 0, slots := 0, locals := 69 } : Room) s m args below meth c H locs 0 0 (MQ below (QR none D (GM cy ad mt q.1 mb mo ms mk my mu q.2 me mr mp mg mw mf ml mq) (Ac ad 71)) args s 0 0 (Ac ad 71)) (F0 m 2 ls [])) {v2 : Int32} {v3 : Int64} {v5 : Int64} (h : X12_pairs_53 mb k2 mc ma v2 v3 v5 = some q) {ls : Array Slot} (hl : lv_has ls 8 [(0, .ref (ad 0)), (2, .int v2), (3, .long v3), (5, .long v5)]) {H : Heap} {locs : List Loc} (hP : va_P D vwCl (GM cy ad mt mc mb mo ms mk my mu ma me mr mp mg mw mf ml mq) H) (hS : va_S (Ac ad 71) s.heap H locs) : W p l e ({ frames := 3, cells := 0, slots := 0, locals := 69 } : Room) s m args below meth c H locs 0 0 (MQ below (QR none D (GM cy ad mt q.1 mb mo ms mk my mu q.2 me mr mp mg mw mf ml mq) (Ac ad 71)) args s 0 0 (Ac ad 71)) (F0 m 53 ls []) := by
  obtain ⟨hx, hb, hml, hown, hts, hr, hlk⟩ := id C
  unfold X12_pairs_53 at h
  refine lv_iconst (v := (0 : Int32)) hx hb dX12_pairs_53 (by decide) ?_
  exact bX12_pairs_54 C hI hK hN @hk2 h (lv_sub hl [0, 1, 2, 3] rfl) hP hS
def X12_pairs_2b (mb : Tmb)  (k2 : Tmc → Tma → Int32 → Option (Tmc × Tma)) (mc : Tmc) (ma : Tma) (v1 : Int32) : Option (Tmc × Tma) := (if v1 = 0 then some (mc, ma) else (if (X12_isRight mc) = 0 then some (mc, ma) else ((X12_uleb mc mb).bind fun q3 => ((X12_uleb q3.2 mb).bind fun q5 => (if (X12_isRight q5.2) = 0 then X12_pairs_53 mb k2 q5.2 ma mc.1 q3.1 q5.1 else (if q3.1 = (0 : Int64) then (if q5.1 = (0 : Int64) then X12_pairs_53 mb k2 q5.2 ma mc.1 q3.1 q5.1 else X12_pairs_49 mb k2 q5.2 ma mc.1 q3.1 q5.1) else X12_pairs_49 mb k2 q5.2 ma mc.1 q3.1 q5.1))))))
def X12_pairs_2 (mb : Tmb)  (n : Nat) (st : Tmc × Tma × Int32) : Option (Tmc × Tma) := lp (fun rec st => X12_pairs_2b mb  (fun a0 a1 a2 => rec (a0, a1, a2)) st.1 st.2.1 st.2.2) n st
set_option maxRecDepth 20000 in
theorem bX12_pairs_2 (C : Cx p s m args meth c cX12_pairs 8 none RX12 (.code yX12_pairs cX12_pairs 8 none)) (hI : Apart ad 71) (hK : va_K D vwCl (tysX cy) s) (hN : NW s)  {q : Tmc × Tma}  : ∀ (n : Nat) {mc : Tmc} {ma : Tma} {v1 : Int32}, X12_pairs_2 mb  n (mc, ma, v1) = some q → ∀ {ls : Array Slot}, lv_has ls 8 [(0, .ref (ad 0)), (1, .int v1)] → ∀ {H : Heap} {locs : List Loc}, va_P D vwCl (GM cy ad mt mc mb mo ms mk my mu ma me mr mp mg mw mf ml mq) H → va_S (Ac ad 71) s.heap H locs → W p l e ({ frames := 3, cells := 0, slots := 0, locals := 69 } : Room) s m args below meth c H locs 0 0 (MQ below (QR none D (GM cy ad mt q.1 mb mo ms mk my mu q.2 me mr mp mg mw mf ml mq) (Ac ad 71)) args s 0 0 (Ac ad 71)) (F0 m 2 ls []) := by
  obtain ⟨hx, hb, hml, hown, hts, hr, hlk⟩ := id C
  intro n
  induction n with
  | zero =>
    intro mc ma v1 h ls hl H locs hP hS
    have h : (none : Option (Tmc × Tma)) = some q := h
    cases h
  | succ n ih =>
    intro mc ma v1 h ls hl H locs hP hS
    have h : X12_pairs_2b mb  (fun a0 a1 a2 => X12_pairs_2 mb  n (a0, a1, a2)) mc ma v1 = some q := h
    unfold X12_pairs_2b at h
    refine lv_iload_n hx hb dX12_pairs_2 rfl (lv_at hl 1 rfl) ?_
    refine lv_if_eq (tgt := 188) hx hb dX12_pairs_3 (by decide) (fun c1 => ?_) (fun c1 => ?_)
    · rw [if_pos c1] at h
      obtain rfl := Option.some.inj h
      exact W.vret hx hb hr (fun t ht _ => ⟨rfl, by rw [ht]; exact hP, hS.F ht⟩) hS.2.2 dX12_pairs_188 hlk
    · rw [if_neg c1] at h
      refine lv_aload_n hx hb dX12_pairs_6 rfl (lv_at hl 0 rfl) ?_
      refine cPi (run_V (rest := []) C (kX12_isRight rfl) caX12_isRight w1682 ⟨rfl, rfl, Nat.le_of_ble_eq_true rfl, Nat.le_of_ble_eq_true rfl⟩ hK hN hP (rM0 hK hP) rfl hl.1 rfl (Nat.le_of_ble_eq_true rfl) dX12_pairs_7 ⟨Nat.zero_le _, Nat.zero_le _⟩) ?_
      refine lv_if_eq (tgt := 188) hx hb dX12_pairs_10 (by decide) (fun c2 => ?_) (fun c2 => ?_)
      · rw [if_pos c2] at h
        obtain rfl := Option.some.inj h
        exact W.vret hx hb hr (fun t ht _ => ⟨rfl, by rw [ht]; exact hP, hS.F ht⟩) hS.2.2 dX12_pairs_188 hlk
      · rw [if_neg c2] at h
        refine lv_aload_n hx hb dX12_pairs_13 rfl (lv_at hl 0 rfl) ?_
        refine gM0_77 (v := mc.1) C hK hP rfl w1444 dX12_pairs_14 ?_
        refine lv_istore_n (lv' := [(2, .int mc.1), (0, .ref (ad 0)), (1, .int v1)]) hx hb dX12_pairs_17 rfl hl (by decide) rfl (fun ls hl => ?_)
        refine lv_aload_n hx hb dX12_pairs_18 rfl (lv_at hl 1 rfl) ?_
        obtain ⟨q3, h4, h⟩ := bnd h
        refine cRl (run_V (rest := []) C (kX12_uleb hI h4) caX12_uleb w1741 ⟨rfl, rfl, Nat.le_of_ble_eq_true rfl, Nat.le_of_ble_eq_true rfl⟩ hK hN hP (rM0 hK hP) rfl hl.1 rfl (Nat.le_of_ble_eq_true rfl) dX12_pairs_19 ⟨Nat.zero_le _, Nat.zero_le _⟩) hS (fun H locs hP hS => ?_)
        have hP : va_P D vwCl (GM cy ad mt q3.2 mb mo ms mk my mu ma me mr mp mg mw mf ml mq) H := hP
        refine lv_lstore_n (lv' := [(3, .long q3.1), (2, .int mc.1), (0, .ref (ad 0)), (1, .int v1)]) hx hb dX12_pairs_22 rfl hl (by decide) rfl (fun ls hl => ?_)
        refine lv_aload_n hx hb dX12_pairs_23 rfl (lv_at hl 2 rfl) ?_
        obtain ⟨q5, h6, h⟩ := bnd h
        refine cRl (run_V (rest := []) C (kX12_uleb hI h6) caX12_uleb w1741 ⟨rfl, rfl, Nat.le_of_ble_eq_true rfl, Nat.le_of_ble_eq_true rfl⟩ hK hN hP (rM0 hK hP) rfl hl.1 rfl (Nat.le_of_ble_eq_true rfl) dX12_pairs_24 ⟨Nat.zero_le _, Nat.zero_le _⟩) hS (fun H locs hP hS => ?_)
        have hP : va_P D vwCl (GM cy ad mt q5.2 mb mo ms mk my mu ma me mr mp mg mw mf ml mq) H := hP
        refine lv_lstore (lv' := [(5, .long q5.1), (3, .long q3.1), (2, .int mc.1), (0, .ref (ad 0)), (1, .int v1)]) hx hb dX12_pairs_27 hl (by decide) rfl (fun ls hl => ?_)
        refine lv_aload_n hx hb dX12_pairs_29 rfl (lv_at hl 3 rfl) ?_
        refine cPi (run_V (rest := []) C (kX12_isRight rfl) caX12_isRight w1682 ⟨rfl, rfl, Nat.le_of_ble_eq_true rfl, Nat.le_of_ble_eq_true rfl⟩ hK hN hP (rM0 hK hP) rfl hl.1 rfl (Nat.le_of_ble_eq_true rfl) dX12_pairs_30 ⟨Nat.zero_le _, Nat.zero_le _⟩) ?_
        refine lv_if_eq (tgt := 53) hx hb dX12_pairs_33 (by decide) (fun c7 => ?_) (fun c7 => ?_)
        · rw [if_pos c7] at h
          exact bX12_pairs_53 C hI hK hN @ih h (lv_sub hl [3, 2, 1, 0] rfl) hP hS
        · rw [if_neg c7] at h
          refine lv_lload_n hx hb dX12_pairs_36 rfl (lv_at hl 1 rfl) ?_
          refine lv_lconst (v := (0 : Int64)) hx hb dX12_pairs_37 (by decide) ?_
          refine lc_ne (tgt := 49) hx hb dX12_pairs_38 dX12_pairs_39 (by decide) (fun c8 => ?_) (fun c8 => ?_)
          · rw [if_neg c8] at h
            exact bX12_pairs_49 C hI hK hN @ih h (lv_sub hl [3, 2, 1, 0] rfl) hP hS
          · rw [if_pos c8] at h
            refine lv_lload hx hb dX12_pairs_42 (lv_at hl 0 rfl) ?_
            refine lv_lconst (v := (0 : Int64)) hx hb dX12_pairs_44 (by decide) ?_
            refine lc_eq (tgt := 53) hx hb dX12_pairs_45 dX12_pairs_46 (by decide) (fun c9 => ?_) (fun c9 => ?_)
            · rw [if_pos c9] at h
              exact bX12_pairs_53 C hI hK hN @ih h (lv_sub hl [3, 2, 1, 0] rfl) hP hS
            · rw [if_neg c9] at h
              exact bX12_pairs_49 C hI hK hN @ih h (lv_sub hl [3, 2, 1, 0] rfl) hP hS
def X12_pairs (mc : Tmc) (mb : Tmb) (ma : Tma)  : Option (Tmc × Tma) := X12_pairs_2 mb FU (mc, ma, (1 : Int32))
set_option maxRecDepth 20000 in
theorem bX12_pairs_0 (C : Cx p s m args meth c cX12_pairs 8 none RX12 (.code yX12_pairs cX12_pairs 8 none)) (hI : Apart ad 71) (hK : va_K D vwCl (tysX cy) s) (hN : NW s)  {q : Tmc × Tma}   (h : X12_pairs mc mb ma = some q) {ls : Array Slot} (hl : lv_has ls 8 [(0, .ref (ad 0))]) {H : Heap} {locs : List Loc} (hP : va_P D vwCl (GM cy ad mt mc mb mo ms mk my mu ma me mr mp mg mw mf ml mq) H) (hS : va_S (Ac ad 71) s.heap H locs) : W p l e ({ frames := 3, cells := 0, slots := 0, locals := 69 } : Room) s m args below meth c H locs 0 0 (MQ below (QR none D (GM cy ad mt q.1 mb mo ms mk my mu q.2 me mr mp mg mw mf ml mq) (Ac ad 71)) args s 0 0 (Ac ad 71)) (F0 m 0 ls []) := by
  obtain ⟨hx, hb, hml, hown, hts, hr, hlk⟩ := id C
  unfold X12_pairs at h
  refine lv_iconst (v := (1 : Int32)) hx hb dX12_pairs_0 (by decide) ?_
  refine lv_istore_n (lv' := [(1, .int (1 : Int32)), (0, .ref (ad 0))]) hx hb dX12_pairs_1 rfl hl (by decide) rfl (fun ls hl => ?_)
  exact bX12_pairs_2 C hI hK hN FU h (lv_sub hl [1, 0] rfl) hP hS
theorem kX12_pairs (hI : Apart ad 71)  {q : Tmc × Tma} (h : X12_pairs mc mb ma = some q) : Met l yX12_pairs (.code yX12_pairs cX12_pairs 8 none :: WA) ({ frames := 3, cells := 0, slots := 0, locals := 69 } : Room) (va_Pc [.ref (ad 0)] (PR D cy (GM cy ad mt mc mb mo ms mk my mu ma me mr mp mg mw mf ml mq))) (QR none D (GM cy ad mt q.1 mb mo ms mk my mu q.2 me mr mp mg mw mf ml mq) (Ac ad 71)) 0 0 (Ac ad 71) :=
  met_of (by decide) (Nat.le_of_ble_eq_true rfl) (fun p e s m below meth c ls C hP hK hN hl => bX12_pairs_0 C hI hK hN h hl hP va_S.rf)
def X12_abbreviations_84 (mb : Tmb) (k7 : Tmc → Tma → Int32 → Option (Tmc × Tma)) (k57 : Tmc → Tma → Int32 → Int32 → Int64 → Int32 → Option (Tmc × Tma)) (mc : Tmc) (ma : Tma) (v1 : Int32) (v2 : Int32) (v3 : Int64) (v5 : Int32) : Option (Tmc × Tma) := k57 mc ma v1 v2 v3 (v5 + (1 : Int32))
set_option maxRecDepth 20000 in
theorem bX12_abbreviations_84 (C : Cx p s m args meth c cX12_abbreviations 8 none RX12 (.code yX12_abbreviations cX12_abbreviations 8 none)) (hI : Apart ad 71) (hK : va_K D vwCl (tysX cy) s) (hN : NW s) {k7 : Tmc → Tma → Int32 → Option (Tmc × Tma)} {k57 : Tmc → Tma → Int32 → Int32 → Int64 → Int32 → Option (Tmc × Tma)} {q : Tmc × Tma} (hk7 : ∀ {mc : Tmc} {ma : Tma} {v1 : Int32}, k7 mc ma v1 = some q → ∀ {ls : Array Slot}, lv_has ls 8 [(0, .ref (ad 0)), (1, .int v1)] → ∀ {H : Heap} {locs : List Loc}, va_P D vwCl (GM cy ad mt mc mb mo ms mk my mu ma me mr mp mg mw mf ml mq) H → va_S (Ac ad 71) s.heap H locs → W p l e ({ frames := 4, cells := 0, slots := 0, locals := 96 } : Room) s m args below meth c H locs 0 0 (MQ below (QR none D (GM cy ad mt q.1 mb mo ms mk my mu q.2 me mr mp mg mw mf ml mq) (Ac ad 71)) args s 0 0 (Ac ad 71)) (F0 m 7 ls [])) (hk57 : ∀ {mc : Tmc} {ma : Tma} {v1 : Int32} {v2 : Int32} {v3 : Int64} {v5 : Int32}, k57 mc ma v1 v2 v3 v5 = some q → ∀ {ls : Array Slot}, lv_has ls 8 [(0, .ref (ad 0)), (1, .int v1), (2, .int v2), (3, .long v3), (5, .int v5)] → ∀ {H : Heap} {locs : List Loc}, va_P D vwCl (GM cy ad mt mc mb mo ms mk my mu ma me mr mp mg mw mf ml mq) H → va_S (Ac ad 71) s.heap H locs → W p l e ({ frames := 4, cells := 0, slots := 0, locals := 96 } : Room) s m args below meth c H locs 0 0 (MQ below (QR none D (GM cy ad mt q.1 mb mo ms mk my mu q.2 me mr mp mg mw mf ml mq) (Ac ad 71)) args s 0 0 (Ac ad 71)) (F0 m 57 ls [])) {v1 : Int32} {v2 : Int32} {v3 : Int64} {v5 : Int32} (h : X12_abbreviations_84 mb k7 k57 mc ma v1 v2 v3 v5 = some q) {ls : Array Slot} (hl : lv_has ls 8 [(0, .ref (ad 0)), (1, .int v1), (2, .int v2), (3, .long v3), (5, .int v5)]) {H : Heap} {locs : List Loc} (hP : va_P D vwCl (GM cy ad mt mc mb mo ms mk my mu ma me mr mp mg mw mf ml mq) H) (hS : va_S (Ac ad 71) s.heap H locs) : W p l e ({ frames := 4, cells := 0, slots := 0, locals := 96 } : Room) s m args below meth c H locs 0 0 (MQ below (QR none D (GM cy ad mt q.1 mb mo ms mk my mu q.2 me mr mp mg mw mf ml mq) (Ac ad 71)) args s 0 0 (Ac ad 71)) (F0 m 84 ls []) := by
  obtain ⟨hx, hb, hml, hown, hts, hr, hlk⟩ := id C
  unfold X12_abbreviations_84 at h
  refine lv_iinc (v := (v5 + (1 : Int32))) (lv' := [(5, .int (v5 + (1 : Int32))), (0, .ref (ad 0)), (1, .int v1), (2, .int v2), (3, .long v3)]) hx hb dX12_abbreviations_84 hl (k := 4) rfl rfl (by decide) rfl (fun ls hl => ?_)
  refine lv_goto (tgt := 57) hx hb dX12_abbreviations_87 (by decide) ?_
  exact hk57 h (lv_sub hl [1, 2, 3, 4, 0] rfl) hP hS
def X12_abbreviations_190 (mb : Tmb) (k7 : Tmc → Tma → Int32 → Option (Tmc × Tma)) (mc : Tmc) (ma : Tma) (v1 : Int32) (z0 : Int32) (z1 : Int32) : Option (Tmc × Tma) := (if inb z1 40 = true then (if inb ma.1 40 = true then ((X12_pairs mc mb (ma.1, ma.2.1, ma.2.2.1, (upd ma.2.2.2.1 (z1).toNatClampNeg (vp_nar .boolean z0)), (upd ma.2.2.2.2.1 (ma.1).toNatClampNeg (0 : Int32)), ma.2.2.2.2.2.1, ma.2.2.2.2.2.2.1, ma.2.2.2.2.2.2.2)).bind fun q3 => k7 q3.1 ((q3.2.1 + (1 : Int32)), q3.2.2.1, q3.2.2.2.1, q3.2.2.2.2.1, q3.2.2.2.2.2.1, q3.2.2.2.2.2.2.1, q3.2.2.2.2.2.2.2.1, q3.2.2.2.2.2.2.2.2) v1) else none) else none)
set_option maxRecDepth 20000 in
theorem bX12_abbreviations_190 (C : Cx p s m args meth c cX12_abbreviations 8 none RX12 (.code yX12_abbreviations cX12_abbreviations 8 none)) (hI : Apart ad 71) (hK : va_K D vwCl (tysX cy) s) (hN : NW s) {k7 : Tmc → Tma → Int32 → Option (Tmc × Tma)} {q : Tmc × Tma} (hk7 : ∀ {mc : Tmc} {ma : Tma} {v1 : Int32}, k7 mc ma v1 = some q → ∀ {ls : Array Slot}, lv_has ls 8 [(0, .ref (ad 0)), (1, .int v1)] → ∀ {H : Heap} {locs : List Loc}, va_P D vwCl (GM cy ad mt mc mb mo ms mk my mu ma me mr mp mg mw mf ml mq) H → va_S (Ac ad 71) s.heap H locs → W p l e ({ frames := 4, cells := 0, slots := 0, locals := 96 } : Room) s m args below meth c H locs 0 0 (MQ below (QR none D (GM cy ad mt q.1 mb mo ms mk my mu q.2 me mr mp mg mw mf ml mq) (Ac ad 71)) args s 0 0 (Ac ad 71)) (F0 m 7 ls [])) {v1 : Int32} {z0 : Int32} {z1 : Int32} (h : X12_abbreviations_190 mb k7 mc ma v1 z0 z1 = some q) {ls : Array Slot} (hl : lv_has ls 8 [(0, .ref (ad 0)), (1, .int v1)]) {H : Heap} {locs : List Loc} (hP : va_P D vwCl (GM cy ad mt mc mb mo ms mk my mu ma me mr mp mg mw mf ml mq) H) (hS : va_S (Ac ad 71) s.heap H locs) : W p l e ({ frames := 4, cells := 0, slots := 0, locals := 96 } : Room) s m args below meth c H locs 0 0 (MQ below (QR none D (GM cy ad mt q.1 mb mo ms mk my mu q.2 me mr mp mg mw mf ml mq) (Ac ad 71)) args s 0 0 (Ac ad 71)) (F0 m 190 ls [.int z0, .int z1, .ref (ad 29)]) := by
  obtain ⟨hx, hb, hml, hown, hts, hr, hlk⟩ := id C
  unfold X12_abbreviations_190 at h
  obtain ⟨n1, h⟩ := grd h
  refine sM29 (f := ma.2.2.2.1) C hI hK hP hS rfl n1 dX12_abbreviations_190 (fun H locs hP hS => ?_)
  have hP : va_P D vwCl (GM cy ad mt mc mb mo ms mk my mu (ma.1, ma.2.1, ma.2.2.1, (upd ma.2.2.2.1 (z1).toNatClampNeg (vp_nar .boolean z0)), ma.2.2.2.2.1, ma.2.2.2.2.2.1, ma.2.2.2.2.2.2.1, ma.2.2.2.2.2.2.2) me mr mp mg mw mf ml mq) H := hP
  refine lv_aload_n hx hb dX12_abbreviations_191 rfl (lv_at hl 0 rfl) ?_
  refine gM0_38 C hK hP w1405 dX12_abbreviations_192 ?_
  refine lv_aload_n hx hb dX12_abbreviations_195 rfl (lv_at hl 0 rfl) ?_
  refine gM0_34 (v := ma.1) C hK hP rfl w1401 dX12_abbreviations_196 ?_
  refine lv_iconst (v := (0 : Int32)) hx hb dX12_abbreviations_199 (by decide) ?_
  obtain ⟨n2, h⟩ := grd h
  refine sM30 (f := ma.2.2.2.2.1) C hI hK hP hS rfl n2 dX12_abbreviations_200 (fun H locs hP hS => ?_)
  have hP : va_P D vwCl (GM cy ad mt mc mb mo ms mk my mu (ma.1, ma.2.1, ma.2.2.1, (upd ma.2.2.2.1 (z1).toNatClampNeg (vp_nar .boolean z0)), (upd ma.2.2.2.2.1 (ma.1).toNatClampNeg (0 : Int32)), ma.2.2.2.2.2.1, ma.2.2.2.2.2.2.1, ma.2.2.2.2.2.2.2) me mr mp mg mw mf ml mq) H := hP
  refine lv_aload_n hx hb dX12_abbreviations_201 rfl (lv_at hl 0 rfl) ?_
  obtain ⟨q3, h4, h⟩ := bnd h
  refine cRv (run_V (rest := []) C (kX12_pairs hI h4) caX12_pairs w1750 ⟨rfl, rfl, Nat.le_of_ble_eq_true rfl, Nat.le_of_ble_eq_true rfl⟩ hK hN hP (rM0 hK hP) rfl hl.1 rfl (Nat.le_of_ble_eq_true rfl) dX12_abbreviations_202 ⟨Nat.zero_le _, Nat.zero_le _⟩) hS (fun H locs hP hS => ?_)
  have hP : va_P D vwCl (GM cy ad mt q3.1 mb mo ms mk my mu q3.2 me mr mp mg mw mf ml mq) H := hP
  refine lv_aload_n hx hb dX12_abbreviations_205 rfl (lv_at hl 0 rfl) ?_
  refine lv_dup hx hb dX12_abbreviations_206 rfl ?_
  refine gM0_34 (v := q3.2.1) C hK hP rfl w1401 dX12_abbreviations_207 ?_
  refine lv_iconst (v := (1 : Int32)) hx hb dX12_abbreviations_210 (by decide) ?_
  refine lv_iadd hx hb dX12_abbreviations_211 ?_
  refine pM0_34 (v := (q3.2.1 + (1 : Int32))) C hI hK hP hS w1401 dX12_abbreviations_212 (fun H locs hP hS => ?_)
  have hP : va_P D vwCl (GM cy ad mt q3.1 mb mo ms mk my mu ((q3.2.1 + (1 : Int32)), q3.2.2.1, q3.2.2.2.1, q3.2.2.2.2.1, q3.2.2.2.2.2.1, q3.2.2.2.2.2.2.1, q3.2.2.2.2.2.2.2.1, q3.2.2.2.2.2.2.2.2) me mr mp mg mw mf ml mq) H := hP
  refine lv_goto (tgt := 7) hx hb dX12_abbreviations_215 (by decide) ?_
  exact hk7 h (lv_sub hl [0, 1] rfl) hP hS
def X12_abbreviations_170 (mb : Tmb) (k7 : Tmc → Tma → Int32 → Option (Tmc × Tma)) (mc : Tmc) (ma : Tma) (v1 : Int32) (v6 : Int64) : Option (Tmc × Tma) := (if v6 = (1 : Int64) then X12_abbreviations_190 mb k7 mc ma v1 (1 : Int32) ma.1 else X12_abbreviations_190 mb k7 mc ma v1 (0 : Int32) ma.1)
set_option maxRecDepth 20000 in
theorem bX12_abbreviations_170 (C : Cx p s m args meth c cX12_abbreviations 8 none RX12 (.code yX12_abbreviations cX12_abbreviations 8 none)) (hI : Apart ad 71) (hK : va_K D vwCl (tysX cy) s) (hN : NW s) {k7 : Tmc → Tma → Int32 → Option (Tmc × Tma)} {q : Tmc × Tma} (hk7 : ∀ {mc : Tmc} {ma : Tma} {v1 : Int32}, k7 mc ma v1 = some q → ∀ {ls : Array Slot}, lv_has ls 8 [(0, .ref (ad 0)), (1, .int v1)] → ∀ {H : Heap} {locs : List Loc}, va_P D vwCl (GM cy ad mt mc mb mo ms mk my mu ma me mr mp mg mw mf ml mq) H → va_S (Ac ad 71) s.heap H locs → W p l e ({ frames := 4, cells := 0, slots := 0, locals := 96 } : Room) s m args below meth c H locs 0 0 (MQ below (QR none D (GM cy ad mt q.1 mb mo ms mk my mu q.2 me mr mp mg mw mf ml mq) (Ac ad 71)) args s 0 0 (Ac ad 71)) (F0 m 7 ls [])) {v1 : Int32} {v6 : Int64} (h : X12_abbreviations_170 mb k7 mc ma v1 v6 = some q) {ls : Array Slot} (hl : lv_has ls 8 [(0, .ref (ad 0)), (1, .int v1), (6, .long v6)]) {H : Heap} {locs : List Loc} (hP : va_P D vwCl (GM cy ad mt mc mb mo ms mk my mu ma me mr mp mg mw mf ml mq) H) (hS : va_S (Ac ad 71) s.heap H locs) : W p l e ({ frames := 4, cells := 0, slots := 0, locals := 96 } : Room) s m args below meth c H locs 0 0 (MQ below (QR none D (GM cy ad mt q.1 mb mo ms mk my mu q.2 me mr mp mg mw mf ml mq) (Ac ad 71)) args s 0 0 (Ac ad 71)) (F0 m 170 ls []) := by
  obtain ⟨hx, hb, hml, hown, hts, hr, hlk⟩ := id C
  unfold X12_abbreviations_170 at h
  refine lv_aload_n hx hb dX12_abbreviations_170 rfl (lv_at hl 0 rfl) ?_
  refine gM0_37 C hK hP w1404 dX12_abbreviations_171 ?_
  refine lv_aload_n hx hb dX12_abbreviations_174 rfl (lv_at hl 0 rfl) ?_
  refine gM0_34 (v := ma.1) C hK hP rfl w1401 dX12_abbreviations_175 ?_
  refine lv_lload hx hb dX12_abbreviations_178 (lv_at hl 2 rfl) ?_
  refine lv_lconst (v := (1 : Int64)) hx hb dX12_abbreviations_180 (by decide) ?_
  refine lc_ne (tgt := 189) hx hb dX12_abbreviations_181 dX12_abbreviations_182 (by decide) (fun c1 => ?_) (fun c1 => ?_)
  · rw [if_neg c1] at h
    refine lv_iconst (v := (0 : Int32)) hx hb dX12_abbreviations_189 (by decide) ?_
    exact bX12_abbreviations_190 C hI hK hN @hk7 h (lv_sub hl [0, 1] rfl) hP hS
  · rw [if_pos c1] at h
    refine lv_iconst (v := (1 : Int32)) hx hb dX12_abbreviations_185 (by decide) ?_
    refine lv_goto (tgt := 190) hx hb dX12_abbreviations_186 (by decide) ?_
    exact bX12_abbreviations_190 C hI hK hN @hk7 h (lv_sub hl [0, 1] rfl) hP hS
def X12_abbreviations_105 (mb : Tmb) (k7 : Tmc → Tma → Int32 → Option (Tmc × Tma)) (mc : Tmc) (ma : Tma) (v1 : Int32) (v3 : Int64) : Option (Tmc × Tma) := (if (X12_isRight mc) = 0 then some (mc, ma) else (if inb ma.1 40 = true then ((X12_uleb mc mb).bind fun q3 => (if inb ma.1 40 = true then ((X12_number q3.2 mb (1 : Int32)).bind fun q6 => (if (X12_isRight q6.2) = 0 then X12_abbreviations_170 mb k7 q6.2 (ma.1, (vp_updL ma.2.1 (ma.1).toNatClampNeg v3), (vp_updL ma.2.2.1 (ma.1).toNatClampNeg q3.1), ma.2.2.2.1, ma.2.2.2.2.1, ma.2.2.2.2.2.1, ma.2.2.2.2.2.2.1, ma.2.2.2.2.2.2.2) v1 q6.1 else (if (1 : Int64) < q6.1 then (letq (X12_fail q6.2 (2 : Int32) q3.2.1) fun q10 => X12_abbreviations_170 mb k7 q10 (ma.1, (vp_updL ma.2.1 (ma.1).toNatClampNeg v3), (vp_updL ma.2.2.1 (ma.1).toNatClampNeg q3.1), ma.2.2.2.1, ma.2.2.2.2.1, ma.2.2.2.2.2.1, ma.2.2.2.2.2.2.1, ma.2.2.2.2.2.2.2) v1 q6.1) else X12_abbreviations_170 mb k7 q6.2 (ma.1, (vp_updL ma.2.1 (ma.1).toNatClampNeg v3), (vp_updL ma.2.2.1 (ma.1).toNatClampNeg q3.1), ma.2.2.2.1, ma.2.2.2.2.1, ma.2.2.2.2.2.1, ma.2.2.2.2.2.2.1, ma.2.2.2.2.2.2.2) v1 q6.1))) else none)) else none))
set_option maxRecDepth 20000 in
theorem bX12_abbreviations_105 (C : Cx p s m args meth c cX12_abbreviations 8 none RX12 (.code yX12_abbreviations cX12_abbreviations 8 none)) (hI : Apart ad 71) (hK : va_K D vwCl (tysX cy) s) (hN : NW s) {k7 : Tmc → Tma → Int32 → Option (Tmc × Tma)} {q : Tmc × Tma} (hk7 : ∀ {mc : Tmc} {ma : Tma} {v1 : Int32}, k7 mc ma v1 = some q → ∀ {ls : Array Slot}, lv_has ls 8 [(0, .ref (ad 0)), (1, .int v1)] → ∀ {H : Heap} {locs : List Loc}, va_P D vwCl (GM cy ad mt mc mb mo ms mk my mu ma me mr mp mg mw mf ml mq) H → va_S (Ac ad 71) s.heap H locs → W p l e ({ frames := 4, cells := 0, slots := 0, locals := 96 } : Room) s m args below meth c H locs 0 0 (MQ below (QR none D (GM cy ad mt q.1 mb mo ms mk my mu q.2 me mr mp mg mw mf ml mq) (Ac ad 71)) args s 0 0 (Ac ad 71)) (F0 m 7 ls [])) {v1 : Int32} {v3 : Int64} (h : X12_abbreviations_105 mb k7 mc ma v1 v3 = some q) {ls : Array Slot} (hl : lv_has ls 8 [(0, .ref (ad 0)), (1, .int v1), (3, .long v3)]) {H : Heap} {locs : List Loc} (hP : va_P D vwCl (GM cy ad mt mc mb mo ms mk my mu ma me mr mp mg mw mf ml mq) H) (hS : va_S (Ac ad 71) s.heap H locs) : W p l e ({ frames := 4, cells := 0, slots := 0, locals := 96 } : Room) s m args below meth c H locs 0 0 (MQ below (QR none D (GM cy ad mt q.1 mb mo ms mk my mu q.2 me mr mp mg mw mf ml mq) (Ac ad 71)) args s 0 0 (Ac ad 71)) (F0 m 105 ls []) := by
  obtain ⟨hx, hb, hml, hown, hts, hr, hlk⟩ := id C
  unfold X12_abbreviations_105 at h
  refine lv_aload_n hx hb dX12_abbreviations_105 rfl (lv_at hl 0 rfl) ?_
  refine cPi (run_V (rest := []) C (kX12_isRight rfl) caX12_isRight w1682 ⟨rfl, rfl, Nat.le_of_ble_eq_true rfl, Nat.le_of_ble_eq_true rfl⟩ hK hN hP (rM0 hK hP) rfl hl.1 rfl (Nat.le_of_ble_eq_true rfl) dX12_abbreviations_106 ⟨Nat.zero_le _, Nat.zero_le _⟩) ?_
  refine lv_if_ne (tgt := 113) hx hb dX12_abbreviations_109 (by decide) (fun c1 => ?_) (fun c1 => ?_)
  · rw [if_neg c1] at h
    refine lv_aload_n hx hb dX12_abbreviations_113 rfl (lv_at hl 0 rfl) ?_
    refine gM0_35 C hK hP w1402 dX12_abbreviations_114 ?_
    refine lv_aload_n hx hb dX12_abbreviations_117 rfl (lv_at hl 0 rfl) ?_
    refine gM0_34 (v := ma.1) C hK hP rfl w1401 dX12_abbreviations_118 ?_
    refine lv_lload_n hx hb dX12_abbreviations_121 rfl (lv_at hl 2 rfl) ?_
    obtain ⟨n2, h⟩ := grd h
    refine sM27 (f := ma.2.1) C hI hK hP hS rfl n2 dX12_abbreviations_122 (fun H locs hP hS => ?_)
    have hP : va_P D vwCl (GM cy ad mt mc mb mo ms mk my mu (ma.1, (vp_updL ma.2.1 (ma.1).toNatClampNeg v3), ma.2.2.1, ma.2.2.2.1, ma.2.2.2.2.1, ma.2.2.2.2.2.1, ma.2.2.2.2.2.2.1, ma.2.2.2.2.2.2.2) me mr mp mg mw mf ml mq) H := hP
    refine lv_aload_n hx hb dX12_abbreviations_123 rfl (lv_at hl 0 rfl) ?_
    refine gM0_36 C hK hP w1403 dX12_abbreviations_124 ?_
    refine lv_aload_n hx hb dX12_abbreviations_127 rfl (lv_at hl 0 rfl) ?_
    refine gM0_34 (v := ma.1) C hK hP rfl w1401 dX12_abbreviations_128 ?_
    refine lv_aload_n hx hb dX12_abbreviations_131 rfl (lv_at hl 0 rfl) ?_
    obtain ⟨q3, h4, h⟩ := bnd h
    refine cRl (run_V (rest := [.int ma.1, .ref (ad 28)]) C (kX12_uleb hI h4) caX12_uleb w1741 ⟨rfl, rfl, Nat.le_of_ble_eq_true rfl, Nat.le_of_ble_eq_true rfl⟩ hK hN hP (rM0 hK hP) rfl hl.1 rfl (Nat.le_of_ble_eq_true rfl) dX12_abbreviations_132 ⟨Nat.zero_le _, Nat.zero_le _⟩) hS (fun H locs hP hS => ?_)
    have hP : va_P D vwCl (GM cy ad mt q3.2 mb mo ms mk my mu (ma.1, (vp_updL ma.2.1 (ma.1).toNatClampNeg v3), ma.2.2.1, ma.2.2.2.1, ma.2.2.2.2.1, ma.2.2.2.2.2.1, ma.2.2.2.2.2.2.1, ma.2.2.2.2.2.2.2) me mr mp mg mw mf ml mq) H := hP
    obtain ⟨n5, h⟩ := grd h
    refine sM28 (f := ma.2.2.1) C hI hK hP hS rfl n5 dX12_abbreviations_135 (fun H locs hP hS => ?_)
    have hP : va_P D vwCl (GM cy ad mt q3.2 mb mo ms mk my mu (ma.1, (vp_updL ma.2.1 (ma.1).toNatClampNeg v3), (vp_updL ma.2.2.1 (ma.1).toNatClampNeg q3.1), ma.2.2.2.1, ma.2.2.2.2.1, ma.2.2.2.2.2.1, ma.2.2.2.2.2.2.1, ma.2.2.2.2.2.2.2) me mr mp mg mw mf ml mq) H := hP
    refine lv_aload_n hx hb dX12_abbreviations_136 rfl (lv_at hl 0 rfl) ?_
    refine gM0_77 (v := q3.2.1) C hK hP rfl w1444 dX12_abbreviations_137 ?_
    refine lv_istore (lv' := [(5, .int q3.2.1), (0, .ref (ad 0)), (1, .int v1), (3, .long v3)]) hx hb dX12_abbreviations_140 hl (by decide) rfl (fun ls hl => ?_)
    refine lv_aload_n hx hb dX12_abbreviations_142 rfl (lv_at hl 1 rfl) ?_
    refine lv_iconst (v := (1 : Int32)) hx hb dX12_abbreviations_143 (by decide) ?_
    obtain ⟨q6, h7, h⟩ := bnd h
    refine cRl (run_V (rest := []) C (kX12_number hI h7) caX12_number w1724 ⟨rfl, rfl, Nat.le_of_ble_eq_true rfl, Nat.le_of_ble_eq_true rfl⟩ hK hN hP (rM0 hK hP) rfl hl.1 rfl (Nat.le_of_ble_eq_true rfl) dX12_abbreviations_144 ⟨Nat.zero_le _, Nat.zero_le _⟩) hS (fun H locs hP hS => ?_)
    have hP : va_P D vwCl (GM cy ad mt q6.2 mb mo ms mk my mu (ma.1, (vp_updL ma.2.1 (ma.1).toNatClampNeg v3), (vp_updL ma.2.2.1 (ma.1).toNatClampNeg q3.1), ma.2.2.2.1, ma.2.2.2.2.1, ma.2.2.2.2.2.1, ma.2.2.2.2.2.2.1, ma.2.2.2.2.2.2.2) me mr mp mg mw mf ml mq) H := hP
    refine lv_lstore (lv' := [(6, .long q6.1), (5, .int q3.2.1), (0, .ref (ad 0)), (1, .int v1), (3, .long v3)]) hx hb dX12_abbreviations_147 hl (by decide) rfl (fun ls hl => ?_)
    refine lv_aload_n hx hb dX12_abbreviations_149 rfl (lv_at hl 2 rfl) ?_
    refine cPi (run_V (rest := []) C (kX12_isRight rfl) caX12_isRight w1682 ⟨rfl, rfl, Nat.le_of_ble_eq_true rfl, Nat.le_of_ble_eq_true rfl⟩ hK hN hP (rM0 hK hP) rfl hl.1 rfl (Nat.le_of_ble_eq_true rfl) dX12_abbreviations_150 ⟨Nat.zero_le _, Nat.zero_le _⟩) ?_
    refine lv_if_eq (tgt := 170) hx hb dX12_abbreviations_153 (by decide) (fun c8 => ?_) (fun c8 => ?_)
    · rw [if_pos c8] at h
      exact bX12_abbreviations_170 C hI hK hN @hk7 h (lv_sub hl [2, 3, 0] rfl) hP hS
    · rw [if_neg c8] at h
      refine lv_lload hx hb dX12_abbreviations_156 (lv_at hl 0 rfl) ?_
      refine lv_lconst (v := (1 : Int64)) hx hb dX12_abbreviations_158 (by decide) ?_
      refine lc_le (tgt := 170) hx hb dX12_abbreviations_159 dX12_abbreviations_160 (by decide) (fun c9 => ?_) (fun c9 => ?_)
      · rw [if_neg c9] at h
        exact bX12_abbreviations_170 C hI hK hN @hk7 h (lv_sub hl [2, 3, 0] rfl) hP hS
      · rw [if_pos c9] at h
        refine lv_aload_n hx hb dX12_abbreviations_163 rfl (lv_at hl 2 rfl) ?_
        refine lv_iconst (v := (2 : Int32)) hx hb dX12_abbreviations_164 (by decide) ?_
        refine lv_iload hx hb dX12_abbreviations_165 (lv_at hl 1 rfl) ?_
        obtain ⟨q10, h11, h⟩ := lets h
        refine cRv (run_V (rest := []) C (kX12_fail hI h11) caX12_fail w1678 ⟨rfl, rfl, Nat.le_of_ble_eq_true rfl, Nat.le_of_ble_eq_true rfl⟩ hK hN hP (rM0 hK hP) rfl hl.1 rfl (Nat.le_of_ble_eq_true rfl) dX12_abbreviations_167 ⟨Nat.zero_le _, Nat.zero_le _⟩) hS (fun H locs hP hS => ?_)
        have hP : va_P D vwCl (GM cy ad mt q10 mb mo ms mk my mu (ma.1, (vp_updL ma.2.1 (ma.1).toNatClampNeg v3), (vp_updL ma.2.2.1 (ma.1).toNatClampNeg q3.1), ma.2.2.2.1, ma.2.2.2.2.1, ma.2.2.2.2.2.1, ma.2.2.2.2.2.2.1, ma.2.2.2.2.2.2.2) me mr mp mg mw mf ml mq) H := hP
        exact bX12_abbreviations_170 C hI hK hN @hk7 h (lv_sub hl [2, 3, 0] rfl) hP hS
  · rw [if_pos c1] at h
    obtain rfl := Option.some.inj h
    exact W.vret hx hb hr (fun t ht _ => ⟨rfl, by rw [ht]; exact hP, hS.F ht⟩) hS.2.2 dX12_abbreviations_112 hlk
def X12_abbreviations_57b (mb : Tmb) (k7 : Tmc → Tma → Int32 → Option (Tmc × Tma)) (k57 : Tmc → Tma → Int32 → Int32 → Int64 → Int32 → Option (Tmc × Tma)) (mc : Tmc) (ma : Tma) (v1 : Int32) (v2 : Int32) (v3 : Int64) (v5 : Int32) : Option (Tmc × Tma) := (if v5 < ma.1 then (if inb v5 40 = true then (if (ma.2.1 (v5).toNatClampNeg) = v3 then (letq (X12_fail mc (2 : Int32) v2) fun q7 => X12_abbreviations_84 mb k7 k57 q7 ma v1 v2 v3 v5) else X12_abbreviations_84 mb k7 k57 mc ma v1 v2 v3 v5) else none) else (if ma.1 = (40 : Int32) then (letq (X12_fail mc (4 : Int32) v2) fun q3 => X12_abbreviations_105 mb k7 q3 ma v1 v3) else X12_abbreviations_105 mb k7 mc ma v1 v3))
def X12_abbreviations_57 (mb : Tmb) (k7 : Tmc → Tma → Int32 → Option (Tmc × Tma)) (n : Nat) (st : Tmc × Tma × Int32 × Int32 × Int64 × Int32) : Option (Tmc × Tma) := lp (fun rec st => X12_abbreviations_57b mb k7 (fun a0 a1 a2 a3 a4 a5 => rec (a0, a1, a2, a3, a4, a5)) st.1 st.2.1 st.2.2.1 st.2.2.2.1 st.2.2.2.2.1 st.2.2.2.2.2) n st
set_option maxRecDepth 20000 in
theorem bX12_abbreviations_57 (C : Cx p s m args meth c cX12_abbreviations 8 none RX12 (.code yX12_abbreviations cX12_abbreviations 8 none)) (hI : Apart ad 71) (hK : va_K D vwCl (tysX cy) s) (hN : NW s) {k7 : Tmc → Tma → Int32 → Option (Tmc × Tma)} {q : Tmc × Tma} (hk7 : ∀ {mc : Tmc} {ma : Tma} {v1 : Int32}, k7 mc ma v1 = some q → ∀ {ls : Array Slot}, lv_has ls 8 [(0, .ref (ad 0)), (1, .int v1)] → ∀ {H : Heap} {locs : List Loc}, va_P D vwCl (GM cy ad mt mc mb mo ms mk my mu ma me mr mp mg mw mf ml mq) H → va_S (Ac ad 71) s.heap H locs → W p l e ({ frames := 4, cells := 0, slots := 0, locals := 96 } : Room) s m args below meth c H locs 0 0 (MQ below (QR none D (GM cy ad mt q.1 mb mo ms mk my mu q.2 me mr mp mg mw mf ml mq) (Ac ad 71)) args s 0 0 (Ac ad 71)) (F0 m 7 ls [])) : ∀ (n : Nat) {mc : Tmc} {ma : Tma} {v1 : Int32} {v2 : Int32} {v3 : Int64} {v5 : Int32}, X12_abbreviations_57 mb k7 n (mc, ma, v1, v2, v3, v5) = some q → ∀ {ls : Array Slot}, lv_has ls 8 [(0, .ref (ad 0)), (1, .int v1), (2, .int v2), (3, .long v3), (5, .int v5)] → ∀ {H : Heap} {locs : List Loc}, va_P D vwCl (GM cy ad mt mc mb mo ms mk my mu ma me mr mp mg mw mf ml mq) H → va_S (Ac ad 71) s.heap H locs → W p l e ({ frames := 4, cells := 0, slots := 0, locals := 96 } : Room) s m args below meth c H locs 0 0 (MQ below (QR none D (GM cy ad mt q.1 mb mo ms mk my mu q.2 me mr mp mg mw mf ml mq) (Ac ad 71)) args s 0 0 (Ac ad 71)) (F0 m 57 ls []) := by
  obtain ⟨hx, hb, hml, hown, hts, hr, hlk⟩ := id C
  intro n
  induction n with
  | zero =>
    intro mc ma v1 v2 v3 v5 h ls hl H locs hP hS
    have h : (none : Option (Tmc × Tma)) = some q := h
    cases h
  | succ n ih =>
    intro mc ma v1 v2 v3 v5 h ls hl H locs hP hS
    have h : X12_abbreviations_57b mb k7 (fun a0 a1 a2 a3 a4 a5 => X12_abbreviations_57 mb k7 n (a0, a1, a2, a3, a4, a5)) mc ma v1 v2 v3 v5 = some q := h
    unfold X12_abbreviations_57b at h
    refine lv_iload hx hb dX12_abbreviations_57 (lv_at hl 4 rfl) ?_
    refine lv_aload_n hx hb dX12_abbreviations_59 rfl (lv_at hl 0 rfl) ?_
    refine gM0_34 (v := ma.1) C hK hP rfl w1401 dX12_abbreviations_60 ?_
    refine b_icmp_ge (tgt := 90) hx hb dX12_abbreviations_63 (by decide) (fun c1 => ?_) (fun c1 => ?_)
    · rw [if_neg c1] at h
      refine lv_aload_n hx hb dX12_abbreviations_90 rfl (lv_at hl 0 rfl) ?_
      refine gM0_34 (v := ma.1) C hK hP rfl w1401 dX12_abbreviations_91 ?_
      refine lv_bipush (v := (40 : Int32)) hx hb dX12_abbreviations_94 (by decide) ?_
      refine lv_icmp_ne (tgt := 105) hx hb dX12_abbreviations_96 (by decide) (fun c2 => ?_) (fun c2 => ?_)
      · rw [if_neg c2] at h
        exact bX12_abbreviations_105 C hI hK hN @hk7 h (lv_sub hl [0, 1, 3] rfl) hP hS
      · rw [if_pos c2] at h
        refine lv_aload_n hx hb dX12_abbreviations_99 rfl (lv_at hl 0 rfl) ?_
        refine lv_iconst (v := (4 : Int32)) hx hb dX12_abbreviations_100 (by decide) ?_
        refine lv_iload_n hx hb dX12_abbreviations_101 rfl (lv_at hl 2 rfl) ?_
        obtain ⟨q3, h4, h⟩ := lets h
        refine cRv (run_V (rest := []) C (kX12_fail hI h4) caX12_fail w1678 ⟨rfl, rfl, Nat.le_of_ble_eq_true rfl, Nat.le_of_ble_eq_true rfl⟩ hK hN hP (rM0 hK hP) rfl hl.1 rfl (Nat.le_of_ble_eq_true rfl) dX12_abbreviations_102 ⟨Nat.zero_le _, Nat.zero_le _⟩) hS (fun H locs hP hS => ?_)
        have hP : va_P D vwCl (GM cy ad mt q3 mb mo ms mk my mu ma me mr mp mg mw mf ml mq) H := hP
        exact bX12_abbreviations_105 C hI hK hN @hk7 h (lv_sub hl [0, 1, 3] rfl) hP hS
    · rw [if_pos c1] at h
      refine lv_aload_n hx hb dX12_abbreviations_66 rfl (lv_at hl 0 rfl) ?_
      refine gM0_35 C hK hP w1402 dX12_abbreviations_67 ?_
      refine lv_iload hx hb dX12_abbreviations_70 (lv_at hl 4 rfl) ?_
      obtain ⟨n5, h⟩ := grd h
      refine aM27 (f := ma.2.1) C hK hP rfl n5 dX12_abbreviations_72 ?_
      refine lv_lload_n hx hb dX12_abbreviations_73 rfl (lv_at hl 3 rfl) ?_
      refine lc_ne (tgt := 84) hx hb dX12_abbreviations_74 dX12_abbreviations_75 (by decide) (fun c6 => ?_) (fun c6 => ?_)
      · rw [if_neg c6] at h
        exact bX12_abbreviations_84 C hI hK hN @hk7 @ih h (lv_sub hl [0, 1, 2, 3, 4] rfl) hP hS
      · rw [if_pos c6] at h
        refine lv_aload_n hx hb dX12_abbreviations_78 rfl (lv_at hl 0 rfl) ?_
        refine lv_iconst (v := (2 : Int32)) hx hb dX12_abbreviations_79 (by decide) ?_
        refine lv_iload_n hx hb dX12_abbreviations_80 rfl (lv_at hl 2 rfl) ?_
        obtain ⟨q7, h8, h⟩ := lets h
        refine cRv (run_V (rest := []) C (kX12_fail hI h8) caX12_fail w1678 ⟨rfl, rfl, Nat.le_of_ble_eq_true rfl, Nat.le_of_ble_eq_true rfl⟩ hK hN hP (rM0 hK hP) rfl hl.1 rfl (Nat.le_of_ble_eq_true rfl) dX12_abbreviations_81 ⟨Nat.zero_le _, Nat.zero_le _⟩) hS (fun H locs hP hS => ?_)
        have hP : va_P D vwCl (GM cy ad mt q7 mb mo ms mk my mu ma me mr mp mg mw mf ml mq) H := hP
        exact bX12_abbreviations_84 C hI hK hN @hk7 @ih h (lv_sub hl [0, 1, 2, 3, 4] rfl) hP hS
def X12_abbreviations_46 (mb : Tmb) (k7 : Tmc → Tma → Int32 → Option (Tmc × Tma)) (mc : Tmc) (ma : Tma) (v2 : Int32) (v3 : Int64) (z0 : Int32) : Option (Tmc × Tma) := (if z0 = 0 then k7 mc ma z0 else X12_abbreviations_57 mb k7 FU (mc, ma, z0, v2, v3, (0 : Int32)))
set_option maxRecDepth 20000 in
theorem bX12_abbreviations_46 (C : Cx p s m args meth c cX12_abbreviations 8 none RX12 (.code yX12_abbreviations cX12_abbreviations 8 none)) (hI : Apart ad 71) (hK : va_K D vwCl (tysX cy) s) (hN : NW s) {k7 : Tmc → Tma → Int32 → Option (Tmc × Tma)} {q : Tmc × Tma} (hk7 : ∀ {mc : Tmc} {ma : Tma} {v1 : Int32}, k7 mc ma v1 = some q → ∀ {ls : Array Slot}, lv_has ls 8 [(0, .ref (ad 0)), (1, .int v1)] → ∀ {H : Heap} {locs : List Loc}, va_P D vwCl (GM cy ad mt mc mb mo ms mk my mu ma me mr mp mg mw mf ml mq) H → va_S (Ac ad 71) s.heap H locs → W p l e ({ frames := 4, cells := 0, slots := 0, locals := 96 } : Room) s m args below meth c H locs 0 0 (MQ below (QR none D (GM cy ad mt q.1 mb mo ms mk my mu q.2 me mr mp mg mw mf ml mq) (Ac ad 71)) args s 0 0 (Ac ad 71)) (F0 m 7 ls [])) {v2 : Int32} {v3 : Int64} {z0 : Int32} (h : X12_abbreviations_46 mb k7 mc ma v2 v3 z0 = some q) {ls : Array Slot} (hl : lv_has ls 8 [(0, .ref (ad 0)), (2, .int v2), (3, .long v3)]) {H : Heap} {locs : List Loc} (hP : va_P D vwCl (GM cy ad mt mc mb mo ms mk my mu ma me mr mp mg mw mf ml mq) H) (hS : va_S (Ac ad 71) s.heap H locs) : W p l e ({ frames := 4, cells := 0, slots := 0, locals := 96 } : Room) s m args below meth c H locs 0 0 (MQ below (QR none D (GM cy ad mt q.1 mb mo ms mk my mu q.2 me mr mp mg mw mf ml mq) (Ac ad 71)) args s 0 0 (Ac ad 71)) (F0 m 46 ls [.int z0]) := by
  obtain ⟨hx, hb, hml, hown, hts, hr, hlk⟩ := id C
  unfold X12_abbreviations_46 at h
  refine lv_istore_n (lv' := [(1, .int z0), (0, .ref (ad 0)), (2, .int v2), (3, .long v3)]) hx hb dX12_abbreviations_46 rfl hl (by decide) rfl (fun ls hl => ?_)
  refine lv_iload_n hx hb dX12_abbreviations_47 rfl (lv_at hl 0 rfl) ?_
  refine lv_if_ne (tgt := 54) hx hb dX12_abbreviations_48 (by decide) (fun c1 => ?_) (fun c1 => ?_)
  · rw [if_neg c1] at h
    refine lv_iconst (v := (0 : Int32)) hx hb dX12_abbreviations_54 (by decide) ?_
    refine lv_istore (lv' := [(5, .int (0 : Int32)), (1, .int z0), (0, .ref (ad 0)), (2, .int v2), (3, .long v3)]) hx hb dX12_abbreviations_55 hl (by decide) rfl (fun ls hl => ?_)
    exact bX12_abbreviations_57 C hI hK hN @hk7 FU h (lv_sub hl [2, 1, 3, 4, 0] rfl) hP hS
  · rw [if_pos c1] at h
    refine lv_goto (tgt := 7) hx hb dX12_abbreviations_51 (by decide) ?_
    exact hk7 h (lv_sub hl [1, 0] rfl) hP hS
def X12_abbreviations_45 (mb : Tmb) (k7 : Tmc → Tma → Int32 → Option (Tmc × Tma)) (mc : Tmc) (ma : Tma) (v2 : Int32) (v3 : Int64) : Option (Tmc × Tma) := X12_abbreviations_46 mb k7 mc ma v2 v3 (0 : Int32)
set_option maxRecDepth 20000 in
theorem bX12_abbreviations_45 (C : Cx p s m args meth c cX12_abbreviations 8 none RX12 (.code yX12_abbreviations cX12_abbreviations 8 none)) (hI : Apart ad 71) (hK : va_K D vwCl (tysX cy) s) (hN : NW s) {k7 : Tmc → Tma → Int32 → Option (Tmc × Tma)} {q : Tmc × Tma} (hk7 : ∀ {mc : Tmc} {ma : Tma} {v1 : Int32}, k7 mc ma v1 = some q → ∀ {ls : Array Slot}, lv_has ls 8 [(0, .ref (ad 0)), (1, .int v1)] → ∀ {H : Heap} {locs : List Loc}, va_P D vwCl (GM cy ad mt mc mb mo ms mk my mu ma me mr mp mg mw mf ml mq) H → va_S (Ac ad 71) s.heap H locs → W p l e ({ frames := 4, cells := 0, slots := 0, locals := 96 } : Room) s m args below meth c H locs 0 0 (MQ below (QR none D (GM cy ad mt q.1 mb mo ms mk my mu q.2 me mr mp mg mw mf ml mq) (Ac ad 71)) args s 0 0 (Ac ad 71)) (F0 m 7 ls [])) {v2 : Int32} {v3 : Int64} (h : X12_abbreviations_45 mb k7 mc ma v2 v3 = some q) {ls : Array Slot} (hl : lv_has ls 8 [(0, .ref (ad 0)), (2, .int v2), (3, .long v3)]) {H : Heap} {locs : List Loc} (hP : va_P D vwCl (GM cy ad mt mc mb mo ms mk my mu ma me mr mp mg mw mf ml mq) H) (hS : va_S (Ac ad 71) s.heap H locs) : W p l e ({ frames := 4, cells := 0, slots := 0, locals := 96 } : Room) s m args below meth c H locs 0 0 (MQ below (QR none D (GM cy ad mt q.1 mb mo ms mk my mu q.2 me mr mp mg mw mf ml mq) (Ac ad 71)) args s 0 0 (Ac ad 71)) (F0 m 45 ls []) := by
  obtain ⟨hx, hb, hml, hown, hts, hr, hlk⟩ := id C
  unfold X12_abbreviations_45 at h
  refine lv_iconst (v := (0 : Int32)) hx hb dX12_abbreviations_45 (by decide) ?_
  exact bX12_abbreviations_46 C hI hK hN @hk7 h (lv_sub hl [0, 1, 2] rfl) hP hS
def X12_abbreviations_7b (mb : Tmb)  (k7 : Tmc → Tma → Int32 → Option (Tmc × Tma)) (mc : Tmc) (ma : Tma) (v1 : Int32) : Option (Tmc × Tma) := (if v1 = 0 then some (mc, ma) else (if (X12_isRight mc) = 0 then some (mc, ma) else ((X12_uleb mc mb).bind fun q3 => (if (X12_isRight q3.2) = 0 then X12_abbreviations_45 mb k7 q3.2 ma mc.1 q3.1 else (if q3.1 = (0 : Int64) then X12_abbreviations_45 mb k7 q3.2 ma mc.1 q3.1 else X12_abbreviations_46 mb k7 q3.2 ma mc.1 q3.1 (1 : Int32))))))
def X12_abbreviations_7 (mb : Tmb)  (n : Nat) (st : Tmc × Tma × Int32) : Option (Tmc × Tma) := lp (fun rec st => X12_abbreviations_7b mb  (fun a0 a1 a2 => rec (a0, a1, a2)) st.1 st.2.1 st.2.2) n st
set_option maxRecDepth 20000 in
theorem bX12_abbreviations_7 (C : Cx p s m args meth c cX12_abbreviations 8 none RX12 (.code yX12_abbreviations cX12_abbreviations 8 none)) (hI : Apart ad 71) (hK : va_K D vwCl (tysX cy) s) (hN : NW s)  {q : Tmc × Tma}  : ∀ (n : Nat) {mc : Tmc} {ma : Tma} {v1 : Int32}, X12_abbreviations_7 mb  n (mc, ma, v1) = some q → ∀ {ls : Array Slot}, lv_has ls 8 [(0, .ref (ad 0)), (1, .int v1)] → ∀ {H : Heap} {locs : List Loc}, va_P D vwCl (GM cy ad mt mc mb mo ms mk my mu ma me mr mp mg mw mf ml mq) H → va_S (Ac ad 71) s.heap H locs → W p l e ({ frames := 4, cells := 0, slots := 0, locals := 96 } : Room) s m args below meth c H locs 0 0 (MQ below (QR none D (GM cy ad mt q.1 mb mo ms mk my mu q.2 me mr mp mg mw mf ml mq) (Ac ad 71)) args s 0 0 (Ac ad 71)) (F0 m 7 ls []) := by
  obtain ⟨hx, hb, hml, hown, hts, hr, hlk⟩ := id C
  intro n
  induction n with
  | zero =>
    intro mc ma v1 h ls hl H locs hP hS
    have h : (none : Option (Tmc × Tma)) = some q := h
    cases h
  | succ n ih =>
    intro mc ma v1 h ls hl H locs hP hS
    have h : X12_abbreviations_7b mb  (fun a0 a1 a2 => X12_abbreviations_7 mb  n (a0, a1, a2)) mc ma v1 = some q := h
    unfold X12_abbreviations_7b at h
    refine lv_iload_n hx hb dX12_abbreviations_7 rfl (lv_at hl 1 rfl) ?_
    refine lv_if_eq (tgt := 218) hx hb dX12_abbreviations_8 (by decide) (fun c1 => ?_) (fun c1 => ?_)
    · rw [if_pos c1] at h
      obtain rfl := Option.some.inj h
      exact W.vret hx hb hr (fun t ht _ => ⟨rfl, by rw [ht]; exact hP, hS.F ht⟩) hS.2.2 dX12_abbreviations_218 hlk
    · rw [if_neg c1] at h
      refine lv_aload_n hx hb dX12_abbreviations_11 rfl (lv_at hl 0 rfl) ?_
      refine cPi (run_V (rest := []) C (kX12_isRight rfl) caX12_isRight w1682 ⟨rfl, rfl, Nat.le_of_ble_eq_true rfl, Nat.le_of_ble_eq_true rfl⟩ hK hN hP (rM0 hK hP) rfl hl.1 rfl (Nat.le_of_ble_eq_true rfl) dX12_abbreviations_12 ⟨Nat.zero_le _, Nat.zero_le _⟩) ?_
      refine lv_if_eq (tgt := 218) hx hb dX12_abbreviations_15 (by decide) (fun c2 => ?_) (fun c2 => ?_)
      · rw [if_pos c2] at h
        obtain rfl := Option.some.inj h
        exact W.vret hx hb hr (fun t ht _ => ⟨rfl, by rw [ht]; exact hP, hS.F ht⟩) hS.2.2 dX12_abbreviations_218 hlk
      · rw [if_neg c2] at h
        refine lv_aload_n hx hb dX12_abbreviations_18 rfl (lv_at hl 0 rfl) ?_
        refine gM0_77 (v := mc.1) C hK hP rfl w1444 dX12_abbreviations_19 ?_
        refine lv_istore_n (lv' := [(2, .int mc.1), (0, .ref (ad 0)), (1, .int v1)]) hx hb dX12_abbreviations_22 rfl hl (by decide) rfl (fun ls hl => ?_)
        refine lv_aload_n hx hb dX12_abbreviations_23 rfl (lv_at hl 1 rfl) ?_
        obtain ⟨q3, h4, h⟩ := bnd h
        refine cRl (run_V (rest := []) C (kX12_uleb hI h4) caX12_uleb w1741 ⟨rfl, rfl, Nat.le_of_ble_eq_true rfl, Nat.le_of_ble_eq_true rfl⟩ hK hN hP (rM0 hK hP) rfl hl.1 rfl (Nat.le_of_ble_eq_true rfl) dX12_abbreviations_24 ⟨Nat.zero_le _, Nat.zero_le _⟩) hS (fun H locs hP hS => ?_)
        have hP : va_P D vwCl (GM cy ad mt q3.2 mb mo ms mk my mu ma me mr mp mg mw mf ml mq) H := hP
        refine lv_lstore_n (lv' := [(3, .long q3.1), (2, .int mc.1), (0, .ref (ad 0)), (1, .int v1)]) hx hb dX12_abbreviations_27 rfl hl (by decide) rfl (fun ls hl => ?_)
        refine lv_aload_n hx hb dX12_abbreviations_28 rfl (lv_at hl 2 rfl) ?_
        refine cPi (run_V (rest := []) C (kX12_isRight rfl) caX12_isRight w1682 ⟨rfl, rfl, Nat.le_of_ble_eq_true rfl, Nat.le_of_ble_eq_true rfl⟩ hK hN hP (rM0 hK hP) rfl hl.1 rfl (Nat.le_of_ble_eq_true rfl) dX12_abbreviations_29 ⟨Nat.zero_le _, Nat.zero_le _⟩) ?_
        refine lv_if_eq (tgt := 45) hx hb dX12_abbreviations_32 (by decide) (fun c5 => ?_) (fun c5 => ?_)
        · rw [if_pos c5] at h
          exact bX12_abbreviations_45 C hI hK hN @ih h (lv_sub hl [2, 1, 0] rfl) hP hS
        · rw [if_neg c5] at h
          refine lv_lload_n hx hb dX12_abbreviations_35 rfl (lv_at hl 0 rfl) ?_
          refine lv_lconst (v := (0 : Int64)) hx hb dX12_abbreviations_36 (by decide) ?_
          refine lc_eq (tgt := 45) hx hb dX12_abbreviations_37 dX12_abbreviations_38 (by decide) (fun c6 => ?_) (fun c6 => ?_)
          · rw [if_pos c6] at h
            exact bX12_abbreviations_45 C hI hK hN @ih h (lv_sub hl [2, 1, 0] rfl) hP hS
          · rw [if_neg c6] at h
            refine lv_iconst (v := (1 : Int32)) hx hb dX12_abbreviations_41 (by decide) ?_
            refine lv_goto (tgt := 46) hx hb dX12_abbreviations_42 (by decide) ?_
            exact bX12_abbreviations_46 C hI hK hN @ih h (lv_sub hl [2, 1, 0] rfl) hP hS
def X12_abbreviations (mc : Tmc) (mb : Tmb) (ma : Tma)  : Option (Tmc × Tma) := X12_abbreviations_7 mb FU (mc, ((0 : Int32), ma.2.1, ma.2.2.1, ma.2.2.2.1, ma.2.2.2.2.1, ma.2.2.2.2.2.1, ma.2.2.2.2.2.2.1, ma.2.2.2.2.2.2.2), (1 : Int32))
set_option maxRecDepth 20000 in
theorem bX12_abbreviations_0 (C : Cx p s m args meth c cX12_abbreviations 8 none RX12 (.code yX12_abbreviations cX12_abbreviations 8 none)) (hI : Apart ad 71) (hK : va_K D vwCl (tysX cy) s) (hN : NW s)  {q : Tmc × Tma}   (h : X12_abbreviations mc mb ma = some q) {ls : Array Slot} (hl : lv_has ls 8 [(0, .ref (ad 0))]) {H : Heap} {locs : List Loc} (hP : va_P D vwCl (GM cy ad mt mc mb mo ms mk my mu ma me mr mp mg mw mf ml mq) H) (hS : va_S (Ac ad 71) s.heap H locs) : W p l e ({ frames := 4, cells := 0, slots := 0, locals := 96 } : Room) s m args below meth c H locs 0 0 (MQ below (QR none D (GM cy ad mt q.1 mb mo ms mk my mu q.2 me mr mp mg mw mf ml mq) (Ac ad 71)) args s 0 0 (Ac ad 71)) (F0 m 0 ls []) := by
  obtain ⟨hx, hb, hml, hown, hts, hr, hlk⟩ := id C
  unfold X12_abbreviations at h
  refine lv_aload_n hx hb dX12_abbreviations_0 rfl (lv_at hl 0 rfl) ?_
  refine lv_iconst (v := (0 : Int32)) hx hb dX12_abbreviations_1 (by decide) ?_
  refine pM0_34 (v := (0 : Int32)) C hI hK hP hS w1401 dX12_abbreviations_2 (fun H locs hP hS => ?_)
  have hP : va_P D vwCl (GM cy ad mt mc mb mo ms mk my mu ((0 : Int32), ma.2.1, ma.2.2.1, ma.2.2.2.1, ma.2.2.2.2.1, ma.2.2.2.2.2.1, ma.2.2.2.2.2.2.1, ma.2.2.2.2.2.2.2) me mr mp mg mw mf ml mq) H := hP
  refine lv_iconst (v := (1 : Int32)) hx hb dX12_abbreviations_5 (by decide) ?_
  refine lv_istore_n (lv' := [(1, .int (1 : Int32)), (0, .ref (ad 0))]) hx hb dX12_abbreviations_6 rfl hl (by decide) rfl (fun ls hl => ?_)
  exact bX12_abbreviations_7 C hI hK hN FU h (lv_sub hl [1, 0] rfl) hP hS
theorem kX12_abbreviations (hI : Apart ad 71)  {q : Tmc × Tma} (h : X12_abbreviations mc mb ma = some q) : Met l yX12_abbreviations (.code yX12_abbreviations cX12_abbreviations 8 none :: WA) ({ frames := 4, cells := 0, slots := 0, locals := 96 } : Room) (va_Pc [.ref (ad 0)] (PR D cy (GM cy ad mt mc mb mo ms mk my mu ma me mr mp mg mw mf ml mq))) (QR none D (GM cy ad mt q.1 mb mo ms mk my mu q.2 me mr mp mg mw mf ml mq) (Ac ad 71)) 0 0 (Ac ad 71) :=
  met_of (by decide) (Nat.le_of_ble_eq_true rfl) (fun p e s m below meth c ls C hP hK hN hl => bX12_abbreviations_0 C hI hK hN h hl hP va_S.rf)
end
