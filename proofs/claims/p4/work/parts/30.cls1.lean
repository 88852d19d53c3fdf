section
variable {t adK adV : Nat → Nat} {k : Nat}
variable {p : Program} {l : Launch} {e : Env} {s : State} {m : MethodId} {args : Array Value} {below : List Frame} {meth : Method} {c : Code} {D : va_G} {cy : Nat → ClassId} {ad : Nat → Nat}
variable {tk : Nat} {sp : Nat} {nm : Tnm} {tp : Ttp} {kp : Tkp} {cu : Tcu} {se : Tse} {ur : Tur} {ab : Tab} {lo : Tlo} {im : Tim} {sy : Tsy} {un : Tun} {en : Ten} {ra : Tra} {li : Tli} {i2 : Ti2}
def X0_indexOf_2b (ab : Tab)  (k2 : Int64 → Int32 → Option (Int32))  (v1 : Int64) (v3 : Int32) : Option (Int32) := (if v3 < (40 : Int32) then (if v3 < ab.2.2.2.2.2.2.2 then (if (at_l 40 ab.1 v3) = v1 then some v3 else k2 v1 (v3 + (1 : Int32))) else some (-1 : Int32)) else some (-1 : Int32))
def X0_indexOf_2 (ab : Tab)  (n : Nat) (st : Int64 × Int32) : Option (Int32) := lp (fun rec st => X0_indexOf_2b ab  (fun a0 a1 => rec (a0, a1)) st.1 st.2) n st
set_option maxRecDepth 20000 in
theorem bX0_indexOf_2 (C : Cx p s m args meth c cX0_indexOf 4 (some .int) RX0 (.code yX0_indexOf cX0_indexOf 4 (some .int))) (hK : va_K D vwCl (tysX cy) s) (hN : NW s)  {q : Int32}  : ∀ (n : Nat)  {v1 : Int64} {v3 : Int32}, X0_indexOf_2 ab  n (v1, v3) = some q → ∀ {ls : Array Slot}, lv_has ls 4 [(0, .ref (ad 11)), (1, .long v1), (3, .int v3)] → va_P D vwCl (GX cy ad tk sp nm tp kp cu se ur ab lo im sy un en ra li i2) s.heap → W p l e ({ frames := 1, cells := 0, slots := 0, locals := 21 } : Room) s m args below meth c s.heap [] 0 0 (MQ below (QP (some (.int q))) args s 0 0 (fun _ => False)) (F0 m 2 ls []) := by
  obtain ⟨hx, hb, hml, hown, hts, hr, hlk⟩ := id C
  intro n
  induction n with
  | zero =>
    intro v1 v3 h ls hl hP
    have h : (none : Option (Int32)) = some q := h
    cases h
  | succ n ih =>
    intro v1 v3 h ls hl hP
    have h : X0_indexOf_2b ab  (fun a0 a1 => X0_indexOf_2 ab  n (a0, a1)) v1 v3 = some q := h
    unfold X0_indexOf_2b at h
    refine lv_iload_n hx hb dX0_indexOf_2 rfl (lv_at hl 2 rfl) ?_
    refine lv_bipush (v := (40 : Int32)) hx hb dX0_indexOf_3 (by decide) ?_
    refine b_icmp_ge (tgt := 37) hx hb dX0_indexOf_5 (by decide) (fun c1 => ?_) (fun c1 => ?_)
    · rw [if_neg c1] at h
      refine lv_iconst (v := (-1 : Int32)) hx hb dX0_indexOf_37 (by decide) ?_
      obtain rfl := Option.some.inj h
      exact W.iret hx hb hr (fun t ht _ => ⟨rfl, ht⟩) (fun _ h9 => by cases h9) dX0_indexOf_38 hlk
    · rw [if_pos c1] at h
      refine lv_iload_n hx hb dX0_indexOf_8 rfl (lv_at hl 2 rfl) ?_
      refine lv_aload_n hx hb dX0_indexOf_9 rfl (lv_at hl 0 rfl) ?_
      refine gX11_7 (v := ab.2.2.2.2.2.2.2) C hK hP rfl w194 dX0_indexOf_10 ?_
      refine b_icmp_ge (tgt := 37) hx hb dX0_indexOf_13 (by decide) (fun c2 => ?_) (fun c2 => ?_)
      · rw [if_neg c2] at h
        refine lv_iconst (v := (-1 : Int32)) hx hb dX0_indexOf_37 (by decide) ?_
        obtain rfl := Option.some.inj h
        exact W.iret hx hb hr (fun t ht _ => ⟨rfl, ht⟩) (fun _ h9 => by cases h9) dX0_indexOf_38 hlk
      · rw [if_pos c2] at h
        refine lv_aload_n hx hb dX0_indexOf_16 rfl (lv_at hl 0 rfl) ?_
        refine gX11_0 C hK hP w187 dX0_indexOf_17 ?_
        refine lv_iload_n hx hb dX0_indexOf_20 rfl (lv_at hl 2 rfl) ?_
        refine xat_l (rest := []) C hK hN hP eX12 (Nat.le_of_ble_eq_true rfl) w779 hl.1 (Nat.le_of_ble_eq_true rfl) dX0_indexOf_21 ⟨Nat.le_of_ble_eq_true rfl, Nat.le_of_ble_eq_true rfl⟩ ⟨Nat.zero_le _, Nat.zero_le _⟩ ?_
        refine lv_lload_n hx hb dX0_indexOf_24 rfl (lv_at hl 1 rfl) ?_
        refine lc_ne (tgt := 31) hx hb dX0_indexOf_25 dX0_indexOf_26 (by decide) (fun c3 => ?_) (fun c3 => ?_)
        · rw [if_neg c3] at h
          refine lv_iinc (v := (v3 + (1 : Int32))) (lv' := [(3, .int (v3 + (1 : Int32))), (0, .ref (ad 11)), (1, .long v1)]) hx hb dX0_indexOf_31 hl (k := 2) rfl rfl (by decide) rfl (fun ls hl => ?_)
          refine lv_goto (tgt := 2) hx hb dX0_indexOf_34 (by decide) ?_
          exact ih h (lv_sub hl [1, 2, 0] rfl) hP
        · rw [if_pos c3] at h
          refine lv_iload_n hx hb dX0_indexOf_29 rfl (lv_at hl 2 rfl) ?_
          obtain rfl := Option.some.inj h
          exact W.iret hx hb hr (fun t ht _ => ⟨rfl, ht⟩) (fun _ h9 => by cases h9) dX0_indexOf_30 hlk
def X0_indexOf (ab : Tab) (v1 : Int64) : Option (Int32) := X0_indexOf_2 ab FU (v1, (0 : Int32))
set_option maxRecDepth 20000 in
theorem bX0_indexOf_0 (C : Cx p s m args meth c cX0_indexOf 4 (some .int) RX0 (.code yX0_indexOf cX0_indexOf 4 (some .int))) (hK : va_K D vwCl (tysX cy) s) (hN : NW s)  {q : Int32}  {v1 : Int64} (h : X0_indexOf ab v1 = some q) {ls : Array Slot} (hl : lv_has ls 4 [(0, .ref (ad 11)), (1, .long v1)]) (hP : va_P D vwCl (GX cy ad tk sp nm tp kp cu se ur ab lo im sy un en ra li i2) s.heap) : W p l e ({ frames := 1, cells := 0, slots := 0, locals := 21 } : Room) s m args below meth c s.heap [] 0 0 (MQ below (QP (some (.int q))) args s 0 0 (fun _ => False)) (F0 m 0 ls []) := by
  obtain ⟨hx, hb, hml, hown, hts, hr, hlk⟩ := id C
  unfold X0_indexOf at h
  refine lv_iconst (v := (0 : Int32)) hx hb dX0_indexOf_0 (by decide) ?_
  refine lv_istore_n (lv' := [(3, .int (0 : Int32)), (0, .ref (ad 11)), (1, .long v1)]) hx hb dX0_indexOf_1 rfl hl (by decide) rfl (fun ls hl => ?_)
  exact bX0_indexOf_2 C hK hN FU h (lv_sub hl [1, 2, 0] rfl) hP
theorem kX0_indexOf  {v1 : Int64} {q : Int32} (h : X0_indexOf ab v1 = some q) : Met l yX0_indexOf (.code yX0_indexOf cX0_indexOf 4 (some .int) :: WA) ({ frames := 1, cells := 0, slots := 0, locals := 21 } : Room) (va_Pc [.ref (ad 11), .long v1] (PR D cy (GX cy ad tk sp nm tp kp cu se ur ab lo im sy un en ra li i2))) (QP (some (.int q))) 0 0 (fun _ => False) :=
  met_of (by decide) (Nat.le_of_ble_eq_true rfl) (fun p e s m below meth c ls C hP hK hN hl => bX0_indexOf_0 C hK hN h hl hP)
def X0_isForm  (v0 : Int64) : Int32 := (if v0 < (0 : Int64) then (0 : Int32) else (if (33 : Int64) < v0 then (0 : Int32) else (if ((v0).toInt32) = (1 : Int32) then (1 : Int32) else (if ((v0).toInt32) = (5 : Int32) then (1 : Int32) else (if ((v0).toInt32) = (6 : Int32) then (1 : Int32) else (if ((v0).toInt32) = (7 : Int32) then (1 : Int32) else (if ((v0).toInt32) = (8 : Int32) then (1 : Int32) else (if ((v0).toInt32) = (11 : Int32) then (1 : Int32) else (if ((v0).toInt32) = (13 : Int32) then (1 : Int32) else (if ((v0).toInt32) = (14 : Int32) then (1 : Int32) else (if ((v0).toInt32) = (15 : Int32) then (1 : Int32) else (if ((v0).toInt32) = (19 : Int32) then (1 : Int32) else (if ((v0).toInt32) = (23 : Int32) then (1 : Int32) else (if ((v0).toInt32) = (24 : Int32) then (1 : Int32) else (if ((v0).toInt32) = (25 : Int32) then (1 : Int32) else (if ((v0).toInt32) = (33 : Int32) then (1 : Int32) else (0 : Int32)))))))))))))))))
set_option maxRecDepth 20000 in
theorem bX0_isForm_0 (C : Cx p s m args meth c cX0_isForm 2 (some .boolean) RX0 (.code yX0_isForm cX0_isForm 2 (some .boolean))) (hK : va_K D vwCl (tysX cy) s) (hN : NW s)  {q : Int32}  {v0 : Int64} (h : X0_isForm v0 = q) {ls : Array Slot} (hl : lv_has ls 2 [(0, .long v0)]) (hP : va_P D vwCl (GX cy ad tk sp nm tp kp cu se ur ab lo im sy un en ra li i2) s.heap) : W p l e ({ frames := 0, cells := 0, slots := 0, locals := 0 } : Room) s m args below meth c s.heap [] 0 0 (MQ below (QP (some (.int q))) args s 0 0 (fun _ => False)) (F0 m 0 ls []) := by
  obtain ⟨hx, hb, hml, hown, hts, hr, hlk⟩ := id C
  unfold X0_isForm at h
  refine lv_lload_n hx hb dX0_isForm_0 rfl (lv_at hl 0 rfl) ?_
  refine lv_lconst (v := (0 : Int64)) hx hb dX0_isForm_1 (by decide) ?_
  refine lc_lt (tgt := 14) hx hb dX0_isForm_2 dX0_isForm_3 (by decide) (fun c1 => ?_) (fun c1 => ?_)
  · rw [if_pos c1] at h
    refine lv_iconst (v := (0 : Int32)) hx hb dX0_isForm_14 (by decide) ?_
    obtain rfl := h
    exact W.zret (ty := .boolean) hx hb hr (by decide) (fun t ht _ => ⟨rfl, ht⟩) (fun _ h9 => by cases h9) dX0_isForm_15 hlk
  · rw [if_neg c1] at h
    refine lv_lload_n hx hb dX0_isForm_6 rfl (lv_at hl 0 rfl) ?_
    refine lv_ldc2 (v := (33 : Int64)) hx hb hown (hts _ (List.mem_cons_of_mem _ w794)) dX0_isForm_7 ?_
    refine lc_le (tgt := 16) hx hb dX0_isForm_10 dX0_isForm_11 (by decide) (fun c2 => ?_) (fun c2 => ?_)
    · rw [if_neg c2] at h
      refine lv_lload_n hx hb dX0_isForm_16 rfl (lv_at hl 0 rfl) ?_
      refine lv_l2i (v := ((v0).toInt32)) hx hb dX0_isForm_17 rfl ?_
      by_cases c3 : ((v0).toInt32) = (1 : Int32)
      · rw [if_pos c3] at h
        rw [c3]
        refine lv_tableIn (off := 146) (tgt := 164) hx hb dX0_isForm_18 (by decide) (by decide) (by decide) (by decide) ?_
        refine lv_iconst (v := (1 : Int32)) hx hb dX0_isForm_164 (by decide) ?_
        obtain rfl := h
        exact W.zret (ty := .boolean) hx hb hr (by decide) (fun t ht _ => ⟨rfl, ht⟩) (fun _ h9 => by cases h9) dX0_isForm_165 hlk
      rw [if_neg c3] at h
      by_cases c4 : ((v0).toInt32) = (5 : Int32)
      · rw [if_pos c4] at h
        rw [c4]
        refine lv_tableIn (off := 146) (tgt := 164) hx hb dX0_isForm_18 (by decide) (by decide) (by decide) (by decide) ?_
        refine lv_iconst (v := (1 : Int32)) hx hb dX0_isForm_164 (by decide) ?_
        obtain rfl := h
        exact W.zret (ty := .boolean) hx hb hr (by decide) (fun t ht _ => ⟨rfl, ht⟩) (fun _ h9 => by cases h9) dX0_isForm_165 hlk
      rw [if_neg c4] at h
      by_cases c5 : ((v0).toInt32) = (6 : Int32)
      · rw [if_pos c5] at h
        rw [c5]
        refine lv_tableIn (off := 146) (tgt := 164) hx hb dX0_isForm_18 (by decide) (by decide) (by decide) (by decide) ?_
        refine lv_iconst (v := (1 : Int32)) hx hb dX0_isForm_164 (by decide) ?_
        obtain rfl := h
        exact W.zret (ty := .boolean) hx hb hr (by decide) (fun t ht _ => ⟨rfl, ht⟩) (fun _ h9 => by cases h9) dX0_isForm_165 hlk
      rw [if_neg c5] at h
      by_cases c6 : ((v0).toInt32) = (7 : Int32)
      · rw [if_pos c6] at h
        rw [c6]
        refine lv_tableIn (off := 146) (tgt := 164) hx hb dX0_isForm_18 (by decide) (by decide) (by decide) (by decide) ?_
        refine lv_iconst (v := (1 : Int32)) hx hb dX0_isForm_164 (by decide) ?_
        obtain rfl := h
        exact W.zret (ty := .boolean) hx hb hr (by decide) (fun t ht _ => ⟨rfl, ht⟩) (fun _ h9 => by cases h9) dX0_isForm_165 hlk
      rw [if_neg c6] at h
      by_cases c7 : ((v0).toInt32) = (8 : Int32)
      · rw [if_pos c7] at h
        rw [c7]
        refine lv_tableIn (off := 146) (tgt := 164) hx hb dX0_isForm_18 (by decide) (by decide) (by decide) (by decide) ?_
        refine lv_iconst (v := (1 : Int32)) hx hb dX0_isForm_164 (by decide) ?_
        obtain rfl := h
        exact W.zret (ty := .boolean) hx hb hr (by decide) (fun t ht _ => ⟨rfl, ht⟩) (fun _ h9 => by cases h9) dX0_isForm_165 hlk
      rw [if_neg c7] at h
      by_cases c8 : ((v0).toInt32) = (11 : Int32)
      · rw [if_pos c8] at h
        rw [c8]
        refine lv_tableIn (off := 146) (tgt := 164) hx hb dX0_isForm_18 (by decide) (by decide) (by decide) (by decide) ?_
        refine lv_iconst (v := (1 : Int32)) hx hb dX0_isForm_164 (by decide) ?_
        obtain rfl := h
        exact W.zret (ty := .boolean) hx hb hr (by decide) (fun t ht _ => ⟨rfl, ht⟩) (fun _ h9 => by cases h9) dX0_isForm_165 hlk
      rw [if_neg c8] at h
      by_cases c9 : ((v0).toInt32) = (13 : Int32)
      · rw [if_pos c9] at h
        rw [c9]
        refine lv_tableIn (off := 146) (tgt := 164) hx hb dX0_isForm_18 (by decide) (by decide) (by decide) (by decide) ?_
        refine lv_iconst (v := (1 : Int32)) hx hb dX0_isForm_164 (by decide) ?_
        obtain rfl := h
        exact W.zret (ty := .boolean) hx hb hr (by decide) (fun t ht _ => ⟨rfl, ht⟩) (fun _ h9 => by cases h9) dX0_isForm_165 hlk
      rw [if_neg c9] at h
      by_cases c10 : ((v0).toInt32) = (14 : Int32)
      · rw [if_pos c10] at h
        rw [c10]
        refine lv_tableIn (off := 146) (tgt := 164) hx hb dX0_isForm_18 (by decide) (by decide) (by decide) (by decide) ?_
        refine lv_iconst (v := (1 : Int32)) hx hb dX0_isForm_164 (by decide) ?_
        obtain rfl := h
        exact W.zret (ty := .boolean) hx hb hr (by decide) (fun t ht _ => ⟨rfl, ht⟩) (fun _ h9 => by cases h9) dX0_isForm_165 hlk
      rw [if_neg c10] at h
      by_cases c11 : ((v0).toInt32) = (15 : Int32)
      · rw [if_pos c11] at h
        rw [c11]
        refine lv_tableIn (off := 146) (tgt := 164) hx hb dX0_isForm_18 (by decide) (by decide) (by decide) (by decide) ?_
        refine lv_iconst (v := (1 : Int32)) hx hb dX0_isForm_164 (by decide) ?_
        obtain rfl := h
        exact W.zret (ty := .boolean) hx hb hr (by decide) (fun t ht _ => ⟨rfl, ht⟩) (fun _ h9 => by cases h9) dX0_isForm_165 hlk
      rw [if_neg c11] at h
      by_cases c12 : ((v0).toInt32) = (19 : Int32)
      · rw [if_pos c12] at h
        rw [c12]
        refine lv_tableIn (off := 146) (tgt := 164) hx hb dX0_isForm_18 (by decide) (by decide) (by decide) (by decide) ?_
        refine lv_iconst (v := (1 : Int32)) hx hb dX0_isForm_164 (by decide) ?_
        obtain rfl := h
        exact W.zret (ty := .boolean) hx hb hr (by decide) (fun t ht _ => ⟨rfl, ht⟩) (fun _ h9 => by cases h9) dX0_isForm_165 hlk
      rw [if_neg c12] at h
      by_cases c13 : ((v0).toInt32) = (23 : Int32)
      · rw [if_pos c13] at h
        rw [c13]
        refine lv_tableIn (off := 146) (tgt := 164) hx hb dX0_isForm_18 (by decide) (by decide) (by decide) (by decide) ?_
        refine lv_iconst (v := (1 : Int32)) hx hb dX0_isForm_164 (by decide) ?_
        obtain rfl := h
        exact W.zret (ty := .boolean) hx hb hr (by decide) (fun t ht _ => ⟨rfl, ht⟩) (fun _ h9 => by cases h9) dX0_isForm_165 hlk
      rw [if_neg c13] at h
      by_cases c14 : ((v0).toInt32) = (24 : Int32)
      · rw [if_pos c14] at h
        rw [c14]
        refine lv_tableIn (off := 146) (tgt := 164) hx hb dX0_isForm_18 (by decide) (by decide) (by decide) (by decide) ?_
        refine lv_iconst (v := (1 : Int32)) hx hb dX0_isForm_164 (by decide) ?_
        obtain rfl := h
        exact W.zret (ty := .boolean) hx hb hr (by decide) (fun t ht _ => ⟨rfl, ht⟩) (fun _ h9 => by cases h9) dX0_isForm_165 hlk
      rw [if_neg c14] at h
      by_cases c15 : ((v0).toInt32) = (25 : Int32)
      · rw [if_pos c15] at h
        rw [c15]
        refine lv_tableIn (off := 146) (tgt := 164) hx hb dX0_isForm_18 (by decide) (by decide) (by decide) (by decide) ?_
        refine lv_iconst (v := (1 : Int32)) hx hb dX0_isForm_164 (by decide) ?_
        obtain rfl := h
        exact W.zret (ty := .boolean) hx hb hr (by decide) (fun t ht _ => ⟨rfl, ht⟩) (fun _ h9 => by cases h9) dX0_isForm_165 hlk
      rw [if_neg c15] at h
      by_cases c16 : ((v0).toInt32) = (33 : Int32)
      · rw [if_pos c16] at h
        rw [c16]
        refine lv_tableIn (off := 146) (tgt := 164) hx hb dX0_isForm_18 (by decide) (by decide) (by decide) (by decide) ?_
        refine lv_iconst (v := (1 : Int32)) hx hb dX0_isForm_164 (by decide) ?_
        obtain rfl := h
        exact W.zret (ty := .boolean) hx hb hr (by decide) (fun t ht _ => ⟨rfl, ht⟩) (fun _ h9 => by cases h9) dX0_isForm_165 hlk
      rw [if_neg c16] at h
      refine tsw_d (tgt := 166) hx hb dX0_isForm_18 [(1 : Int32), (5 : Int32), (6 : Int32), (7 : Int32), (8 : Int32), (11 : Int32), (13 : Int32), (14 : Int32), (15 : Int32), (19 : Int32), (23 : Int32), (24 : Int32), (25 : Int32), (33 : Int32)] (by simp only [List.mem_cons, List.not_mem_nil, or_false]; rintro _ (rfl | rfl | rfl | rfl | rfl | rfl | rfl | rfl | rfl | rfl | rfl | rfl | rfl | rfl) <;> assumption) (by decide +kernel) (by decide) ?_
      refine lv_iconst (v := (0 : Int32)) hx hb dX0_isForm_166 (by decide) ?_
      obtain rfl := h
      exact W.zret (ty := .boolean) hx hb hr (by decide) (fun t ht _ => ⟨rfl, ht⟩) (fun _ h9 => by cases h9) dX0_isForm_167 hlk
    · rw [if_pos c2] at h
      refine lv_iconst (v := (0 : Int32)) hx hb dX0_isForm_14 (by decide) ?_
      obtain rfl := h
      exact W.zret (ty := .boolean) hx hb hr (by decide) (fun t ht _ => ⟨rfl, ht⟩) (fun _ h9 => by cases h9) dX0_isForm_15 hlk
theorem kX0_isForm  {v0 : Int64} {q : Int32} (h : X0_isForm v0 = q) : Met l yX0_isForm (.code yX0_isForm cX0_isForm 2 (some .boolean) :: WA) ({ frames := 0, cells := 0, slots := 0, locals := 0 } : Room) (va_Pc [.long v0] (PR D cy (GX cy ad tk sp nm tp kp cu se ur ab lo im sy un en ra li i2))) (QP (some (.int q))) 0 0 (fun _ => False) :=
  met_of (by decide) (Nat.le_of_ble_eq_true rfl) (fun p e s m below meth c ls C hP hK hN hl => bX0_isForm_0 C hK hN h hl hP)
def X1_place (cu : Tcu)  : Int32 := cu.2.1
set_option maxRecDepth 20000 in
theorem bX1_place_0 (C : Cx p s m args meth c cX1_place 1 (some .int) RX1 (.code yX1_place cX1_place 1 (some .int))) (hK : va_K D vwCl (tysX cy) s) (hN : NW s)  {q : Int32}   (h : X1_place cu = q) {ls : Array Slot} (hl : lv_has ls 1 [(0, .ref (ad 3))]) (hP : va_P D vwCl (GX cy ad tk sp nm tp kp cu se ur ab lo im sy un en ra li i2) s.heap) : W p l e ({ frames := 0, cells := 0, slots := 0, locals := 0 } : Room) s m args below meth c s.heap [] 0 0 (MQ below (QP (some (.int q))) args s 0 0 (fun _ => False)) (F0 m 0 ls []) := by
  obtain ⟨hx, hb, hml, hown, hts, hr, hlk⟩ := id C
  unfold X1_place at h
  refine lv_aload_n hx hb dX1_place_0 rfl (lv_at hl 0 rfl) ?_
  refine gX3_2 (v := cu.2.1) C hK hP rfl w131 dX1_place_1 ?_
  obtain rfl := h
  exact W.iret hx hb hr (fun t ht _ => ⟨rfl, ht⟩) (fun _ h9 => by cases h9) dX1_place_4 hlk
theorem kX1_place   {q : Int32} (h : X1_place cu = q) : Met l yX1_place (.code yX1_place cX1_place 1 (some .int) :: WA) ({ frames := 0, cells := 0, slots := 0, locals := 0 } : Room) (va_Pc [.ref (ad 3)] (PR D cy (GX cy ad tk sp nm tp kp cu se ur ab lo im sy un en ra li i2))) (QP (some (.int q))) 0 0 (fun _ => False) :=
  met_of (by decide) (Nat.le_of_ble_eq_true rfl) (fun p e s m below meth c ls C hP hK hN hl => bX1_place_0 C hK hN h hl hP)
def X1_refuse (cu : Tcu) (v1 : Int32) (v2 : Int32) : Tcu := (if cu.2.2.2.1 = 0 then (cu.1, cu.2.1, cu.2.2.1, v1, v2) else cu)
set_option maxRecDepth 20000 in
theorem bX1_refuse_0 (C : Cx p s m args meth c cX1_refuse 3 none RX1 (.code yX1_refuse cX1_refuse 3 none)) (hI : Apart ad 89) (hK : va_K D vwCl (tysX cy) s) (hN : NW s)  {q : Tcu}  {v1 : Int32} {v2 : Int32} (h : X1_refuse cu v1 v2 = q) {ls : Array Slot} (hl : lv_has ls 3 [(0, .ref (ad 3)), (1, .int v1), (2, .int v2)]) {H : Heap} {locs : List Loc} (hP : va_P D vwCl (GX cy ad tk sp nm tp kp cu se ur ab lo im sy un en ra li i2) H) (hS : va_S (Ac ad 89) s.heap H locs) : W p l e ({ frames := 0, cells := 0, slots := 0, locals := 0 } : Room) s m args below meth c H locs 0 0 (MQ below (QR none D (GX cy ad tk sp nm tp kp q se ur ab lo im sy un en ra li i2) (Ac ad 89)) args s 0 0 (Ac ad 89)) (F0 m 0 ls []) := by
  obtain ⟨hx, hb, hml, hown, hts, hr, hlk⟩ := id C
  unfold X1_refuse at h
  refine lv_aload_n hx hb dX1_refuse_0 rfl (lv_at hl 0 rfl) ?_
  refine gX3_4 (v := cu.2.2.2.1) C hK hP rfl w133 dX1_refuse_1 ?_
  refine lv_if_ne (tgt := 17) hx hb dX1_refuse_4 (by decide) (fun c1 => ?_) (fun c1 => ?_)
  · rw [if_neg c1] at h
    obtain rfl := h
    exact W.vret hx hb hr (fun t ht _ => ⟨rfl, by rw [ht]; exact hP, hS.F ht⟩) hS.2.2 dX1_refuse_17 hlk
  · rw [if_pos c1] at h
    refine lv_aload_n hx hb dX1_refuse_7 rfl (lv_at hl 0 rfl) ?_
    refine lv_iload_n hx hb dX1_refuse_8 rfl (lv_at hl 1 rfl) ?_
    refine pX3_4 (v := v1) C hI hK hP hS w133 dX1_refuse_9 (fun H locs hP hS => ?_)
    have hP : va_P D vwCl (GX cy ad tk sp nm tp kp (cu.1, cu.2.1, cu.2.2.1, v1, cu.2.2.2.2) se ur ab lo im sy un en ra li i2) H := hP
    refine lv_aload_n hx hb dX1_refuse_12 rfl (lv_at hl 0 rfl) ?_
    refine lv_iload_n hx hb dX1_refuse_13 rfl (lv_at hl 2 rfl) ?_
    refine pX3_5 (v := v2) C hI hK hP hS w134 dX1_refuse_14 (fun H locs hP hS => ?_)
    have hP : va_P D vwCl (GX cy ad tk sp nm tp kp (cu.1, cu.2.1, cu.2.2.1, v1, v2) se ur ab lo im sy un en ra li i2) H := hP
    obtain rfl := h
    exact W.vret hx hb hr (fun t ht _ => ⟨rfl, by rw [ht]; exact hP, hS.F ht⟩) hS.2.2 dX1_refuse_17 hlk
theorem kX1_refuse (hI : Apart ad 89) {v1 : Int32} {v2 : Int32} {q : Tcu} (h : X1_refuse cu v1 v2 = q) : Met l yX1_refuse (.code yX1_refuse cX1_refuse 3 none :: WA) ({ frames := 0, cells := 0, slots := 0, locals := 0 } : Room) (va_Pc [.ref (ad 3), .int v1, .int v2] (PR D cy (GX cy ad tk sp nm tp kp cu se ur ab lo im sy un en ra li i2))) (QR none D (GX cy ad tk sp nm tp kp q se ur ab lo im sy un en ra li i2) (Ac ad 89)) 0 0 (Ac ad 89) :=
  met_of (by decide) (Nat.le_of_ble_eq_true rfl) (fun p e s m below meth c ls C hP hK hN hl => bX1_refuse_0 C hI hK hN h hl hP va_S.rf)
def X1_byteAt (tp : Ttp) (v1 : Int32) : Option (Int32) := (if v1 < 0 then some (0 : Int32) else (if v1 < (8000 : Int32) then (if inb v1 8000 = true then some ((tp (v1).toNatClampNeg) &&& (255 : Int32)) else none) else some (0 : Int32)))
set_option maxRecDepth 20000 in
theorem bX1_byteAt_0 (C : Cx p s m args meth c cX1_byteAt 2 (some .int) RX1 (.code yX1_byteAt cX1_byteAt 2 (some .int))) (hK : va_K D vwCl (tysX cy) s) (hN : NW s)  {q : Int32}  {v1 : Int32} (h : X1_byteAt tp v1 = some q) {ls : Array Slot} (hl : lv_has ls 2 [(0, .ref (ad 3)), (1, .int v1)]) (hP : va_P D vwCl (GX cy ad tk sp nm tp kp cu se ur ab lo im sy un en ra li i2) s.heap) : W p l e ({ frames := 0, cells := 0, slots := 0, locals := 0 } : Room) s m args below meth c s.heap [] 0 0 (MQ below (QP (some (.int q))) args s 0 0 (fun _ => False)) (F0 m 0 ls []) := by
  obtain ⟨hx, hb, hml, hown, hts, hr, hlk⟩ := id C
  unfold X1_byteAt at h
  refine lv_iload_n hx hb dX1_byteAt_0 rfl (lv_at hl 1 rfl) ?_
  refine lv_if_lt (tgt := 26) hx hb dX1_byteAt_1 (by decide) (fun c1 => ?_) (fun c1 => ?_)
  · rw [if_pos c1] at h
    refine lv_iconst (v := (0 : Int32)) hx hb dX1_byteAt_26 (by decide) ?_
    obtain rfl := Option.some.inj h
    exact W.iret hx hb hr (fun t ht _ => ⟨rfl, ht⟩) (fun _ h9 => by cases h9) dX1_byteAt_27 hlk
  · rw [if_neg c1] at h
    refine lv_iload_n hx hb dX1_byteAt_4 rfl (lv_at hl 1 rfl) ?_
    refine lv_aload_n hx hb dX1_byteAt_5 rfl (lv_at hl 0 rfl) ?_
    refine gX3_0 C hK hP w129 dX1_byteAt_6 ?_
    refine lX1 C hK hP dX1_byteAt_9 ?_
    refine b_icmp_ge (tgt := 26) hx hb dX1_byteAt_10 (by decide) (fun c2 => ?_) (fun c2 => ?_)
    · rw [if_neg c2] at h
      refine lv_iconst (v := (0 : Int32)) hx hb dX1_byteAt_26 (by decide) ?_
      obtain rfl := Option.some.inj h
      exact W.iret hx hb hr (fun t ht _ => ⟨rfl, ht⟩) (fun _ h9 => by cases h9) dX1_byteAt_27 hlk
    · rw [if_pos c2] at h
      refine lv_aload_n hx hb dX1_byteAt_13 rfl (lv_at hl 0 rfl) ?_
      refine gX3_0 C hK hP w129 dX1_byteAt_14 ?_
      refine lv_iload_n hx hb dX1_byteAt_17 rfl (lv_at hl 1 rfl) ?_
      obtain ⟨n3, h⟩ := grd h
      refine aX1 (f := tp) C hK hP rfl n3 dX1_byteAt_18 ?_
      refine lv_sipush (v := (255 : Int32)) hx hb dX1_byteAt_19 (by decide) ?_
      refine lv_iand hx hb dX1_byteAt_22 ?_
      refine lv_goto (tgt := 27) hx hb dX1_byteAt_23 (by decide) ?_
      obtain rfl := Option.some.inj h
      exact W.iret hx hb hr (fun t ht _ => ⟨rfl, ht⟩) (fun _ h9 => by cases h9) dX1_byteAt_27 hlk
theorem kX1_byteAt  {v1 : Int32} {q : Int32} (h : X1_byteAt tp v1 = some q) : Met l yX1_byteAt (.code yX1_byteAt cX1_byteAt 2 (some .int) :: WA) ({ frames := 0, cells := 0, slots := 0, locals := 0 } : Room) (va_Pc [.ref (ad 3), .int v1] (PR D cy (GX cy ad tk sp nm tp kp cu se ur ab lo im sy un en ra li i2))) (QP (some (.int q))) 0 0 (fun _ => False) :=
  met_of (by decide) (Nat.le_of_ble_eq_true rfl) (fun p e s m below meth c ls C hP hK hN hl => bX1_byteAt_0 C hK hN h hl hP)
def X1_sound (cu : Tcu)  : Int32 := (if cu.2.2.2.1 = 0 then (1 : Int32) else (0 : Int32))
set_option maxRecDepth 20000 in
theorem bX1_sound_0 (C : Cx p s m args meth c cX1_sound 1 (some .boolean) RX1 (.code yX1_sound cX1_sound 1 (some .boolean))) (hK : va_K D vwCl (tysX cy) s) (hN : NW s)  {q : Int32}   (h : X1_sound cu = q) {ls : Array Slot} (hl : lv_has ls 1 [(0, .ref (ad 3))]) (hP : va_P D vwCl (GX cy ad tk sp nm tp kp cu se ur ab lo im sy un en ra li i2) s.heap) : W p l e ({ frames := 0, cells := 0, slots := 0, locals := 0 } : Room) s m args below meth c s.heap [] 0 0 (MQ below (QP (some (.int q))) args s 0 0 (fun _ => False)) (F0 m 0 ls []) := by
  obtain ⟨hx, hb, hml, hown, hts, hr, hlk⟩ := id C
  unfold X1_sound at h
  refine lv_aload_n hx hb dX1_sound_0 rfl (lv_at hl 0 rfl) ?_
  refine gX3_4 (v := cu.2.2.2.1) C hK hP rfl w133 dX1_sound_1 ?_
  refine lv_if_ne (tgt := 11) hx hb dX1_sound_4 (by decide) (fun c1 => ?_) (fun c1 => ?_)
  · rw [if_neg c1] at h
    refine lv_iconst (v := (0 : Int32)) hx hb dX1_sound_11 (by decide) ?_
    obtain rfl := h
    exact W.zret (ty := .boolean) hx hb hr (by decide) (fun t ht _ => ⟨rfl, ht⟩) (fun _ h9 => by cases h9) dX1_sound_12 hlk
  · rw [if_pos c1] at h
    refine lv_iconst (v := (1 : Int32)) hx hb dX1_sound_7 (by decide) ?_
    refine lv_goto (tgt := 12) hx hb dX1_sound_8 (by decide) ?_
    obtain rfl := h
    exact W.zret (ty := .boolean) hx hb hr (by decide) (fun t ht _ => ⟨rfl, ht⟩) (fun _ h9 => by cases h9) dX1_sound_12 hlk
theorem kX1_sound   {q : Int32} (h : X1_sound cu = q) : Met l yX1_sound (.code yX1_sound cX1_sound 1 (some .boolean) :: WA) ({ frames := 0, cells := 0, slots := 0, locals := 0 } : Room) (va_Pc [.ref (ad 3)] (PR D cy (GX cy ad tk sp nm tp kp cu se ur ab lo im sy un en ra li i2))) (QP (some (.int q))) 0 0 (fun _ => False) :=
  met_of (by decide) (Nat.le_of_ble_eq_true rfl) (fun p e s m below meth c ls C hP hK hN hl => bX1_sound_0 C hK hN h hl hP)
def X1_uleb_86 (tp : Ttp)  (cu : Tcu)  : Option (Int64 × Tcu) := (letq (X1_refuse cu (1 : Int32) cu.2.1) fun q1 => some ((0 : Int64), q1))
set_option maxRecDepth 20000 in
theorem bX1_uleb_86 (C : Cx p s m args meth c cX1_uleb 5 (some .long) RX1 (.code yX1_uleb cX1_uleb 5 (some .long))) (hI : Apart ad 89) (hK : va_K D vwCl (tysX cy) s) (hN : NW s)  {q : Int64 × Tcu}   (h : X1_uleb_86 tp cu = some q) {ls : Array Slot} (hl : lv_has ls 5 [(0, .ref (ad 3))]) {H : Heap} {locs : List Loc} (hP : va_P D vwCl (GX cy ad tk sp nm tp kp cu se ur ab lo im sy un en ra li i2) H) (hS : va_S (Ac ad 89) s.heap H locs) : W p l e ({ frames := 1, cells := 0, slots := 0, locals := 22 } : Room) s m args below meth c H locs 0 0 (MQ below (QR (some (.long q.1)) D (GX cy ad tk sp nm tp kp q.2 se ur ab lo im sy un en ra li i2) (Ac ad 89)) args s 0 0 (Ac ad 89)) (F0 m 86 ls []) := by
  obtain ⟨hx, hb, hml, hown, hts, hr, hlk⟩ := id C
  unfold X1_uleb_86 at h
  refine lv_aload_n hx hb dX1_uleb_86 rfl (lv_at hl 0 rfl) ?_
  refine lv_iconst (v := (1 : Int32)) hx hb dX1_uleb_87 (by decide) ?_
  refine lv_aload_n hx hb dX1_uleb_88 rfl (lv_at hl 0 rfl) ?_
  refine gX3_2 (v := cu.2.1) C hK hP rfl w131 dX1_uleb_89 ?_
  obtain ⟨q1, h2, h⟩ := lets h
  refine cRv (run_V (rest := []) C (kX1_refuse hI h2) caX1_refuse w596 ⟨rfl, rfl, Nat.le_of_ble_eq_true rfl, Nat.le_of_ble_eq_true rfl⟩ hK hN hP (rX3 hK hP) rfl hl.1 rfl (Nat.le_of_ble_eq_true rfl) dX1_uleb_92 ⟨Nat.zero_le _, Nat.zero_le _⟩) hS (fun H locs hP hS => ?_)
  have hP : va_P D vwCl (GX cy ad tk sp nm tp kp q1 se ur ab lo im sy un en ra li i2) H := hP
  refine lv_lconst (v := (0 : Int64)) hx hb dX1_uleb_95 (by decide) ?_
  obtain rfl := Option.some.inj h
  exact W.lret hx hb hr (fun t ht _ => ⟨rfl, by rw [ht]; exact hP, hS.F ht⟩) hS.2.2 dX1_uleb_96 hlk
def X1_uleb_13b (tp : Ttp)  (k13 : Tcu → Int64 → Int32 → Option (Int64 × Tcu)) (cu : Tcu) (v1 : Int64) (v3 : Int32) : Option (Int64 × Tcu) := (if v3 < (10 : Int32) then (if v3 < (cu.2.2.1 - cu.2.1) then ((X1_byteAt tp (cu.2.1 + v3)).bind fun q3 => (if q3 < (128 : Int32) then some ((v1 ||| ((((q3 &&& (127 : Int32))).toInt64) <<< ((((7 : Int32) * v3)).toInt64 &&& 63))), (cu.1, (cu.2.1 + (v3 + (1 : Int32))), cu.2.2.1, cu.2.2.2.1, cu.2.2.2.2)) else k13 cu (v1 ||| ((((q3 &&& (127 : Int32))).toInt64) <<< ((((7 : Int32) * v3)).toInt64 &&& 63))) (v3 + (1 : Int32)))) else X1_uleb_86 tp cu) else X1_uleb_86 tp cu)
def X1_uleb_13 (tp : Ttp)  (n : Nat) (st : Tcu × Int64 × Int32) : Option (Int64 × Tcu) := lp (fun rec st => X1_uleb_13b tp  (fun a0 a1 a2 => rec (a0, a1, a2)) st.1 st.2.1 st.2.2) n st
set_option maxRecDepth 20000 in
theorem bX1_uleb_13 (C : Cx p s m args meth c cX1_uleb 5 (some .long) RX1 (.code yX1_uleb cX1_uleb 5 (some .long))) (hI : Apart ad 89) (hK : va_K D vwCl (tysX cy) s) (hN : NW s)  {q : Int64 × Tcu}  : ∀ (n : Nat) {cu : Tcu} {v1 : Int64} {v3 : Int32}, X1_uleb_13 tp  n (cu, v1, v3) = some q → ∀ {ls : Array Slot}, lv_has ls 5 [(0, .ref (ad 3)), (1, .long v1), (3, .int v3)] → ∀ {H : Heap} {locs : List Loc}, va_P D vwCl (GX cy ad tk sp nm tp kp cu se ur ab lo im sy un en ra li i2) H → va_S (Ac ad 89) s.heap H locs → W p l e ({ frames := 1, cells := 0, slots := 0, locals := 22 } : Room) s m args below meth c H locs 0 0 (MQ below (QR (some (.long q.1)) D (GX cy ad tk sp nm tp kp q.2 se ur ab lo im sy un en ra li i2) (Ac ad 89)) args s 0 0 (Ac ad 89)) (F0 m 13 ls []) := by
  obtain ⟨hx, hb, hml, hown, hts, hr, hlk⟩ := id C
  intro n
  induction n with
  | zero =>
    intro cu v1 v3 h ls hl H locs hP hS
    have h : (none : Option (Int64 × Tcu)) = some q := h
    cases h
  | succ n ih =>
    intro cu v1 v3 h ls hl H locs hP hS
    have h : X1_uleb_13b tp  (fun a0 a1 a2 => X1_uleb_13 tp  n (a0, a1, a2)) cu v1 v3 = some q := h
    unfold X1_uleb_13b at h
    refine lv_iload_n hx hb dX1_uleb_13 rfl (lv_at hl 2 rfl) ?_
    refine lv_bipush (v := (10 : Int32)) hx hb dX1_uleb_14 (by decide) ?_
    refine b_icmp_ge (tgt := 86) hx hb dX1_uleb_16 (by decide) (fun c1 => ?_) (fun c1 => ?_)
    · rw [if_neg c1] at h
      exact bX1_uleb_86 C hI hK hN h (lv_sub hl [0] rfl) hP hS
    · rw [if_pos c1] at h
      refine lv_iload_n hx hb dX1_uleb_19 rfl (lv_at hl 2 rfl) ?_
      refine lv_aload_n hx hb dX1_uleb_20 rfl (lv_at hl 0 rfl) ?_
      refine gX3_3 (v := cu.2.2.1) C hK hP rfl w132 dX1_uleb_21 ?_
      refine lv_aload_n hx hb dX1_uleb_24 rfl (lv_at hl 0 rfl) ?_
      refine gX3_2 (v := cu.2.1) C hK hP rfl w131 dX1_uleb_25 ?_
      refine lv_isub hx hb dX1_uleb_28 ?_
      refine b_icmp_ge (tgt := 86) hx hb dX1_uleb_29 (by decide) (fun c2 => ?_) (fun c2 => ?_)
      · rw [if_neg c2] at h
        exact bX1_uleb_86 C hI hK hN h (lv_sub hl [0] rfl) hP hS
      · rw [if_pos c2] at h
        refine lv_aload_n hx hb dX1_uleb_32 rfl (lv_at hl 0 rfl) ?_
        refine lv_aload_n hx hb dX1_uleb_33 rfl (lv_at hl 0 rfl) ?_
        refine gX3_2 (v := cu.2.1) C hK hP rfl w131 dX1_uleb_34 ?_
        refine lv_iload_n hx hb dX1_uleb_37 rfl (lv_at hl 2 rfl) ?_
        refine lv_iadd hx hb dX1_uleb_38 ?_
        obtain ⟨q3, h4, h⟩ := bnd h
        refine cPi (run_V (rest := []) C (kX1_byteAt h4) caX1_byteAt w625 ⟨rfl, rfl, Nat.le_of_ble_eq_true rfl, Nat.le_of_ble_eq_true rfl⟩ hK hN hP (rX3 hK hP) rfl hl.1 rfl (Nat.le_of_ble_eq_true rfl) dX1_uleb_39 ⟨Nat.zero_le _, Nat.zero_le _⟩) ?_
        refine lv_istore (lv' := [(4, .int q3), (0, .ref (ad 3)), (1, .long v1), (3, .int v3)]) hx hb dX1_uleb_42 hl (by decide) rfl (fun ls hl => ?_)
        refine lv_lload_n hx hb dX1_uleb_44 rfl (lv_at hl 2 rfl) ?_
        refine lv_iload hx hb dX1_uleb_45 (lv_at hl 0 rfl) ?_
        refine lv_bipush (v := (127 : Int32)) hx hb dX1_uleb_47 (by decide) ?_
        refine lv_iand hx hb dX1_uleb_49 ?_
        refine lv_i2l (v := (((q3 &&& (127 : Int32))).toInt64)) hx hb dX1_uleb_50 rfl ?_
        refine lv_bipush (v := (7 : Int32)) hx hb dX1_uleb_51 (by decide) ?_
        refine lv_iload_n hx hb dX1_uleb_53 rfl (lv_at hl 3 rfl) ?_
        refine lv_imul hx hb dX1_uleb_54 ?_
        refine lv_lshl (v := ((((q3 &&& (127 : Int32))).toInt64) <<< ((((7 : Int32) * v3)).toInt64 &&& 63))) hx hb dX1_uleb_55 rfl ?_
        refine lv_lor hx hb dX1_uleb_56 ?_
        refine lv_lstore_n (lv' := [(1, .long (v1 ||| ((((q3 &&& (127 : Int32))).toInt64) <<< ((((7 : Int32) * v3)).toInt64 &&& 63)))), (4, .int q3), (0, .ref (ad 3)), (3, .int v3)]) hx hb dX1_uleb_57 rfl hl (by decide) rfl (fun ls hl => ?_)
        refine lv_iload hx hb dX1_uleb_58 (lv_at hl 1 rfl) ?_
        refine lv_sipush (v := (128 : Int32)) hx hb dX1_uleb_60 (by decide) ?_
        refine b_icmp_ge (tgt := 80) hx hb dX1_uleb_63 (by decide) (fun c5 => ?_) (fun c5 => ?_)
        · rw [if_neg c5] at h
          refine lv_iinc (v := (v3 + (1 : Int32))) (lv' := [(3, .int (v3 + (1 : Int32))), (1, .long (v1 ||| ((((q3 &&& (127 : Int32))).toInt64) <<< ((((7 : Int32) * v3)).toInt64 &&& 63)))), (4, .int q3), (0, .ref (ad 3))]) hx hb dX1_uleb_80 hl (k := 3) rfl rfl (by decide) rfl (fun ls hl => ?_)
          refine lv_goto (tgt := 13) hx hb dX1_uleb_83 (by decide) ?_
          exact ih h (lv_sub hl [3, 1, 0] rfl) hP hS
        · rw [if_pos c5] at h
          refine lv_aload_n hx hb dX1_uleb_66 rfl (lv_at hl 2 rfl) ?_
          refine lv_dup hx hb dX1_uleb_67 rfl ?_
          refine gX3_2 (v := cu.2.1) C hK hP rfl w131 dX1_uleb_68 ?_
          refine lv_iload_n hx hb dX1_uleb_71 rfl (lv_at hl 3 rfl) ?_
          refine lv_iconst (v := (1 : Int32)) hx hb dX1_uleb_72 (by decide) ?_
          refine lv_iadd hx hb dX1_uleb_73 ?_
          refine lv_iadd hx hb dX1_uleb_74 ?_
          refine pX3_2 (v := (cu.2.1 + (v3 + (1 : Int32)))) C hI hK hP hS w131 dX1_uleb_75 (fun H locs hP hS => ?_)
          have hP : va_P D vwCl (GX cy ad tk sp nm tp kp (cu.1, (cu.2.1 + (v3 + (1 : Int32))), cu.2.2.1, cu.2.2.2.1, cu.2.2.2.2) se ur ab lo im sy un en ra li i2) H := hP
          refine lv_lload_n hx hb dX1_uleb_78 rfl (lv_at hl 0 rfl) ?_
          obtain rfl := Option.some.inj h
          exact W.lret hx hb hr (fun t ht _ => ⟨rfl, by rw [ht]; exact hP, hS.F ht⟩) hS.2.2 dX1_uleb_79 hlk
def X1_uleb (tp : Ttp) (cu : Tcu)  : Option (Int64 × Tcu) := (if (X1_sound cu) = 0 then some ((0 : Int64), cu) else X1_uleb_13 tp FU (cu, (0 : Int64), (0 : Int32)))
set_option maxRecDepth 20000 in
theorem bX1_uleb_0 (C : Cx p s m args meth c cX1_uleb 5 (some .long) RX1 (.code yX1_uleb cX1_uleb 5 (some .long))) (hI : Apart ad 89) (hK : va_K D vwCl (tysX cy) s) (hN : NW s)  {q : Int64 × Tcu}   (h : X1_uleb tp cu = some q) {ls : Array Slot} (hl : lv_has ls 5 [(0, .ref (ad 3))]) {H : Heap} {locs : List Loc} (hP : va_P D vwCl (GX cy ad tk sp nm tp kp cu se ur ab lo im sy un en ra li i2) H) (hS : va_S (Ac ad 89) s.heap H locs) : W p l e ({ frames := 1, cells := 0, slots := 0, locals := 22 } : Room) s m args below meth c H locs 0 0 (MQ below (QR (some (.long q.1)) D (GX cy ad tk sp nm tp kp q.2 se ur ab lo im sy un en ra li i2) (Ac ad 89)) args s 0 0 (Ac ad 89)) (F0 m 0 ls []) := by
  obtain ⟨hx, hb, hml, hown, hts, hr, hlk⟩ := id C
  unfold X1_uleb at h
  refine lv_aload_n hx hb dX1_uleb_0 rfl (lv_at hl 0 rfl) ?_
  refine cPi (run_V (rest := []) C (kX1_sound rfl) caX1_sound w721 ⟨rfl, rfl, Nat.le_of_ble_eq_true rfl, Nat.le_of_ble_eq_true rfl⟩ hK hN hP (rX3 hK hP) rfl hl.1 rfl (Nat.le_of_ble_eq_true rfl) dX1_uleb_1 ⟨Nat.zero_le _, Nat.zero_le _⟩) ?_
  refine lv_if_ne (tgt := 9) hx hb dX1_uleb_4 (by decide) (fun c1 => ?_) (fun c1 => ?_)
  · rw [if_neg c1] at h
    refine lv_lconst (v := (0 : Int64)) hx hb dX1_uleb_9 (by decide) ?_
    refine lv_lstore_n (lv' := [(1, .long (0 : Int64)), (0, .ref (ad 3))]) hx hb dX1_uleb_10 rfl hl (by decide) rfl (fun ls hl => ?_)
    refine lv_iconst (v := (0 : Int32)) hx hb dX1_uleb_11 (by decide) ?_
    refine lv_istore_n (lv' := [(3, .int (0 : Int32)), (1, .long (0 : Int64)), (0, .ref (ad 3))]) hx hb dX1_uleb_12 rfl hl (by decide) rfl (fun ls hl => ?_)
    exact bX1_uleb_13 C hI hK hN FU h (lv_sub hl [2, 1, 0] rfl) hP hS
  · rw [if_pos c1] at h
    refine lv_lconst (v := (0 : Int64)) hx hb dX1_uleb_7 (by decide) ?_
    obtain rfl := Option.some.inj h
    exact W.lret hx hb hr (fun t ht _ => ⟨rfl, by rw [ht]; exact hP, hS.F ht⟩) hS.2.2 dX1_uleb_8 hlk
theorem kX1_uleb (hI : Apart ad 89)  {q : Int64 × Tcu} (h : X1_uleb tp cu = some q) : Met l yX1_uleb (.code yX1_uleb cX1_uleb 5 (some .long) :: WA) ({ frames := 1, cells := 0, slots := 0, locals := 22 } : Room) (va_Pc [.ref (ad 3)] (PR D cy (GX cy ad tk sp nm tp kp cu se ur ab lo im sy un en ra li i2))) (QR (some (.long q.1)) D (GX cy ad tk sp nm tp kp q.2 se ur ab lo im sy un en ra li i2) (Ac ad 89)) 0 0 (Ac ad 89) :=
  met_of (by decide) (Nat.le_of_ble_eq_true rfl) (fun p e s m below meth c ls C hP hK hN hl => bX1_uleb_0 C hI hK hN h hl hP va_S.rf)
def X1_sleb_47 (tp : Ttp)  (cu : Tcu) (v2 : Int64) (v4 : Int32) (z0 : Int32) : Option (Int64 × Tcu) := (if z0 = 0 then some (v2, cu) else (if v4 < (64 : Int32) then some ((v2 ||| ((-1 : Int64) <<< ((v4).toInt64 &&& 63))), cu) else some (v2, cu)))
set_option maxRecDepth 20000 in
theorem bX1_sleb_47 (C : Cx p s m args meth c cX1_sleb 6 (some .long) RX1 (.code yX1_sleb cX1_sleb 6 (some .long))) (hI : Apart ad 89) (hK : va_K D vwCl (tysX cy) s) (hN : NW s)  {q : Int64 × Tcu}  {v2 : Int64} {v4 : Int32} {z0 : Int32} (h : X1_sleb_47 tp cu v2 v4 z0 = some q) {ls : Array Slot} (hl : lv_has ls 6 [(2, .long v2), (4, .int v4)]) {H : Heap} {locs : List Loc} (hP : va_P D vwCl (GX cy ad tk sp nm tp kp cu se ur ab lo im sy un en ra li i2) H) (hS : va_S (Ac ad 89) s.heap H locs) : W p l e ({ frames := 2, cells := 0, slots := 0, locals := 46 } : Room) s m args below meth c H locs 0 0 (MQ below (QR (some (.long q.1)) D (GX cy ad tk sp nm tp kp q.2 se ur ab lo im sy un en ra li i2) (Ac ad 89)) args s 0 0 (Ac ad 89)) (F0 m 47 ls [.int z0]) := by
  obtain ⟨hx, hb, hml, hown, hts, hr, hlk⟩ := id C
  unfold X1_sleb_47 at h
  refine lv_istore (lv' := [(5, .int z0), (2, .long v2), (4, .int v4)]) hx hb dX1_sleb_47 hl (by decide) rfl (fun ls hl => ?_)
  refine lv_iload hx hb dX1_sleb_49 (lv_at hl 0 rfl) ?_
  refine lv_if_eq (tgt := 72) hx hb dX1_sleb_51 (by decide) (fun c1 => ?_) (fun c1 => ?_)
  · rw [if_pos c1] at h
    refine lv_lload_n hx hb dX1_sleb_72 rfl (lv_at hl 1 rfl) ?_
    obtain rfl := Option.some.inj h
    exact W.lret hx hb hr (fun t ht _ => ⟨rfl, by rw [ht]; exact hP, hS.F ht⟩) hS.2.2 dX1_sleb_73 hlk
  · rw [if_neg c1] at h
    refine lv_iload hx hb dX1_sleb_54 (lv_at hl 2 rfl) ?_
    refine lv_bipush (v := (64 : Int32)) hx hb dX1_sleb_56 (by decide) ?_
    refine b_icmp_ge (tgt := 72) hx hb dX1_sleb_58 (by decide) (fun c2 => ?_) (fun c2 => ?_)
    · rw [if_neg c2] at h
      refine lv_lload_n hx hb dX1_sleb_72 rfl (lv_at hl 1 rfl) ?_
      obtain rfl := Option.some.inj h
      exact W.lret hx hb hr (fun t ht _ => ⟨rfl, by rw [ht]; exact hP, hS.F ht⟩) hS.2.2 dX1_sleb_73 hlk
    · rw [if_pos c2] at h
      refine lv_lload_n hx hb dX1_sleb_61 rfl (lv_at hl 1 rfl) ?_
      refine lv_ldc2 (v := (-1 : Int64)) hx hb hown (hts _ (List.mem_cons_of_mem _ w801)) dX1_sleb_62 ?_
      refine lv_iload hx hb dX1_sleb_65 (lv_at hl 2 rfl) ?_
      refine lv_lshl (v := ((-1 : Int64) <<< ((v4).toInt64 &&& 63))) hx hb dX1_sleb_67 rfl ?_
      refine lv_lor hx hb dX1_sleb_68 ?_
      refine lv_goto (tgt := 73) hx hb dX1_sleb_69 (by decide) ?_
      obtain rfl := Option.some.inj h
      exact W.lret hx hb hr (fun t ht _ => ⟨rfl, by rw [ht]; exact hP, hS.F ht⟩) hS.2.2 dX1_sleb_73 hlk
def X1_sleb_46 (tp : Ttp)  (cu : Tcu) (v2 : Int64) (v4 : Int32) : Option (Int64 × Tcu) := X1_sleb_47 tp cu v2 v4 (0 : Int32)
set_option maxRecDepth 20000 in
theorem bX1_sleb_46 (C : Cx p s m args meth c cX1_sleb 6 (some .long) RX1 (.code yX1_sleb cX1_sleb 6 (some .long))) (hI : Apart ad 89) (hK : va_K D vwCl (tysX cy) s) (hN : NW s)  {q : Int64 × Tcu}  {v2 : Int64} {v4 : Int32} (h : X1_sleb_46 tp cu v2 v4 = some q) {ls : Array Slot} (hl : lv_has ls 6 [(2, .long v2), (4, .int v4)]) {H : Heap} {locs : List Loc} (hP : va_P D vwCl (GX cy ad tk sp nm tp kp cu se ur ab lo im sy un en ra li i2) H) (hS : va_S (Ac ad 89) s.heap H locs) : W p l e ({ frames := 2, cells := 0, slots := 0, locals := 46 } : Room) s m args below meth c H locs 0 0 (MQ below (QR (some (.long q.1)) D (GX cy ad tk sp nm tp kp q.2 se ur ab lo im sy un en ra li i2) (Ac ad 89)) args s 0 0 (Ac ad 89)) (F0 m 46 ls []) := by
  obtain ⟨hx, hb, hml, hown, hts, hr, hlk⟩ := id C
  unfold X1_sleb_46 at h
  refine lv_iconst (v := (0 : Int32)) hx hb dX1_sleb_46 (by decide) ?_
  exact bX1_sleb_47 C hI hK hN h (lv_sub hl [0, 1] rfl) hP hS
def X1_sleb (tp : Ttp) (cu : Tcu)  : Option (Int64 × Tcu) := ((X1_uleb tp cu).bind fun q1 => (if 0 < ((7 : Int32) * (q1.2.2.1 - cu.2.1)) then ((X1_byteAt tp (q1.2.2.1 - (1 : Int32))).bind fun q4 => (if (q4 &&& (64 : Int32)) = 0 then X1_sleb_46 tp q1.2 q1.1 ((7 : Int32) * (q1.2.2.1 - cu.2.1)) else X1_sleb_47 tp q1.2 q1.1 ((7 : Int32) * (q1.2.2.1 - cu.2.1)) (1 : Int32))) else X1_sleb_46 tp q1.2 q1.1 ((7 : Int32) * (q1.2.2.1 - cu.2.1))))
set_option maxRecDepth 20000 in
theorem bX1_sleb_0 (C : Cx p s m args meth c cX1_sleb 6 (some .long) RX1 (.code yX1_sleb cX1_sleb 6 (some .long))) (hI : Apart ad 89) (hK : va_K D vwCl (tysX cy) s) (hN : NW s)  {q : Int64 × Tcu}   (h : X1_sleb tp cu = some q) {ls : Array Slot} (hl : lv_has ls 6 [(0, .ref (ad 3))]) {H : Heap} {locs : List Loc} (hP : va_P D vwCl (GX cy ad tk sp nm tp kp cu se ur ab lo im sy un en ra li i2) H) (hS : va_S (Ac ad 89) s.heap H locs) : W p l e ({ frames := 2, cells := 0, slots := 0, locals := 46 } : Room) s m args below meth c H locs 0 0 (MQ below (QR (some (.long q.1)) D (GX cy ad tk sp nm tp kp q.2 se ur ab lo im sy un en ra li i2) (Ac ad 89)) args s 0 0 (Ac ad 89)) (F0 m 0 ls []) := by
  obtain ⟨hx, hb, hml, hown, hts, hr, hlk⟩ := id C
  unfold X1_sleb at h
  refine lv_aload_n hx hb dX1_sleb_0 rfl (lv_at hl 0 rfl) ?_
  refine gX3_2 (v := cu.2.1) C hK hP rfl w131 dX1_sleb_1 ?_
  refine lv_istore_n (lv' := [(1, .int cu.2.1), (0, .ref (ad 3))]) hx hb dX1_sleb_4 rfl hl (by decide) rfl (fun ls hl => ?_)
  refine lv_aload_n hx hb dX1_sleb_5 rfl (lv_at hl 1 rfl) ?_
  obtain ⟨q1, h2, h⟩ := bnd h
  refine cRl (run_V (rest := []) C (kX1_uleb hI h2) caX1_uleb w800 ⟨rfl, rfl, Nat.le_of_ble_eq_true rfl, Nat.le_of_ble_eq_true rfl⟩ hK hN hP (rX3 hK hP) rfl hl.1 rfl (Nat.le_of_ble_eq_true rfl) dX1_sleb_6 ⟨Nat.zero_le _, Nat.zero_le _⟩) hS (fun H locs hP hS => ?_)
  have hP : va_P D vwCl (GX cy ad tk sp nm tp kp q1.2 se ur ab lo im sy un en ra li i2) H := hP
  refine lv_lstore_n (lv' := [(2, .long q1.1), (1, .int cu.2.1), (0, .ref (ad 3))]) hx hb dX1_sleb_9 rfl hl (by decide) rfl (fun ls hl => ?_)
  refine lv_bipush (v := (7 : Int32)) hx hb dX1_sleb_10 (by decide) ?_
  refine lv_aload_n hx hb dX1_sleb_12 rfl (lv_at hl 2 rfl) ?_
  refine gX3_2 (v := q1.2.2.1) C hK hP rfl w131 dX1_sleb_13 ?_
  refine lv_iload_n hx hb dX1_sleb_16 rfl (lv_at hl 1 rfl) ?_
  refine lv_isub hx hb dX1_sleb_17 ?_
  refine lv_imul hx hb dX1_sleb_18 ?_
  refine lv_istore (lv' := [(4, .int ((7 : Int32) * (q1.2.2.1 - cu.2.1))), (2, .long q1.1), (1, .int cu.2.1), (0, .ref (ad 3))]) hx hb dX1_sleb_19 hl (by decide) rfl (fun ls hl => ?_)
  refine lv_iload hx hb dX1_sleb_21 (lv_at hl 0 rfl) ?_
  refine b_if_le (tgt := 46) hx hb dX1_sleb_23 (by decide) (fun c3 => ?_) (fun c3 => ?_)
  · rw [if_neg c3] at h
    exact bX1_sleb_46 C hI hK hN h (lv_sub hl [1, 0] rfl) hP hS
  · rw [if_pos c3] at h
    refine lv_aload_n hx hb dX1_sleb_26 rfl (lv_at hl 3 rfl) ?_
    refine lv_aload_n hx hb dX1_sleb_27 rfl (lv_at hl 3 rfl) ?_
    refine gX3_2 (v := q1.2.2.1) C hK hP rfl w131 dX1_sleb_28 ?_
    refine lv_iconst (v := (1 : Int32)) hx hb dX1_sleb_31 (by decide) ?_
    refine lv_isub hx hb dX1_sleb_32 ?_
    obtain ⟨q4, h5, h⟩ := bnd h
    refine cPi (run_V (rest := []) C (kX1_byteAt h5) caX1_byteAt w625 ⟨rfl, rfl, Nat.le_of_ble_eq_true rfl, Nat.le_of_ble_eq_true rfl⟩ hK hN hP (rX3 hK hP) rfl hl.1 rfl (Nat.le_of_ble_eq_true rfl) dX1_sleb_33 ⟨Nat.zero_le _, Nat.zero_le _⟩) ?_
    refine lv_bipush (v := (64 : Int32)) hx hb dX1_sleb_36 (by decide) ?_
    refine lv_iand hx hb dX1_sleb_38 ?_
    refine lv_if_eq (tgt := 46) hx hb dX1_sleb_39 (by decide) (fun c6 => ?_) (fun c6 => ?_)
    · rw [if_pos c6] at h
      exact bX1_sleb_46 C hI hK hN h (lv_sub hl [1, 0] rfl) hP hS
    · rw [if_neg c6] at h
      refine lv_iconst (v := (1 : Int32)) hx hb dX1_sleb_42 (by decide) ?_
      refine lv_goto (tgt := 47) hx hb dX1_sleb_43 (by decide) ?_
      exact bX1_sleb_47 C hI hK hN h (lv_sub hl [1, 0] rfl) hP hS
theorem kX1_sleb (hI : Apart ad 89)  {q : Int64 × Tcu} (h : X1_sleb tp cu = some q) : Met l yX1_sleb (.code yX1_sleb cX1_sleb 6 (some .long) :: WA) ({ frames := 2, cells := 0, slots := 0, locals := 46 } : Room) (va_Pc [.ref (ad 3)] (PR D cy (GX cy ad tk sp nm tp kp cu se ur ab lo im sy un en ra li i2))) (QR (some (.long q.1)) D (GX cy ad tk sp nm tp kp q.2 se ur ab lo im sy un en ra li i2) (Ac ad 89)) 0 0 (Ac ad 89) :=
  met_of (by decide) (Nat.le_of_ble_eq_true rfl) (fun p e s m below meth c ls C hP hK hN hl => bX1_sleb_0 C hI hK hN h hl hP va_S.rf)
def X0_readPair_143 (tp : Ttp)  (cu : Tcu) (ab : Tab) (v7 : Int32) (z0 : Int64) (z1 : Int32) : Option (Int32 × Tcu × Tab) := some ((1 : Int32), cu, (ab.1, ab.2.1, ab.2.2.1, (put_i 40 ab.2.2.2.1 ab.2.2.2.2.2.2.2 (v7 + (1 : Int32))), ab.2.2.2.2.1, ab.2.2.2.2.2.1, (put_l 640 ab.2.2.2.2.2.2.1 z1 z0), ab.2.2.2.2.2.2.2))
set_option maxRecDepth 20000 in
theorem bX0_readPair_143 (C : Cx p s m args meth c cX0_readPair 9 (some .boolean) RX0 (.code yX0_readPair cX0_readPair 9 (some .boolean))) (hI : Apart ad 89) (hK : va_K D vwCl (tysX cy) s) (hN : NW s)  {q : Int32 × Tcu × Tab}  {v7 : Int32} {z0 : Int64} {z1 : Int32} (h : X0_readPair_143 tp cu ab v7 z0 z1 = some q) {ls : Array Slot} (hl : lv_has ls 9 [(0, .ref (ad 11)), (7, .int v7)]) {H : Heap} {locs : List Loc} (hP : va_P D vwCl (GX cy ad tk sp nm tp kp cu se ur ab lo im sy un en ra li i2) H) (hS : va_S (Ac ad 89) s.heap H locs) : W p l e ({ frames := 3, cells := 0, slots := 0, locals := 71 } : Room) s m args below meth c H locs 0 0 (MQ below (QR (some (.int q.1)) D (GX cy ad tk sp nm tp kp q.2.1 se ur q.2.2 lo im sy un en ra li i2) (Ac ad 89)) args s 0 0 (Ac ad 89)) (F0 m 143 ls [.long z0, .int z1, .ref (ad 18)]) := by
  obtain ⟨hx, hb, hml, hown, hts, hr, hlk⟩ := id C
  unfold X0_readPair_143 at h
  refine xput_l (rest := []) C hK hN hP (GX_D hI) hS eX18 (Nat.le_of_ble_eq_true rfl) w784 hl.1 (Nat.le_of_ble_eq_true rfl) dX0_readPair_143 ⟨Nat.le_of_ble_eq_true rfl, Nat.le_of_ble_eq_true rfl⟩ ⟨Nat.zero_le _, Nat.zero_le _⟩ (fun H locs hP hS => ?_)
  have hP : va_P D vwCl (GX cy ad tk sp nm tp kp cu se ur (ab.1, ab.2.1, ab.2.2.1, ab.2.2.2.1, ab.2.2.2.2.1, ab.2.2.2.2.2.1, (put_l 640 ab.2.2.2.2.2.2.1 z1 z0), ab.2.2.2.2.2.2.2) lo im sy un en ra li i2) H := hP
  refine lv_aload_n hx hb dX0_readPair_146 rfl (lv_at hl 0 rfl) ?_
  refine gX11_3 C hK hP w190 dX0_readPair_147 ?_
  refine lv_aload_n hx hb dX0_readPair_150 rfl (lv_at hl 0 rfl) ?_
  refine gX11_7 (v := ab.2.2.2.2.2.2.2) C hK hP rfl w194 dX0_readPair_151 ?_
  refine lv_iload hx hb dX0_readPair_154 (lv_at hl 1 rfl) ?_
  refine lv_iconst (v := (1 : Int32)) hx hb dX0_readPair_156 (by decide) ?_
  refine lv_iadd hx hb dX0_readPair_157 ?_
  refine xput_i (rest := []) C hK hN hP (GX_D hI) hS eX15 (Nat.le_of_ble_eq_true rfl) w786 hl.1 (Nat.le_of_ble_eq_true rfl) dX0_readPair_158 ⟨Nat.le_of_ble_eq_true rfl, Nat.le_of_ble_eq_true rfl⟩ ⟨Nat.zero_le _, Nat.zero_le _⟩ (fun H locs hP hS => ?_)
  have hP : va_P D vwCl (GX cy ad tk sp nm tp kp cu se ur (ab.1, ab.2.1, ab.2.2.1, (put_i 40 ab.2.2.2.1 ab.2.2.2.2.2.2.2 (v7 + (1 : Int32))), ab.2.2.2.2.1, ab.2.2.2.2.2.1, (put_l 640 ab.2.2.2.2.2.2.1 z1 z0), ab.2.2.2.2.2.2.2) lo im sy un en ra li i2) H := hP
  refine lv_iconst (v := (1 : Int32)) hx hb dX0_readPair_161 (by decide) ?_
  obtain rfl := Option.some.inj h
  exact W.zret (ty := .boolean) hx hb hr (by decide) (fun t ht _ => ⟨rfl, by rw [ht]; exact hP, hS.F ht⟩) hS.2.2 dX0_readPair_162 hlk
def X0_readPair_77 (tp : Ttp)  (cu : Tcu) (ab : Tab) (v3 : Int64) (v5 : Int64) (v7 : Int32) : Option (Int32 × Tcu × Tab) := (if (X1_sound cu) = 0 then some ((0 : Int32), cu, ab) else (if v5 = (33 : Int64) then ((X1_sleb tp cu).bind fun q3 => X0_readPair_143 tp q3.2 (ab.1, ab.2.1, ab.2.2.1, ab.2.2.2.1, (put_l 640 ab.2.2.2.2.1 ((ab.2.2.2.2.2.2.2 * (16 : Int32)) + v7) v3), (put_i 640 ab.2.2.2.2.2.1 ((ab.2.2.2.2.2.2.2 * (16 : Int32)) + v7) ((v5).toInt32)), ab.2.2.2.2.2.2.1, ab.2.2.2.2.2.2.2) v7 q3.1 ((ab.2.2.2.2.2.2.2 * (16 : Int32)) + v7)) else X0_readPair_143 tp cu (ab.1, ab.2.1, ab.2.2.1, ab.2.2.2.1, (put_l 640 ab.2.2.2.2.1 ((ab.2.2.2.2.2.2.2 * (16 : Int32)) + v7) v3), (put_i 640 ab.2.2.2.2.2.1 ((ab.2.2.2.2.2.2.2 * (16 : Int32)) + v7) ((v5).toInt32)), ab.2.2.2.2.2.2.1, ab.2.2.2.2.2.2.2) v7 (0 : Int64) ((ab.2.2.2.2.2.2.2 * (16 : Int32)) + v7)))
set_option maxRecDepth 20000 in
theorem bX0_readPair_77 (C : Cx p s m args meth c cX0_readPair 9 (some .boolean) RX0 (.code yX0_readPair cX0_readPair 9 (some .boolean))) (hI : Apart ad 89) (hK : va_K D vwCl (tysX cy) s) (hN : NW s)  {q : Int32 × Tcu × Tab}  {v3 : Int64} {v5 : Int64} {v7 : Int32} (h : X0_readPair_77 tp cu ab v3 v5 v7 = some q) {ls : Array Slot} (hl : lv_has ls 9 [(0, .ref (ad 11)), (1, .ref (ad 3)), (3, .long v3), (5, .long v5), (7, .int v7)]) {H : Heap} {locs : List Loc} (hP : va_P D vwCl (GX cy ad tk sp nm tp kp cu se ur ab lo im sy un en ra li i2) H) (hS : va_S (Ac ad 89) s.heap H locs) : W p l e ({ frames := 3, cells := 0, slots := 0, locals := 71 } : Room) s m args below meth c H locs 0 0 (MQ below (QR (some (.int q.1)) D (GX cy ad tk sp nm tp kp q.2.1 se ur q.2.2 lo im sy un en ra li i2) (Ac ad 89)) args s 0 0 (Ac ad 89)) (F0 m 77 ls []) := by
  obtain ⟨hx, hb, hml, hown, hts, hr, hlk⟩ := id C
  unfold X0_readPair_77 at h
  refine lv_aload_n hx hb dX0_readPair_77 rfl (lv_at hl 1 rfl) ?_
  refine cPi (run_V (rest := []) C (kX1_sound rfl) caX1_sound w765 ⟨rfl, rfl, Nat.le_of_ble_eq_true rfl, Nat.le_of_ble_eq_true rfl⟩ hK hN hP (rX3 hK hP) rfl hl.1 rfl (Nat.le_of_ble_eq_true rfl) dX0_readPair_78 ⟨Nat.zero_le _, Nat.zero_le _⟩) ?_
  refine lv_if_ne (tgt := 86) hx hb dX0_readPair_81 (by decide) (fun c1 => ?_) (fun c1 => ?_)
  · rw [if_neg c1] at h
    refine lv_aload_n hx hb dX0_readPair_86 rfl (lv_at hl 0 rfl) ?_
    refine gX11_7 (v := ab.2.2.2.2.2.2.2) C hK hP rfl w194 dX0_readPair_87 ?_
    refine lv_bipush (v := (16 : Int32)) hx hb dX0_readPair_90 (by decide) ?_
    refine lv_imul hx hb dX0_readPair_92 ?_
    refine lv_iload hx hb dX0_readPair_93 (lv_at hl 4 rfl) ?_
    refine lv_iadd hx hb dX0_readPair_95 ?_
    refine lv_istore (lv' := [(8, .int ((ab.2.2.2.2.2.2.2 * (16 : Int32)) + v7)), (0, .ref (ad 11)), (1, .ref (ad 3)), (3, .long v3), (5, .long v5), (7, .int v7)]) hx hb dX0_readPair_96 hl (by decide) rfl (fun ls hl => ?_)
    refine lv_aload_n hx hb dX0_readPair_98 rfl (lv_at hl 1 rfl) ?_
    refine gX11_4 C hK hP w191 dX0_readPair_99 ?_
    refine lv_iload hx hb dX0_readPair_102 (lv_at hl 0 rfl) ?_
    refine lv_lload_n hx hb dX0_readPair_104 rfl (lv_at hl 3 rfl) ?_
    refine xput_l (rest := []) C hK hN hP (GX_D hI) hS eX16 (Nat.le_of_ble_eq_true rfl) w784 hl.1 (Nat.le_of_ble_eq_true rfl) dX0_readPair_105 ⟨Nat.le_of_ble_eq_true rfl, Nat.le_of_ble_eq_true rfl⟩ ⟨Nat.zero_le _, Nat.zero_le _⟩ (fun H locs hP hS => ?_)
    have hP : va_P D vwCl (GX cy ad tk sp nm tp kp cu se ur (ab.1, ab.2.1, ab.2.2.1, ab.2.2.2.1, (put_l 640 ab.2.2.2.2.1 ((ab.2.2.2.2.2.2.2 * (16 : Int32)) + v7) v3), ab.2.2.2.2.2.1, ab.2.2.2.2.2.2.1, ab.2.2.2.2.2.2.2) lo im sy un en ra li i2) H := hP
    refine lv_aload_n hx hb dX0_readPair_108 rfl (lv_at hl 1 rfl) ?_
    refine gX11_5 C hK hP w192 dX0_readPair_109 ?_
    refine lv_iload hx hb dX0_readPair_112 (lv_at hl 0 rfl) ?_
    refine lv_lload hx hb dX0_readPair_114 (lv_at hl 4 rfl) ?_
    refine lv_l2i (v := ((v5).toInt32)) hx hb dX0_readPair_116 rfl ?_
    refine xput_i (rest := []) C hK hN hP (GX_D hI) hS eX17 (Nat.le_of_ble_eq_true rfl) w786 hl.1 (Nat.le_of_ble_eq_true rfl) dX0_readPair_117 ⟨Nat.le_of_ble_eq_true rfl, Nat.le_of_ble_eq_true rfl⟩ ⟨Nat.zero_le _, Nat.zero_le _⟩ (fun H locs hP hS => ?_)
    have hP : va_P D vwCl (GX cy ad tk sp nm tp kp cu se ur (ab.1, ab.2.1, ab.2.2.1, ab.2.2.2.1, (put_l 640 ab.2.2.2.2.1 ((ab.2.2.2.2.2.2.2 * (16 : Int32)) + v7) v3), (put_i 640 ab.2.2.2.2.2.1 ((ab.2.2.2.2.2.2.2 * (16 : Int32)) + v7) ((v5).toInt32)), ab.2.2.2.2.2.2.1, ab.2.2.2.2.2.2.2) lo im sy un en ra li i2) H := hP
    refine lv_aload_n hx hb dX0_readPair_120 rfl (lv_at hl 1 rfl) ?_
    refine gX11_6 C hK hP w193 dX0_readPair_121 ?_
    refine lv_iload hx hb dX0_readPair_124 (lv_at hl 0 rfl) ?_
    refine lv_lload hx hb dX0_readPair_126 (lv_at hl 4 rfl) ?_
    refine lv_ldc2 (v := (33 : Int64)) hx hb hown (hts _ (List.mem_cons_of_mem _ w794)) dX0_readPair_128 ?_
    refine lc_ne (tgt := 142) hx hb dX0_readPair_131 dX0_readPair_132 (by decide) (fun c2 => ?_) (fun c2 => ?_)
    · rw [if_neg c2] at h
      refine lv_lconst (v := (0 : Int64)) hx hb dX0_readPair_142 (by decide) ?_
      exact bX0_readPair_143 C hI hK hN h (lv_sub hl [1, 5] rfl) hP hS
    · rw [if_pos c2] at h
      refine lv_aload_n hx hb dX0_readPair_135 rfl (lv_at hl 2 rfl) ?_
      obtain ⟨q3, h4, h⟩ := bnd h
      refine cRl (run_V (rest := [.int ((ab.2.2.2.2.2.2.2 * (16 : Int32)) + v7), .ref (ad 18)]) C (kX1_sleb hI h4) caX1_sleb w796 ⟨rfl, rfl, Nat.le_of_ble_eq_true rfl, Nat.le_of_ble_eq_true rfl⟩ hK hN hP (rX3 hK hP) rfl hl.1 rfl (Nat.le_of_ble_eq_true rfl) dX0_readPair_136 ⟨Nat.zero_le _, Nat.zero_le _⟩) hS (fun H locs hP hS => ?_)
      have hP : va_P D vwCl (GX cy ad tk sp nm tp kp q3.2 se ur (ab.1, ab.2.1, ab.2.2.1, ab.2.2.2.1, (put_l 640 ab.2.2.2.2.1 ((ab.2.2.2.2.2.2.2 * (16 : Int32)) + v7) v3), (put_i 640 ab.2.2.2.2.2.1 ((ab.2.2.2.2.2.2.2 * (16 : Int32)) + v7) ((v5).toInt32)), ab.2.2.2.2.2.2.1, ab.2.2.2.2.2.2.2) lo im sy un en ra li i2) H := hP
      refine lv_goto (tgt := 143) hx hb dX0_readPair_139 (by decide) ?_
      exact bX0_readPair_143 C hI hK hN h (lv_sub hl [1, 5] rfl) hP hS
  · rw [if_pos c1] at h
    refine lv_iconst (v := (0 : Int32)) hx hb dX0_readPair_84 (by decide) ?_
    obtain rfl := Option.some.inj h
    exact W.zret (ty := .boolean) hx hb hr (by decide) (fun t ht _ => ⟨rfl, by rw [ht]; exact hP, hS.F ht⟩) hS.2.2 dX0_readPair_85 hlk
def X0_readPair_51 (tp : Ttp)  (cu : Tcu) (ab : Tab) (v2 : Int32) (v3 : Int64) (v5 : Int64) : Option (Int32 × Tcu × Tab) := (if (at_i 40 ab.2.2.2.1 ab.2.2.2.2.2.2.2) < (16 : Int32) then X0_readPair_77 tp cu ab v3 v5 (at_i 40 ab.2.2.2.1 ab.2.2.2.2.2.2.2) else (letq (X1_refuse cu (4 : Int32) v2) fun q2 => X0_readPair_77 tp q2 ab v3 v5 (at_i 40 ab.2.2.2.1 ab.2.2.2.2.2.2.2)))
set_option maxRecDepth 20000 in
theorem bX0_readPair_51 (C : Cx p s m args meth c cX0_readPair 9 (some .boolean) RX0 (.code yX0_readPair cX0_readPair 9 (some .boolean))) (hI : Apart ad 89) (hK : va_K D vwCl (tysX cy) s) (hN : NW s)  {q : Int32 × Tcu × Tab}  {v2 : Int32} {v3 : Int64} {v5 : Int64} (h : X0_readPair_51 tp cu ab v2 v3 v5 = some q) {ls : Array Slot} (hl : lv_has ls 9 [(0, .ref (ad 11)), (1, .ref (ad 3)), (2, .int v2), (3, .long v3), (5, .long v5)]) {H : Heap} {locs : List Loc} (hP : va_P D vwCl (GX cy ad tk sp nm tp kp cu se ur ab lo im sy un en ra li i2) H) (hS : va_S (Ac ad 89) s.heap H locs) : W p l e ({ frames := 3, cells := 0, slots := 0, locals := 71 } : Room) s m args below meth c H locs 0 0 (MQ below (QR (some (.int q.1)) D (GX cy ad tk sp nm tp kp q.2.1 se ur q.2.2 lo im sy un en ra li i2) (Ac ad 89)) args s 0 0 (Ac ad 89)) (F0 m 51 ls []) := by
  obtain ⟨hx, hb, hml, hown, hts, hr, hlk⟩ := id C
  unfold X0_readPair_51 at h
  refine lv_aload_n hx hb dX0_readPair_51 rfl (lv_at hl 0 rfl) ?_
  refine gX11_3 C hK hP w190 dX0_readPair_52 ?_
  refine lv_aload_n hx hb dX0_readPair_55 rfl (lv_at hl 0 rfl) ?_
  refine gX11_7 (v := ab.2.2.2.2.2.2.2) C hK hP rfl w194 dX0_readPair_56 ?_
  refine xat_i (rest := []) C hK hN hP eX15 (Nat.le_of_ble_eq_true rfl) w795 hl.1 (Nat.le_of_ble_eq_true rfl) dX0_readPair_59 ⟨Nat.le_of_ble_eq_true rfl, Nat.le_of_ble_eq_true rfl⟩ ⟨Nat.zero_le _, Nat.zero_le _⟩ ?_
  refine lv_istore (lv' := [(7, .int (at_i 40 ab.2.2.2.1 ab.2.2.2.2.2.2.2)), (0, .ref (ad 11)), (1, .ref (ad 3)), (2, .int v2), (3, .long v3), (5, .long v5)]) hx hb dX0_readPair_62 hl (by decide) rfl (fun ls hl => ?_)
  refine lv_iload hx hb dX0_readPair_64 (lv_at hl 0 rfl) ?_
  refine lv_bipush (v := (16 : Int32)) hx hb dX0_readPair_66 (by decide) ?_
  refine lv_icmp_lt (tgt := 77) hx hb dX0_readPair_68 (by decide) (fun c1 => ?_) (fun c1 => ?_)
  · rw [if_pos c1] at h
    exact bX0_readPair_77 C hI hK hN h (lv_sub hl [1, 2, 4, 5, 0] rfl) hP hS
  · rw [if_neg c1] at h
    refine lv_aload_n hx hb dX0_readPair_71 rfl (lv_at hl 2 rfl) ?_
    refine lv_iconst (v := (4 : Int32)) hx hb dX0_readPair_72 (by decide) ?_
    refine lv_iload_n hx hb dX0_readPair_73 rfl (lv_at hl 3 rfl) ?_
    obtain ⟨q2, h3, h⟩ := lets h
    refine cRv (run_V (rest := []) C (kX1_refuse hI h3) caX1_refuse w783 ⟨rfl, rfl, Nat.le_of_ble_eq_true rfl, Nat.le_of_ble_eq_true rfl⟩ hK hN hP (rX3 hK hP) rfl hl.1 rfl (Nat.le_of_ble_eq_true rfl) dX0_readPair_74 ⟨Nat.zero_le _, Nat.zero_le _⟩) hS (fun H locs hP hS => ?_)
    have hP : va_P D vwCl (GX cy ad tk sp nm tp kp q2 se ur ab lo im sy un en ra li i2) H := hP
    exact bX0_readPair_77 C hI hK hN h (lv_sub hl [1, 2, 4, 5, 0] rfl) hP hS
def X0_readPair_45 (tp : Ttp)  (cu : Tcu) (ab : Tab) (v2 : Int32) (v3 : Int64) (v5 : Int64) : Option (Int32 × Tcu × Tab) := (letq (X1_refuse cu (2 : Int32) v2) fun q1 => X0_readPair_51 tp q1 ab v2 v3 v5)
set_option maxRecDepth 20000 in
theorem bX0_readPair_45 (C : Cx p s m args meth c cX0_readPair 9 (some .boolean) RX0 (.code yX0_readPair cX0_readPair 9 (some .boolean))) (hI : Apart ad 89) (hK : va_K D vwCl (tysX cy) s) (hN : NW s)  {q : Int32 × Tcu × Tab}  {v2 : Int32} {v3 : Int64} {v5 : Int64} (h : X0_readPair_45 tp cu ab v2 v3 v5 = some q) {ls : Array Slot} (hl : lv_has ls 9 [(0, .ref (ad 11)), (1, .ref (ad 3)), (2, .int v2), (3, .long v3), (5, .long v5)]) {H : Heap} {locs : List Loc} (hP : va_P D vwCl (GX cy ad tk sp nm tp kp cu se ur ab lo im sy un en ra li i2) H) (hS : va_S (Ac ad 89) s.heap H locs) : W p l e ({ frames := 3, cells := 0, slots := 0, locals := 71 } : Room) s m args below meth c H locs 0 0 (MQ below (QR (some (.int q.1)) D (GX cy ad tk sp nm tp kp q.2.1 se ur q.2.2 lo im sy un en ra li i2) (Ac ad 89)) args s 0 0 (Ac ad 89)) (F0 m 45 ls []) := by
  obtain ⟨hx, hb, hml, hown, hts, hr, hlk⟩ := id C
  unfold X0_readPair_45 at h
  refine lv_aload_n hx hb dX0_readPair_45 rfl (lv_at hl 1 rfl) ?_
  refine lv_iconst (v := (2 : Int32)) hx hb dX0_readPair_46 (by decide) ?_
  refine lv_iload_n hx hb dX0_readPair_47 rfl (lv_at hl 2 rfl) ?_
  obtain ⟨q1, h2, h⟩ := lets h
  refine cRv (run_V (rest := []) C (kX1_refuse hI h2) caX1_refuse w783 ⟨rfl, rfl, Nat.le_of_ble_eq_true rfl, Nat.le_of_ble_eq_true rfl⟩ hK hN hP (rX3 hK hP) rfl hl.1 rfl (Nat.le_of_ble_eq_true rfl) dX0_readPair_48 ⟨Nat.zero_le _, Nat.zero_le _⟩) hS (fun H locs hP hS => ?_)
  have hP : va_P D vwCl (GX cy ad tk sp nm tp kp q1 se ur ab lo im sy un en ra li i2) H := hP
  exact bX0_readPair_51 C hI hK hN h (lv_sub hl [0, 1, 2, 3, 4] rfl) hP hS
def X0_readPair_31 (tp : Ttp)  (cu : Tcu) (ab : Tab) (v2 : Int32) (v3 : Int64) (v5 : Int64) : Option (Int32 × Tcu × Tab) := (if v3 = (0 : Int64) then X0_readPair_45 tp cu ab v2 v3 v5 else (if (X0_isForm v5) = 0 then X0_readPair_45 tp cu ab v2 v3 v5 else X0_readPair_51 tp cu ab v2 v3 v5))
set_option maxRecDepth 20000 in
theorem bX0_readPair_31 (C : Cx p s m args meth c cX0_readPair 9 (some .boolean) RX0 (.code yX0_readPair cX0_readPair 9 (some .boolean))) (hI : Apart ad 89) (hK : va_K D vwCl (tysX cy) s) (hN : NW s)  {q : Int32 × Tcu × Tab}  {v2 : Int32} {v3 : Int64} {v5 : Int64} (h : X0_readPair_31 tp cu ab v2 v3 v5 = some q) {ls : Array Slot} (hl : lv_has ls 9 [(0, .ref (ad 11)), (1, .ref (ad 3)), (2, .int v2), (3, .long v3), (5, .long v5)]) {H : Heap} {locs : List Loc} (hP : va_P D vwCl (GX cy ad tk sp nm tp kp cu se ur ab lo im sy un en ra li i2) H) (hS : va_S (Ac ad 89) s.heap H locs) : W p l e ({ frames := 3, cells := 0, slots := 0, locals := 71 } : Room) s m args below meth c H locs 0 0 (MQ below (QR (some (.int q.1)) D (GX cy ad tk sp nm tp kp q.2.1 se ur q.2.2 lo im sy un en ra li i2) (Ac ad 89)) args s 0 0 (Ac ad 89)) (F0 m 31 ls []) := by
  obtain ⟨hx, hb, hml, hown, hts, hr, hlk⟩ := id C
  unfold X0_readPair_31 at h
  refine lv_lload_n hx hb dX0_readPair_31 rfl (lv_at hl 3 rfl) ?_
  refine lv_lconst (v := (0 : Int64)) hx hb dX0_readPair_32 (by decide) ?_
  refine lc_eq (tgt := 45) hx hb dX0_readPair_33 dX0_readPair_34 (by decide) (fun c1 => ?_) (fun c1 => ?_)
  · rw [if_pos c1] at h
    exact bX0_readPair_45 C hI hK hN h (lv_sub hl [0, 1, 2, 3, 4] rfl) hP hS
  · rw [if_neg c1] at h
    refine lv_lload hx hb dX0_readPair_37 (lv_at hl 4 rfl) ?_
    refine cPi (run_S (rest := []) C (kX0_isForm rfl) caX0_isForm w791 ⟨rfl, rfl, Nat.le_of_ble_eq_true rfl, Nat.le_of_ble_eq_true rfl⟩ hK hN hP rfl hl.1 rfl (Nat.le_of_ble_eq_true rfl) dX0_readPair_39 ⟨Nat.zero_le _, Nat.zero_le _⟩) ?_
    refine lv_if_ne (tgt := 51) hx hb dX0_readPair_42 (by decide) (fun c2 => ?_) (fun c2 => ?_)
    · rw [if_neg c2] at h
      exact bX0_readPair_51 C hI hK hN h (lv_sub hl [0, 1, 2, 3, 4] rfl) hP hS
    · rw [if_pos c2] at h
      exact bX0_readPair_45 C hI hK hN h (lv_sub hl [0, 1, 2, 3, 4] rfl) hP hS
def X0_readPair (tp : Ttp) (cu : Tcu) (ab : Tab)  : Option (Int32 × Tcu × Tab) := ((X1_uleb tp cu).bind fun q1 => ((X1_uleb tp q1.2).bind fun q3 => (if q1.1 = (0 : Int64) then (if q3.1 = (0 : Int64) then some ((0 : Int32), q3.2, ab) else X0_readPair_31 tp q3.2 ab (X1_place cu) q1.1 q3.1) else X0_readPair_31 tp q3.2 ab (X1_place cu) q1.1 q3.1)))
set_option maxRecDepth 20000 in
theorem bX0_readPair_0 (C : Cx p s m args meth c cX0_readPair 9 (some .boolean) RX0 (.code yX0_readPair cX0_readPair 9 (some .boolean))) (hI : Apart ad 89) (hK : va_K D vwCl (tysX cy) s) (hN : NW s)  {q : Int32 × Tcu × Tab}   (h : X0_readPair tp cu ab = some q) {ls : Array Slot} (hl : lv_has ls 9 [(0, .ref (ad 11)), (1, .ref (ad 3))]) {H : Heap} {locs : List Loc} (hP : va_P D vwCl (GX cy ad tk sp nm tp kp cu se ur ab lo im sy un en ra li i2) H) (hS : va_S (Ac ad 89) s.heap H locs) : W p l e ({ frames := 3, cells := 0, slots := 0, locals := 71 } : Room) s m args below meth c H locs 0 0 (MQ below (QR (some (.int q.1)) D (GX cy ad tk sp nm tp kp q.2.1 se ur q.2.2 lo im sy un en ra li i2) (Ac ad 89)) args s 0 0 (Ac ad 89)) (F0 m 0 ls []) := by
  obtain ⟨hx, hb, hml, hown, hts, hr, hlk⟩ := id C
  unfold X0_readPair at h
  refine lv_aload_n hx hb dX0_readPair_0 rfl (lv_at hl 1 rfl) ?_
  refine cPi (run_V (rest := []) C (kX1_place rfl) caX1_place w770 ⟨rfl, rfl, Nat.le_of_ble_eq_true rfl, Nat.le_of_ble_eq_true rfl⟩ hK hN hP (rX3 hK hP) rfl hl.1 rfl (Nat.le_of_ble_eq_true rfl) dX0_readPair_1 ⟨Nat.zero_le _, Nat.zero_le _⟩) ?_
  refine lv_istore_n (lv' := [(2, .int (X1_place cu)), (0, .ref (ad 11)), (1, .ref (ad 3))]) hx hb dX0_readPair_4 rfl hl (by decide) rfl (fun ls hl => ?_)
  refine lv_aload_n hx hb dX0_readPair_5 rfl (lv_at hl 2 rfl) ?_
  obtain ⟨q1, h2, h⟩ := bnd h
  refine cRl (run_V (rest := []) C (kX1_uleb hI h2) caX1_uleb w771 ⟨rfl, rfl, Nat.le_of_ble_eq_true rfl, Nat.le_of_ble_eq_true rfl⟩ hK hN hP (rX3 hK hP) rfl hl.1 rfl (Nat.le_of_ble_eq_true rfl) dX0_readPair_6 ⟨Nat.zero_le _, Nat.zero_le _⟩) hS (fun H locs hP hS => ?_)
  have hP : va_P D vwCl (GX cy ad tk sp nm tp kp q1.2 se ur ab lo im sy un en ra li i2) H := hP
  refine lv_lstore_n (lv' := [(3, .long q1.1), (2, .int (X1_place cu)), (0, .ref (ad 11)), (1, .ref (ad 3))]) hx hb dX0_readPair_9 rfl hl (by decide) rfl (fun ls hl => ?_)
  refine lv_aload_n hx hb dX0_readPair_10 rfl (lv_at hl 3 rfl) ?_
  obtain ⟨q3, h4, h⟩ := bnd h
  refine cRl (run_V (rest := []) C (kX1_uleb hI h4) caX1_uleb w771 ⟨rfl, rfl, Nat.le_of_ble_eq_true rfl, Nat.le_of_ble_eq_true rfl⟩ hK hN hP (rX3 hK hP) rfl hl.1 rfl (Nat.le_of_ble_eq_true rfl) dX0_readPair_11 ⟨Nat.zero_le _, Nat.zero_le _⟩) hS (fun H locs hP hS => ?_)
  have hP : va_P D vwCl (GX cy ad tk sp nm tp kp q3.2 se ur ab lo im sy un en ra li i2) H := hP
  refine lv_lstore (lv' := [(5, .long q3.1), (3, .long q1.1), (2, .int (X1_place cu)), (0, .ref (ad 11)), (1, .ref (ad 3))]) hx hb dX0_readPair_14 hl (by decide) rfl (fun ls hl => ?_)
  refine lv_lload_n hx hb dX0_readPair_16 rfl (lv_at hl 1 rfl) ?_
  refine lv_lconst (v := (0 : Int64)) hx hb dX0_readPair_17 (by decide) ?_
  refine lc_ne (tgt := 31) hx hb dX0_readPair_18 dX0_readPair_19 (by decide) (fun c5 => ?_) (fun c5 => ?_)
  · rw [if_neg c5] at h
    exact bX0_readPair_31 C hI hK hN h (lv_sub hl [3, 4, 2, 1, 0] rfl) hP hS
  · rw [if_pos c5] at h
    refine lv_lload hx hb dX0_readPair_22 (lv_at hl 0 rfl) ?_
    refine lv_lconst (v := (0 : Int64)) hx hb dX0_readPair_24 (by decide) ?_
    refine lc_ne (tgt := 31) hx hb dX0_readPair_25 dX0_readPair_26 (by decide) (fun c6 => ?_) (fun c6 => ?_)
    · rw [if_neg c6] at h
      exact bX0_readPair_31 C hI hK hN h (lv_sub hl [3, 4, 2, 1, 0] rfl) hP hS
    · rw [if_pos c6] at h
      refine lv_iconst (v := (0 : Int32)) hx hb dX0_readPair_29 (by decide) ?_
      obtain rfl := Option.some.inj h
      exact W.zret (ty := .boolean) hx hb hr (by decide) (fun t ht _ => ⟨rfl, by rw [ht]; exact hP, hS.F ht⟩) hS.2.2 dX0_readPair_30 hlk
theorem kX0_readPair (hI : Apart ad 89)  {q : Int32 × Tcu × Tab} (h : X0_readPair tp cu ab = some q) : Met l yX0_readPair (.code yX0_readPair cX0_readPair 9 (some .boolean) :: WA) ({ frames := 3, cells := 0, slots := 0, locals := 71 } : Room) (va_Pc [.ref (ad 11), .ref (ad 3)] (PR D cy (GX cy ad tk sp nm tp kp cu se ur ab lo im sy un en ra li i2))) (QR (some (.int q.1)) D (GX cy ad tk sp nm tp kp q.2.1 se ur q.2.2 lo im sy un en ra li i2) (Ac ad 89)) 0 0 (Ac ad 89) :=
  met_of (by decide) (Nat.le_of_ble_eq_true rfl) (fun p e s m below meth c ls C hP hK hN hl => bX0_readPair_0 C hI hK hN h hl hP va_S.rf)
def X1_hasLeft (cu : Tcu) (v1 : Int64) : Int32 := (if v1 < (0 : Int64) then (0 : Int32) else (if (((cu.2.2.1 - cu.2.1)).toInt64) < v1 then (0 : Int32) else (1 : Int32)))
set_option maxRecDepth 20000 in
theorem bX1_hasLeft_0 (C : Cx p s m args meth c cX1_hasLeft 3 (some .boolean) RX1 (.code yX1_hasLeft cX1_hasLeft 3 (some .boolean))) (hK : va_K D vwCl (tysX cy) s) (hN : NW s)  {q : Int32}  {v1 : Int64} (h : X1_hasLeft cu v1 = q) {ls : Array Slot} (hl : lv_has ls 3 [(0, .ref (ad 3)), (1, .long v1)]) (hP : va_P D vwCl (GX cy ad tk sp nm tp kp cu se ur ab lo im sy un en ra li i2) s.heap) : W p l e ({ frames := 0, cells := 0, slots := 0, locals := 0 } : Room) s m args below meth c s.heap [] 0 0 (MQ below (QP (some (.int q))) args s 0 0 (fun _ => False)) (F0 m 0 ls []) := by
  obtain ⟨hx, hb, hml, hown, hts, hr, hlk⟩ := id C
  unfold X1_hasLeft at h
  refine lv_lload_n hx hb dX1_hasLeft_0 rfl (lv_at hl 1 rfl) ?_
  refine lv_lconst (v := (0 : Int64)) hx hb dX1_hasLeft_1 (by decide) ?_
  refine lc_lt (tgt := 25) hx hb dX1_hasLeft_2 dX1_hasLeft_3 (by decide) (fun c1 => ?_) (fun c1 => ?_)
  · rw [if_pos c1] at h
    refine lv_iconst (v := (0 : Int32)) hx hb dX1_hasLeft_25 (by decide) ?_
    obtain rfl := h
    exact W.zret (ty := .boolean) hx hb hr (by decide) (fun t ht _ => ⟨rfl, ht⟩) (fun _ h9 => by cases h9) dX1_hasLeft_26 hlk
  · rw [if_neg c1] at h
    refine lv_lload_n hx hb dX1_hasLeft_6 rfl (lv_at hl 1 rfl) ?_
    refine lv_aload_n hx hb dX1_hasLeft_7 rfl (lv_at hl 0 rfl) ?_
    refine gX3_3 (v := cu.2.2.1) C hK hP rfl w132 dX1_hasLeft_8 ?_
    refine lv_aload_n hx hb dX1_hasLeft_11 rfl (lv_at hl 0 rfl) ?_
    refine gX3_2 (v := cu.2.1) C hK hP rfl w131 dX1_hasLeft_12 ?_
    refine lv_isub hx hb dX1_hasLeft_15 ?_
    refine lv_i2l (v := (((cu.2.2.1 - cu.2.1)).toInt64)) hx hb dX1_hasLeft_16 rfl ?_
    refine lc_gt (tgt := 25) hx hb dX1_hasLeft_17 dX1_hasLeft_18 (by decide) (fun c2 => ?_) (fun c2 => ?_)
    · rw [if_pos c2] at h
      refine lv_iconst (v := (0 : Int32)) hx hb dX1_hasLeft_25 (by decide) ?_
      obtain rfl := h
      exact W.zret (ty := .boolean) hx hb hr (by decide) (fun t ht _ => ⟨rfl, ht⟩) (fun _ h9 => by cases h9) dX1_hasLeft_26 hlk
    · rw [if_neg c2] at h
      refine lv_iconst (v := (1 : Int32)) hx hb dX1_hasLeft_21 (by decide) ?_
      refine lv_goto (tgt := 26) hx hb dX1_hasLeft_22 (by decide) ?_
      obtain rfl := h
      exact W.zret (ty := .boolean) hx hb hr (by decide) (fun t ht _ => ⟨rfl, ht⟩) (fun _ h9 => by cases h9) dX1_hasLeft_26 hlk
theorem kX1_hasLeft  {v1 : Int64} {q : Int32} (h : X1_hasLeft cu v1 = q) : Met l yX1_hasLeft (.code yX1_hasLeft cX1_hasLeft 3 (some .boolean) :: WA) ({ frames := 0, cells := 0, slots := 0, locals := 0 } : Room) (va_Pc [.ref (ad 3), .long v1] (PR D cy (GX cy ad tk sp nm tp kp cu se ur ab lo im sy un en ra li i2))) (QP (some (.int q))) 0 0 (fun _ => False) :=
  met_of (by decide) (Nat.le_of_ble_eq_true rfl) (fun p e s m below meth c ls C hP hK hN hl => bX1_hasLeft_0 C hK hN h hl hP)
def X1_numberAt_48 (tp : Ttp) (k5 : Int32 → Int32 → Int64 → Int32 → Option (Int64))  (v1 : Int32) (v2 : Int32) (v3 : Int64) (v5 : Int32) (z0 : Int64) : Option (Int64) := k5 v1 v2 (v3 ||| (z0 <<< ((((8 : Int32) * v5)).toInt64 &&& 63))) (v5 + (1 : Int32))
set_option maxRecDepth 20000 in
theorem bX1_numberAt_48 (C : Cx p s m args meth c cX1_numberAt 9 (some .long) RX1 (.code yX1_numberAt cX1_numberAt 9 (some .long))) (hK : va_K D vwCl (tysX cy) s) (hN : NW s) {k5 : Int32 → Int32 → Int64 → Int32 → Option (Int64)} {q : Int64} (hk5 : ∀  {v1 : Int32} {v2 : Int32} {v3 : Int64} {v5 : Int32}, k5 v1 v2 v3 v5 = some q → ∀ {ls : Array Slot}, lv_has ls 9 [(0, .ref (ad 3)), (1, .int v1), (2, .int v2), (3, .long v3), (5, .int v5)] → va_P D vwCl (GX cy ad tk sp nm tp kp cu se ur ab lo im sy un en ra li i2) s.heap → W p l e ({ frames := 0, cells := 0, slots := 0, locals := 0 } : Room) s m args below meth c s.heap [] 0 0 (MQ below (QP (some (.long q))) args s 0 0 (fun _ => False)) (F0 m 5 ls [])) {v1 : Int32} {v2 : Int32} {v3 : Int64} {v5 : Int32} {z0 : Int64} (h : X1_numberAt_48 tp k5 v1 v2 v3 v5 z0 = some q) {ls : Array Slot} (hl : lv_has ls 9 [(0, .ref (ad 3)), (1, .int v1), (2, .int v2), (3, .long v3), (5, .int v5)]) (hP : va_P D vwCl (GX cy ad tk sp nm tp kp cu se ur ab lo im sy un en ra li i2) s.heap) : W p l e ({ frames := 0, cells := 0, slots := 0, locals := 0 } : Room) s m args below meth c s.heap [] 0 0 (MQ below (QP (some (.long q))) args s 0 0 (fun _ => False)) (F0 m 48 ls [.long z0]) := by
  obtain ⟨hx, hb, hml, hown, hts, hr, hlk⟩ := id C
  unfold X1_numberAt_48 at h
  refine lv_lstore (lv' := [(7, .long z0), (0, .ref (ad 3)), (1, .int v1), (2, .int v2), (3, .long v3), (5, .int v5)]) hx hb dX1_numberAt_48 hl (by decide) rfl (fun ls hl => ?_)
  refine lv_lload_n hx hb dX1_numberAt_50 rfl (lv_at hl 4 rfl) ?_
  refine lv_lload hx hb dX1_numberAt_51 (lv_at hl 0 rfl) ?_
  refine lv_bipush (v := (8 : Int32)) hx hb dX1_numberAt_53 (by decide) ?_
  refine lv_iload hx hb dX1_numberAt_55 (lv_at hl 5 rfl) ?_
  refine lv_imul hx hb dX1_numberAt_57 ?_
  refine lv_lshl (v := (z0 <<< ((((8 : Int32) * v5)).toInt64 &&& 63))) hx hb dX1_numberAt_58 rfl ?_
  refine lv_lor hx hb dX1_numberAt_59 ?_
  refine lv_lstore_n (lv' := [(3, .long (v3 ||| (z0 <<< ((((8 : Int32) * v5)).toInt64 &&& 63)))), (7, .long z0), (0, .ref (ad 3)), (1, .int v1), (2, .int v2), (5, .int v5)]) hx hb dX1_numberAt_60 rfl hl (by decide) rfl (fun ls hl => ?_)
  refine lv_iinc (v := (v5 + (1 : Int32))) (lv' := [(5, .int (v5 + (1 : Int32))), (3, .long (v3 ||| (z0 <<< ((((8 : Int32) * v5)).toInt64 &&& 63)))), (7, .long z0), (0, .ref (ad 3)), (1, .int v1), (2, .int v2)]) hx hb dX1_numberAt_61 hl (k := 5) rfl rfl (by decide) rfl (fun ls hl => ?_)
  refine lv_goto (tgt := 5) hx hb dX1_numberAt_64 (by decide) ?_
  exact hk5 h (lv_sub hl [3, 4, 5, 1, 0] rfl) hP
def X1_numberAt_47 (tp : Ttp) (k5 : Int32 → Int32 → Int64 → Int32 → Option (Int64))  (v1 : Int32) (v2 : Int32) (v3 : Int64) (v5 : Int32) : Option (Int64) := X1_numberAt_48 tp k5 v1 v2 v3 v5 (0 : Int64)
set_option maxRecDepth 20000 in
theorem bX1_numberAt_47 (C : Cx p s m args meth c cX1_numberAt 9 (some .long) RX1 (.code yX1_numberAt cX1_numberAt 9 (some .long))) (hK : va_K D vwCl (tysX cy) s) (hN : NW s) {k5 : Int32 → Int32 → Int64 → Int32 → Option (Int64)} {q : Int64} (hk5 : ∀  {v1 : Int32} {v2 : Int32} {v3 : Int64} {v5 : Int32}, k5 v1 v2 v3 v5 = some q → ∀ {ls : Array Slot}, lv_has ls 9 [(0, .ref (ad 3)), (1, .int v1), (2, .int v2), (3, .long v3), (5, .int v5)] → va_P D vwCl (GX cy ad tk sp nm tp kp cu se ur ab lo im sy un en ra li i2) s.heap → W p l e ({ frames := 0, cells := 0, slots := 0, locals := 0 } : Room) s m args below meth c s.heap [] 0 0 (MQ below (QP (some (.long q))) args s 0 0 (fun _ => False)) (F0 m 5 ls [])) {v1 : Int32} {v2 : Int32} {v3 : Int64} {v5 : Int32} (h : X1_numberAt_47 tp k5 v1 v2 v3 v5 = some q) {ls : Array Slot} (hl : lv_has ls 9 [(0, .ref (ad 3)), (1, .int v1), (2, .int v2), (3, .long v3), (5, .int v5)]) (hP : va_P D vwCl (GX cy ad tk sp nm tp kp cu se ur ab lo im sy un en ra li i2) s.heap) : W p l e ({ frames := 0, cells := 0, slots := 0, locals := 0 } : Room) s m args below meth c s.heap [] 0 0 (MQ below (QP (some (.long q))) args s 0 0 (fun _ => False)) (F0 m 47 ls []) := by
  obtain ⟨hx, hb, hml, hown, hts, hr, hlk⟩ := id C
  unfold X1_numberAt_47 at h
  refine lv_lconst (v := (0 : Int64)) hx hb dX1_numberAt_47 (by decide) ?_
  exact bX1_numberAt_48 C hK hN @hk5 h (lv_sub hl [0, 1, 2, 3, 4] rfl) hP
def X1_numberAt_5b (tp : Ttp)  (k5 : Int32 → Int32 → Int64 → Int32 → Option (Int64))  (v1 : Int32) (v2 : Int32) (v3 : Int64) (v5 : Int32) : Option (Int64) := (if v5 < v2 then (if (v1 + v5) < 0 then X1_numberAt_47 tp k5 v1 v2 v3 v5 else (if (v1 + v5) < (8000 : Int32) then (if inb (v1 + v5) 8000 = true then X1_numberAt_48 tp k5 v1 v2 v3 v5 ((((tp ((v1 + v5)).toNatClampNeg) &&& (255 : Int32))).toInt64) else none) else X1_numberAt_47 tp k5 v1 v2 v3 v5)) else some v3)
def X1_numberAt_5 (tp : Ttp)  (n : Nat) (st : Int32 × Int32 × Int64 × Int32) : Option (Int64) := lp (fun rec st => X1_numberAt_5b tp  (fun a0 a1 a2 a3 => rec (a0, a1, a2, a3)) st.1 st.2.1 st.2.2.1 st.2.2.2) n st
set_option maxRecDepth 20000 in
theorem bX1_numberAt_5 (C : Cx p s m args meth c cX1_numberAt 9 (some .long) RX1 (.code yX1_numberAt cX1_numberAt 9 (some .long))) (hK : va_K D vwCl (tysX cy) s) (hN : NW s)  {q : Int64}  : ∀ (n : Nat)  {v1 : Int32} {v2 : Int32} {v3 : Int64} {v5 : Int32}, X1_numberAt_5 tp  n (v1, v2, v3, v5) = some q → ∀ {ls : Array Slot}, lv_has ls 9 [(0, .ref (ad 3)), (1, .int v1), (2, .int v2), (3, .long v3), (5, .int v5)] → va_P D vwCl (GX cy ad tk sp nm tp kp cu se ur ab lo im sy un en ra li i2) s.heap → W p l e ({ frames := 0, cells := 0, slots := 0, locals := 0 } : Room) s m args below meth c s.heap [] 0 0 (MQ below (QP (some (.long q))) args s 0 0 (fun _ => False)) (F0 m 5 ls []) := by
  obtain ⟨hx, hb, hml, hown, hts, hr, hlk⟩ := id C
  intro n
  induction n with
  | zero =>
    intro v1 v2 v3 v5 h ls hl hP
    have h : (none : Option (Int64)) = some q := h
    cases h
  | succ n ih =>
    intro v1 v2 v3 v5 h ls hl hP
    have h : X1_numberAt_5b tp  (fun a0 a1 a2 a3 => X1_numberAt_5 tp  n (a0, a1, a2, a3)) v1 v2 v3 v5 = some q := h
    unfold X1_numberAt_5b at h
    refine lv_iload hx hb dX1_numberAt_5 (lv_at hl 4 rfl) ?_
    refine lv_iload_n hx hb dX1_numberAt_7 rfl (lv_at hl 2 rfl) ?_
    refine b_icmp_ge (tgt := 67) hx hb dX1_numberAt_8 (by decide) (fun c1 => ?_) (fun c1 => ?_)
    · rw [if_neg c1] at h
      refine lv_lload_n hx hb dX1_numberAt_67 rfl (lv_at hl 3 rfl) ?_
      obtain rfl := Option.some.inj h
      exact W.lret hx hb hr (fun t ht _ => ⟨rfl, ht⟩) (fun _ h9 => by cases h9) dX1_numberAt_68 hlk
    · rw [if_pos c1] at h
      refine lv_iload_n hx hb dX1_numberAt_11 rfl (lv_at hl 1 rfl) ?_
      refine lv_iload hx hb dX1_numberAt_12 (lv_at hl 4 rfl) ?_
      refine lv_iadd hx hb dX1_numberAt_14 ?_
      refine lv_istore (lv' := [(6, .int (v1 + v5)), (0, .ref (ad 3)), (1, .int v1), (2, .int v2), (3, .long v3), (5, .int v5)]) hx hb dX1_numberAt_15 hl (by decide) rfl (fun ls hl => ?_)
      refine lv_iload hx hb dX1_numberAt_17 (lv_at hl 0 rfl) ?_
      refine lv_if_lt (tgt := 47) hx hb dX1_numberAt_19 (by decide) (fun c2 => ?_) (fun c2 => ?_)
      · rw [if_pos c2] at h
        exact bX1_numberAt_47 C hK hN @ih h (lv_sub hl [1, 2, 3, 4, 5] rfl) hP
      · rw [if_neg c2] at h
        refine lv_iload hx hb dX1_numberAt_22 (lv_at hl 0 rfl) ?_
        refine lv_aload_n hx hb dX1_numberAt_24 rfl (lv_at hl 1 rfl) ?_
        refine gX3_0 C hK hP w129 dX1_numberAt_25 ?_
        refine lX1 C hK hP dX1_numberAt_28 ?_
        refine b_icmp_ge (tgt := 47) hx hb dX1_numberAt_29 (by decide) (fun c3 => ?_) (fun c3 => ?_)
        · rw [if_neg c3] at h
          exact bX1_numberAt_47 C hK hN @ih h (lv_sub hl [1, 2, 3, 4, 5] rfl) hP
        · rw [if_pos c3] at h
          refine lv_aload_n hx hb dX1_numberAt_32 rfl (lv_at hl 1 rfl) ?_
          refine gX3_0 C hK hP w129 dX1_numberAt_33 ?_
          refine lv_iload hx hb dX1_numberAt_36 (lv_at hl 0 rfl) ?_
          obtain ⟨n4, h⟩ := grd h
          refine aX1 (f := tp) C hK hP rfl n4 dX1_numberAt_38 ?_
          refine lv_sipush (v := (255 : Int32)) hx hb dX1_numberAt_39 (by decide) ?_
          refine lv_iand hx hb dX1_numberAt_42 ?_
          refine lv_i2l (v := ((((tp ((v1 + v5)).toNatClampNeg) &&& (255 : Int32))).toInt64)) hx hb dX1_numberAt_43 rfl ?_
          refine lv_goto (tgt := 48) hx hb dX1_numberAt_44 (by decide) ?_
          exact bX1_numberAt_48 C hK hN @ih h (lv_sub hl [1, 2, 3, 4, 5] rfl) hP
def X1_numberAt (tp : Ttp) (v1 : Int32) (v2 : Int32) : Option (Int64) := X1_numberAt_5 tp FU (v1, v2, (0 : Int64), (0 : Int32))
set_option maxRecDepth 20000 in
theorem bX1_numberAt_0 (C : Cx p s m args meth c cX1_numberAt 9 (some .long) RX1 (.code yX1_numberAt cX1_numberAt 9 (some .long))) (hK : va_K D vwCl (tysX cy) s) (hN : NW s)  {q : Int64}  {v1 : Int32} {v2 : Int32} (h : X1_numberAt tp v1 v2 = some q) {ls : Array Slot} (hl : lv_has ls 9 [(0, .ref (ad 3)), (1, .int v1), (2, .int v2)]) (hP : va_P D vwCl (GX cy ad tk sp nm tp kp cu se ur ab lo im sy un en ra li i2) s.heap) : W p l e ({ frames := 0, cells := 0, slots := 0, locals := 0 } : Room) s m args below meth c s.heap [] 0 0 (MQ below (QP (some (.long q))) args s 0 0 (fun _ => False)) (F0 m 0 ls []) := by
  obtain ⟨hx, hb, hml, hown, hts, hr, hlk⟩ := id C
  unfold X1_numberAt at h
  refine lv_lconst (v := (0 : Int64)) hx hb dX1_numberAt_0 (by decide) ?_
  refine lv_lstore_n (lv' := [(3, .long (0 : Int64)), (0, .ref (ad 3)), (1, .int v1), (2, .int v2)]) hx hb dX1_numberAt_1 rfl hl (by decide) rfl (fun ls hl => ?_)
  refine lv_iconst (v := (0 : Int32)) hx hb dX1_numberAt_2 (by decide) ?_
  refine lv_istore (lv' := [(5, .int (0 : Int32)), (3, .long (0 : Int64)), (0, .ref (ad 3)), (1, .int v1), (2, .int v2)]) hx hb dX1_numberAt_3 hl (by decide) rfl (fun ls hl => ?_)
  exact bX1_numberAt_5 C hK hN FU h (lv_sub hl [2, 3, 4, 1, 0] rfl) hP
theorem kX1_numberAt  {v1 : Int32} {v2 : Int32} {q : Int64} (h : X1_numberAt tp v1 v2 = some q) : Met l yX1_numberAt (.code yX1_numberAt cX1_numberAt 9 (some .long) :: WA) ({ frames := 0, cells := 0, slots := 0, locals := 0 } : Room) (va_Pc [.ref (ad 3), .int v1, .int v2] (PR D cy (GX cy ad tk sp nm tp kp cu se ur ab lo im sy un en ra li i2))) (QP (some (.long q))) 0 0 (fun _ => False) :=
  met_of (by decide) (Nat.le_of_ble_eq_true rfl) (fun p e s m below meth c ls C hP hK hN hl => bX1_numberAt_0 C hK hN h hl hP)
def X1_number (tp : Ttp) (cu : Tcu) (v1 : Int32) : Option (Int64 × Tcu) := (if (X1_sound cu) = 0 then some ((0 : Int64), cu) else (if (X1_hasLeft cu ((v1).toInt64)) = 0 then (letq (X1_refuse cu (1 : Int32) cu.2.1) fun q5 => some ((0 : Int64), q5)) else ((X1_numberAt tp cu.2.1 v1).bind fun q3 => some (q3, (cu.1, (cu.2.1 + v1), cu.2.2.1, cu.2.2.2.1, cu.2.2.2.2)))))
set_option maxRecDepth 20000 in
theorem bX1_number_0 (C : Cx p s m args meth c cX1_number 4 (some .long) RX1 (.code yX1_number cX1_number 4 (some .long))) (hI : Apart ad 89) (hK : va_K D vwCl (tysX cy) s) (hN : NW s)  {q : Int64 × Tcu}  {v1 : Int32} (h : X1_number tp cu v1 = some q) {ls : Array Slot} (hl : lv_has ls 4 [(0, .ref (ad 3)), (1, .int v1)]) {H : Heap} {locs : List Loc} (hP : va_P D vwCl (GX cy ad tk sp nm tp kp cu se ur ab lo im sy un en ra li i2) H) (hS : va_S (Ac ad 89) s.heap H locs) : W p l e ({ frames := 1, cells := 0, slots := 0, locals := 28 } : Room) s m args below meth c H locs 0 0 (MQ below (QR (some (.long q.1)) D (GX cy ad tk sp nm tp kp q.2 se ur ab lo im sy un en ra li i2) (Ac ad 89)) args s 0 0 (Ac ad 89)) (F0 m 0 ls []) := by
  obtain ⟨hx, hb, hml, hown, hts, hr, hlk⟩ := id C
  unfold X1_number at h
  refine lv_aload_n hx hb dX1_number_0 rfl (lv_at hl 0 rfl) ?_
  refine cPi (run_V (rest := []) C (kX1_sound rfl) caX1_sound w721 ⟨rfl, rfl, Nat.le_of_ble_eq_true rfl, Nat.le_of_ble_eq_true rfl⟩ hK hN hP (rX3 hK hP) rfl hl.1 rfl (Nat.le_of_ble_eq_true rfl) dX1_number_1 ⟨Nat.zero_le _, Nat.zero_le _⟩) ?_
  refine lv_if_ne (tgt := 9) hx hb dX1_number_4 (by decide) (fun c1 => ?_) (fun c1 => ?_)
  · rw [if_neg c1] at h
    refine lv_aload_n hx hb dX1_number_9 rfl (lv_at hl 0 rfl) ?_
    refine lv_iload_n hx hb dX1_number_10 rfl (lv_at hl 1 rfl) ?_
    refine lv_i2l (v := ((v1).toInt64)) hx hb dX1_number_11 rfl ?_
    refine cPi (run_V (rest := []) C (kX1_hasLeft rfl) caX1_hasLeft w722 ⟨rfl, rfl, Nat.le_of_ble_eq_true rfl, Nat.le_of_ble_eq_true rfl⟩ hK hN hP (rX3 hK hP) rfl hl.1 rfl (Nat.le_of_ble_eq_true rfl) dX1_number_12 ⟨Nat.zero_le _, Nat.zero_le _⟩) ?_
    refine lv_if_ne (tgt := 29) hx hb dX1_number_15 (by decide) (fun c2 => ?_) (fun c2 => ?_)
    · rw [if_neg c2] at h
      refine lv_aload_n hx hb dX1_number_29 rfl (lv_at hl 0 rfl) ?_
      refine lv_aload_n hx hb dX1_number_30 rfl (lv_at hl 0 rfl) ?_
      refine gX3_2 (v := cu.2.1) C hK hP rfl w131 dX1_number_31 ?_
      refine lv_iload_n hx hb dX1_number_34 rfl (lv_at hl 1 rfl) ?_
      obtain ⟨q3, h4, h⟩ := bnd h
      refine cPl (run_V (rest := []) C (kX1_numberAt h4) caX1_numberAt w726 ⟨rfl, rfl, Nat.le_of_ble_eq_true rfl, Nat.le_of_ble_eq_true rfl⟩ hK hN hP (rX3 hK hP) rfl hl.1 rfl (Nat.le_of_ble_eq_true rfl) dX1_number_35 ⟨Nat.zero_le _, Nat.zero_le _⟩) ?_
      refine lv_lstore_n (lv' := [(2, .long q3), (0, .ref (ad 3)), (1, .int v1)]) hx hb dX1_number_38 rfl hl (by decide) rfl (fun ls hl => ?_)
      refine lv_aload_n hx hb dX1_number_39 rfl (lv_at hl 1 rfl) ?_
      refine lv_dup hx hb dX1_number_40 rfl ?_
      refine gX3_2 (v := cu.2.1) C hK hP rfl w131 dX1_number_41 ?_
      refine lv_iload_n hx hb dX1_number_44 rfl (lv_at hl 2 rfl) ?_
      refine lv_iadd hx hb dX1_number_45 ?_
      refine pX3_2 (v := (cu.2.1 + v1)) C hI hK hP hS w131 dX1_number_46 (fun H locs hP hS => ?_)
      have hP : va_P D vwCl (GX cy ad tk sp nm tp kp (cu.1, (cu.2.1 + v1), cu.2.2.1, cu.2.2.2.1, cu.2.2.2.2) se ur ab lo im sy un en ra li i2) H := hP
      refine lv_lload_n hx hb dX1_number_49 rfl (lv_at hl 0 rfl) ?_
      obtain rfl := Option.some.inj h
      exact W.lret hx hb hr (fun t ht _ => ⟨rfl, by rw [ht]; exact hP, hS.F ht⟩) hS.2.2 dX1_number_50 hlk
    · rw [if_pos c2] at h
      refine lv_aload_n hx hb dX1_number_18 rfl (lv_at hl 0 rfl) ?_
      refine lv_iconst (v := (1 : Int32)) hx hb dX1_number_19 (by decide) ?_
      refine lv_aload_n hx hb dX1_number_20 rfl (lv_at hl 0 rfl) ?_
      refine gX3_2 (v := cu.2.1) C hK hP rfl w131 dX1_number_21 ?_
      obtain ⟨q5, h6, h⟩ := lets h
      refine cRv (run_V (rest := []) C (kX1_refuse hI h6) caX1_refuse w596 ⟨rfl, rfl, Nat.le_of_ble_eq_true rfl, Nat.le_of_ble_eq_true rfl⟩ hK hN hP (rX3 hK hP) rfl hl.1 rfl (Nat.le_of_ble_eq_true rfl) dX1_number_24 ⟨Nat.zero_le _, Nat.zero_le _⟩) hS (fun H locs hP hS => ?_)
      have hP : va_P D vwCl (GX cy ad tk sp nm tp kp q5 se ur ab lo im sy un en ra li i2) H := hP
      refine lv_lconst (v := (0 : Int64)) hx hb dX1_number_27 (by decide) ?_
      obtain rfl := Option.some.inj h
      exact W.lret hx hb hr (fun t ht _ => ⟨rfl, by rw [ht]; exact hP, hS.F ht⟩) hS.2.2 dX1_number_28 hlk
  · rw [if_pos c1] at h
    refine lv_lconst (v := (0 : Int64)) hx hb dX1_number_7 (by decide) ?_
    obtain rfl := Option.some.inj h
    exact W.lret hx hb hr (fun t ht _ => ⟨rfl, by rw [ht]; exact hP, hS.F ht⟩) hS.2.2 dX1_number_8 hlk
theorem kX1_number (hI : Apart ad 89) {v1 : Int32} {q : Int64 × Tcu} (h : X1_number tp cu v1 = some q) : Met l yX1_number (.code yX1_number cX1_number 4 (some .long) :: WA) ({ frames := 1, cells := 0, slots := 0, locals := 28 } : Room) (va_Pc [.ref (ad 3), .int v1] (PR D cy (GX cy ad tk sp nm tp kp cu se ur ab lo im sy un en ra li i2))) (QR (some (.long q.1)) D (GX cy ad tk sp nm tp kp q.2 se ur ab lo im sy un en ra li i2) (Ac ad 89)) 0 0 (Ac ad 89) :=
  met_of (by decide) (Nat.le_of_ble_eq_true rfl) (fun p e s m below meth c ls C hP hK hN hl => bX1_number_0 C hI hK hN h hl hP va_S.rf)
def X1_numberBetween_29 (tp : Ttp)  (cu : Tcu) (v2 : Int32) (v4 : Int32) : Option (Int32 × Tcu) := (letq (X1_refuse cu (2 : Int32) v4) fun q1 => some (v2, q1))
set_option maxRecDepth 20000 in
theorem bX1_numberBetween_29 (C : Cx p s m args meth c cX1_numberBetween 7 (some .int) RX1 (.code yX1_numberBetween cX1_numberBetween 7 (some .int))) (hI : Apart ad 89) (hK : va_K D vwCl (tysX cy) s) (hN : NW s)  {q : Int32 × Tcu}  {v2 : Int32} {v4 : Int32} (h : X1_numberBetween_29 tp cu v2 v4 = some q) {ls : Array Slot} (hl : lv_has ls 7 [(0, .ref (ad 3)), (2, .int v2), (4, .int v4)]) {H : Heap} {locs : List Loc} (hP : va_P D vwCl (GX cy ad tk sp nm tp kp cu se ur ab lo im sy un en ra li i2) H) (hS : va_S (Ac ad 89) s.heap H locs) : W p l e ({ frames := 2, cells := 0, slots := 0, locals := 51 } : Room) s m args below meth c H locs 0 0 (MQ below (QR (some (.int q.1)) D (GX cy ad tk sp nm tp kp q.2 se ur ab lo im sy un en ra li i2) (Ac ad 89)) args s 0 0 (Ac ad 89)) (F0 m 29 ls []) := by
  obtain ⟨hx, hb, hml, hown, hts, hr, hlk⟩ := id C
  unfold X1_numberBetween_29 at h
  refine lv_aload_n hx hb dX1_numberBetween_29 rfl (lv_at hl 0 rfl) ?_
  refine lv_iconst (v := (2 : Int32)) hx hb dX1_numberBetween_30 (by decide) ?_
  refine lv_iload hx hb dX1_numberBetween_31 (lv_at hl 2 rfl) ?_
  obtain ⟨q1, h2, h⟩ := lets h
  refine cRv (run_V (rest := []) C (kX1_refuse hI h2) caX1_refuse w596 ⟨rfl, rfl, Nat.le_of_ble_eq_true rfl, Nat.le_of_ble_eq_true rfl⟩ hK hN hP (rX3 hK hP) rfl hl.1 rfl (Nat.le_of_ble_eq_true rfl) dX1_numberBetween_33 ⟨Nat.zero_le _, Nat.zero_le _⟩) hS (fun H locs hP hS => ?_)
  have hP : va_P D vwCl (GX cy ad tk sp nm tp kp q1 se ur ab lo im sy un en ra li i2) H := hP
  refine lv_iload_n hx hb dX1_numberBetween_36 rfl (lv_at hl 1 rfl) ?_
  obtain rfl := Option.some.inj h
  exact W.iret hx hb hr (fun t ht _ => ⟨rfl, by rw [ht]; exact hP, hS.F ht⟩) hS.2.2 dX1_numberBetween_37 hlk
def X1_numberBetween (tp : Ttp) (cu : Tcu) (v1 : Int32) (v2 : Int32) (v3 : Int32) : Option (Int32 × Tcu) := ((X1_number tp cu v1).bind fun q1 => (if q1.1 < ((v2).toInt64) then X1_numberBetween_29 tp q1.2 v2 cu.2.1 else (if ((v3).toInt64) < q1.1 then X1_numberBetween_29 tp q1.2 v2 cu.2.1 else some (((q1.1).toInt32), q1.2))))
set_option maxRecDepth 20000 in
theorem bX1_numberBetween_0 (C : Cx p s m args meth c cX1_numberBetween 7 (some .int) RX1 (.code yX1_numberBetween cX1_numberBetween 7 (some .int))) (hI : Apart ad 89) (hK : va_K D vwCl (tysX cy) s) (hN : NW s)  {q : Int32 × Tcu}  {v1 : Int32} {v2 : Int32} {v3 : Int32} (h : X1_numberBetween tp cu v1 v2 v3 = some q) {ls : Array Slot} (hl : lv_has ls 7 [(0, .ref (ad 3)), (1, .int v1), (2, .int v2), (3, .int v3)]) {H : Heap} {locs : List Loc} (hP : va_P D vwCl (GX cy ad tk sp nm tp kp cu se ur ab lo im sy un en ra li i2) H) (hS : va_S (Ac ad 89) s.heap H locs) : W p l e ({ frames := 2, cells := 0, slots := 0, locals := 51 } : Room) s m args below meth c H locs 0 0 (MQ below (QR (some (.int q.1)) D (GX cy ad tk sp nm tp kp q.2 se ur ab lo im sy un en ra li i2) (Ac ad 89)) args s 0 0 (Ac ad 89)) (F0 m 0 ls []) := by
  obtain ⟨hx, hb, hml, hown, hts, hr, hlk⟩ := id C
  unfold X1_numberBetween at h
  refine lv_aload_n hx hb dX1_numberBetween_0 rfl (lv_at hl 0 rfl) ?_
  refine gX3_2 (v := cu.2.1) C hK hP rfl w131 dX1_numberBetween_1 ?_
  refine lv_istore (lv' := [(4, .int cu.2.1), (0, .ref (ad 3)), (1, .int v1), (2, .int v2), (3, .int v3)]) hx hb dX1_numberBetween_4 hl (by decide) rfl (fun ls hl => ?_)
  refine lv_aload_n hx hb dX1_numberBetween_6 rfl (lv_at hl 1 rfl) ?_
  refine lv_iload_n hx hb dX1_numberBetween_7 rfl (lv_at hl 2 rfl) ?_
  obtain ⟨q1, h2, h⟩ := bnd h
  refine cRl (run_V (rest := []) C (kX1_number hI h2) caX1_number w717 ⟨rfl, rfl, Nat.le_of_ble_eq_true rfl, Nat.le_of_ble_eq_true rfl⟩ hK hN hP (rX3 hK hP) rfl hl.1 rfl (Nat.le_of_ble_eq_true rfl) dX1_numberBetween_8 ⟨Nat.zero_le _, Nat.zero_le _⟩) hS (fun H locs hP hS => ?_)
  have hP : va_P D vwCl (GX cy ad tk sp nm tp kp q1.2 se ur ab lo im sy un en ra li i2) H := hP
  refine lv_lstore (lv' := [(5, .long q1.1), (4, .int cu.2.1), (0, .ref (ad 3)), (1, .int v1), (2, .int v2), (3, .int v3)]) hx hb dX1_numberBetween_11 hl (by decide) rfl (fun ls hl => ?_)
  refine lv_lload hx hb dX1_numberBetween_13 (lv_at hl 0 rfl) ?_
  refine lv_iload_n hx hb dX1_numberBetween_15 rfl (lv_at hl 4 rfl) ?_
  refine lv_i2l (v := ((v2).toInt64)) hx hb dX1_numberBetween_16 rfl ?_
  refine lc_lt (tgt := 29) hx hb dX1_numberBetween_17 dX1_numberBetween_18 (by decide) (fun c3 => ?_) (fun c3 => ?_)
  · rw [if_pos c3] at h
    exact bX1_numberBetween_29 C hI hK hN h (lv_sub hl [2, 4, 1] rfl) hP hS
  · rw [if_neg c3] at h
    refine lv_lload hx hb dX1_numberBetween_21 (lv_at hl 0 rfl) ?_
    refine lv_iload_n hx hb dX1_numberBetween_23 rfl (lv_at hl 5 rfl) ?_
    refine lv_i2l (v := ((v3).toInt64)) hx hb dX1_numberBetween_24 rfl ?_
    refine lc_le (tgt := 38) hx hb dX1_numberBetween_25 dX1_numberBetween_26 (by decide) (fun c4 => ?_) (fun c4 => ?_)
    · rw [if_neg c4] at h
      refine lv_lload hx hb dX1_numberBetween_38 (lv_at hl 0 rfl) ?_
      refine lv_l2i (v := ((q1.1).toInt32)) hx hb dX1_numberBetween_40 rfl ?_
      obtain rfl := Option.some.inj h
      exact W.iret hx hb hr (fun t ht _ => ⟨rfl, by rw [ht]; exact hP, hS.F ht⟩) hS.2.2 dX1_numberBetween_41 hlk
    · rw [if_pos c4] at h
      exact bX1_numberBetween_29 C hI hK hN h (lv_sub hl [2, 4, 1] rfl) hP hS
theorem kX1_numberBetween (hI : Apart ad 89) {v1 : Int32} {v2 : Int32} {v3 : Int32} {q : Int32 × Tcu} (h : X1_numberBetween tp cu v1 v2 v3 = some q) : Met l yX1_numberBetween (.code yX1_numberBetween cX1_numberBetween 7 (some .int) :: WA) ({ frames := 2, cells := 0, slots := 0, locals := 51 } : Room) (va_Pc [.ref (ad 3), .int v1, .int v2, .int v3] (PR D cy (GX cy ad tk sp nm tp kp cu se ur ab lo im sy un en ra li i2))) (QR (some (.int q.1)) D (GX cy ad tk sp nm tp kp q.2 se ur ab lo im sy un en ra li i2) (Ac ad 89)) 0 0 (Ac ad 89) :=
  met_of (by decide) (Nat.le_of_ble_eq_true rfl) (fun p e s m below meth c ls C hP hK hN hl => bX1_numberBetween_0 C hI hK hN h hl hP va_S.rf)
def X0_readCode_152 (tp : Ttp)  (cu : Tcu) (ab : Tab)  : Option (Int32 × Tcu × Tab) := some ((1 : Int32), cu, (ab.1, ab.2.1, ab.2.2.1, ab.2.2.2.1, ab.2.2.2.2.1, ab.2.2.2.2.2.1, ab.2.2.2.2.2.2.1, (ab.2.2.2.2.2.2.2 + (1 : Int32))))
set_option maxRecDepth 20000 in
theorem bX0_readCode_152 (C : Cx p s m args meth c cX0_readCode 7 (some .boolean) RX0 (.code yX0_readCode cX0_readCode 7 (some .boolean))) (hI : Apart ad 89) (hK : va_K D vwCl (tysX cy) s) (hN : NW s)  {q : Int32 × Tcu × Tab}   (h : X0_readCode_152 tp cu ab = some q) {ls : Array Slot} (hl : lv_has ls 7 [(0, .ref (ad 11))]) {H : Heap} {locs : List Loc} (hP : va_P D vwCl (GX cy ad tk sp nm tp kp cu se ur ab lo im sy un en ra li i2) H) (hS : va_S (Ac ad 89) s.heap H locs) : W p l e ({ frames := 4, cells := 0, slots := 0, locals := 99 } : Room) s m args below meth c H locs 0 0 (MQ below (QR (some (.int q.1)) D (GX cy ad tk sp nm tp kp q.2.1 se ur q.2.2 lo im sy un en ra li i2) (Ac ad 89)) args s 0 0 (Ac ad 89)) (F0 m 152 ls []) := by
  obtain ⟨hx, hb, hml, hown, hts, hr, hlk⟩ := id C
  unfold X0_readCode_152 at h
  refine lv_aload_n hx hb dX0_readCode_152 rfl (lv_at hl 0 rfl) ?_
  refine lv_dup hx hb dX0_readCode_153 rfl ?_
  refine gX11_7 (v := ab.2.2.2.2.2.2.2) C hK hP rfl w194 dX0_readCode_154 ?_
  refine lv_iconst (v := (1 : Int32)) hx hb dX0_readCode_157 (by decide) ?_
  refine lv_iadd hx hb dX0_readCode_158 ?_
  refine pX11_7 (v := (ab.2.2.2.2.2.2.2 + (1 : Int32))) C hI hK hP hS w194 dX0_readCode_159 (fun H locs hP hS => ?_)
  have hP : va_P D vwCl (GX cy ad tk sp nm tp kp cu se ur (ab.1, ab.2.1, ab.2.2.1, ab.2.2.2.1, ab.2.2.2.2.1, ab.2.2.2.2.2.1, ab.2.2.2.2.2.2.1, (ab.2.2.2.2.2.2.2 + (1 : Int32))) lo im sy un en ra li i2) H := hP
  refine lv_iconst (v := (1 : Int32)) hx hb dX0_readCode_162 (by decide) ?_
  obtain rfl := Option.some.inj h
  exact W.zret (ty := .boolean) hx hb hr (by decide) (fun t ht _ => ⟨rfl, by rw [ht]; exact hP, hS.F ht⟩) hS.2.2 dX0_readCode_163 hlk
def X0_readCode_120b (tp : Ttp)  (k120 : Tcu → Tab → Int32 → Int32 → Option (Int32 × Tcu × Tab)) (cu : Tcu) (ab : Tab) (v5 : Int32) (v6 : Int32) : Option (Int32 × Tcu × Tab) := (if (16 : Int32) < v6 then X0_readCode_152 tp cu ab else (if v5 = 0 then X0_readCode_152 tp cu ab else (if (X1_sound cu) = 0 then X0_readCode_152 tp cu ab else ((X0_readPair tp cu ab).bind fun q4 => k120 q4.2.1 q4.2.2 q4.1 (v6 + (1 : Int32))))))
def X0_readCode_120 (tp : Ttp)  (n : Nat) (st : Tcu × Tab × Int32 × Int32) : Option (Int32 × Tcu × Tab) := lp (fun rec st => X0_readCode_120b tp  (fun a0 a1 a2 a3 => rec (a0, a1, a2, a3)) st.1 st.2.1 st.2.2.1 st.2.2.2) n st
set_option maxRecDepth 20000 in
theorem bX0_readCode_120 (C : Cx p s m args meth c cX0_readCode 7 (some .boolean) RX0 (.code yX0_readCode cX0_readCode 7 (some .boolean))) (hI : Apart ad 89) (hK : va_K D vwCl (tysX cy) s) (hN : NW s)  {q : Int32 × Tcu × Tab}  : ∀ (n : Nat) {cu : Tcu} {ab : Tab} {v5 : Int32} {v6 : Int32}, X0_readCode_120 tp  n (cu, ab, v5, v6) = some q → ∀ {ls : Array Slot}, lv_has ls 7 [(0, .ref (ad 11)), (1, .ref (ad 3)), (5, .int v5), (6, .int v6)] → ∀ {H : Heap} {locs : List Loc}, va_P D vwCl (GX cy ad tk sp nm tp kp cu se ur ab lo im sy un en ra li i2) H → va_S (Ac ad 89) s.heap H locs → W p l e ({ frames := 4, cells := 0, slots := 0, locals := 99 } : Room) s m args below meth c H locs 0 0 (MQ below (QR (some (.int q.1)) D (GX cy ad tk sp nm tp kp q.2.1 se ur q.2.2 lo im sy un en ra li i2) (Ac ad 89)) args s 0 0 (Ac ad 89)) (F0 m 120 ls []) := by
  obtain ⟨hx, hb, hml, hown, hts, hr, hlk⟩ := id C
  intro n
  induction n with
  | zero =>
    intro cu ab v5 v6 h ls hl H locs hP hS
    have h : (none : Option (Int32 × Tcu × Tab)) = some q := h
    cases h
  | succ n ih =>
    intro cu ab v5 v6 h ls hl H locs hP hS
    have h : X0_readCode_120b tp  (fun a0 a1 a2 a3 => X0_readCode_120 tp  n (a0, a1, a2, a3)) cu ab v5 v6 = some q := h
    unfold X0_readCode_120b at h
    refine lv_iload hx hb dX0_readCode_120 (lv_at hl 3 rfl) ?_
    refine lv_bipush (v := (16 : Int32)) hx hb dX0_readCode_122 (by decide) ?_
    refine lv_icmp_gt (tgt := 152) hx hb dX0_readCode_124 (by decide) (fun c1 => ?_) (fun c1 => ?_)
    · rw [if_pos c1] at h
      exact bX0_readCode_152 C hI hK hN h (lv_sub hl [0] rfl) hP hS
    · rw [if_neg c1] at h
      refine lv_iload hx hb dX0_readCode_127 (lv_at hl 2 rfl) ?_
      refine lv_if_eq (tgt := 152) hx hb dX0_readCode_129 (by decide) (fun c2 => ?_) (fun c2 => ?_)
      · rw [if_pos c2] at h
        exact bX0_readCode_152 C hI hK hN h (lv_sub hl [0] rfl) hP hS
      · rw [if_neg c2] at h
        refine lv_aload_n hx hb dX0_readCode_132 rfl (lv_at hl 1 rfl) ?_
        refine cPi (run_V (rest := []) C (kX1_sound rfl) caX1_sound w765 ⟨rfl, rfl, Nat.le_of_ble_eq_true rfl, Nat.le_of_ble_eq_true rfl⟩ hK hN hP (rX3 hK hP) rfl hl.1 rfl (Nat.le_of_ble_eq_true rfl) dX0_readCode_133 ⟨Nat.zero_le _, Nat.zero_le _⟩) ?_
        refine lv_if_eq (tgt := 152) hx hb dX0_readCode_136 (by decide) (fun c3 => ?_) (fun c3 => ?_)
        · rw [if_pos c3] at h
          exact bX0_readCode_152 C hI hK hN h (lv_sub hl [0] rfl) hP hS
        · rw [if_neg c3] at h
          refine lv_aload_n hx hb dX0_readCode_139 rfl (lv_at hl 0 rfl) ?_
          refine lv_aload_n hx hb dX0_readCode_140 rfl (lv_at hl 1 rfl) ?_
          obtain ⟨q4, h5, h⟩ := bnd h
          refine cRi (run_V (rest := []) C (kX0_readPair hI h5) caX0_readPair w787 ⟨rfl, rfl, Nat.le_of_ble_eq_true rfl, Nat.le_of_ble_eq_true rfl⟩ hK hN hP (rX11 hK hP) rfl hl.1 rfl (Nat.le_of_ble_eq_true rfl) dX0_readCode_141 ⟨Nat.zero_le _, Nat.zero_le _⟩) hS (fun H locs hP hS => ?_)
          have hP : va_P D vwCl (GX cy ad tk sp nm tp kp q4.2.1 se ur q4.2.2 lo im sy un en ra li i2) H := hP
          refine lv_istore (lv' := [(5, .int q4.1), (0, .ref (ad 11)), (1, .ref (ad 3)), (6, .int v6)]) hx hb dX0_readCode_144 hl (by decide) rfl (fun ls hl => ?_)
          refine lv_iinc (v := (v6 + (1 : Int32))) (lv' := [(6, .int (v6 + (1 : Int32))), (5, .int q4.1), (0, .ref (ad 11)), (1, .ref (ad 3))]) hx hb dX0_readCode_146 hl (k := 3) rfl rfl (by decide) rfl (fun ls hl => ?_)
          refine lv_goto (tgt := 120) hx hb dX0_readCode_149 (by decide) ?_
          exact ih h (lv_sub hl [2, 3, 1, 0] rfl) hP hS
def X0_readCode_48 (tp : Ttp)  (cu : Tcu) (ab : Tab) (v3 : Int64) : Option (Int32 × Tcu × Tab) := (if (X1_sound cu) = 0 then some ((0 : Int32), cu, ab) else ((X1_uleb tp cu).bind fun q2 => ((X1_numberBetween tp q2.2 (1 : Int32) (0 : Int32) (1 : Int32)).bind fun q4 => X0_readCode_120 tp FU (q4.2, ((put_l 40 ab.1 ab.2.2.2.2.2.2.2 v3), (put_l 40 ab.2.1 ab.2.2.2.2.2.2.2 q2.1), (put_i 40 ab.2.2.1 ab.2.2.2.2.2.2.2 q4.1), (put_i 40 ab.2.2.2.1 ab.2.2.2.2.2.2.2 (0 : Int32)), ab.2.2.2.2.1, ab.2.2.2.2.2.1, ab.2.2.2.2.2.2.1, ab.2.2.2.2.2.2.2), (1 : Int32), (0 : Int32)))))
set_option maxRecDepth 20000 in
theorem bX0_readCode_48 (C : Cx p s m args meth c cX0_readCode 7 (some .boolean) RX0 (.code yX0_readCode cX0_readCode 7 (some .boolean))) (hI : Apart ad 89) (hK : va_K D vwCl (tysX cy) s) (hN : NW s)  {q : Int32 × Tcu × Tab}  {v3 : Int64} (h : X0_readCode_48 tp cu ab v3 = some q) {ls : Array Slot} (hl : lv_has ls 7 [(0, .ref (ad 11)), (1, .ref (ad 3)), (3, .long v3)]) {H : Heap} {locs : List Loc} (hP : va_P D vwCl (GX cy ad tk sp nm tp kp cu se ur ab lo im sy un en ra li i2) H) (hS : va_S (Ac ad 89) s.heap H locs) : W p l e ({ frames := 4, cells := 0, slots := 0, locals := 99 } : Room) s m args below meth c H locs 0 0 (MQ below (QR (some (.int q.1)) D (GX cy ad tk sp nm tp kp q.2.1 se ur q.2.2 lo im sy un en ra li i2) (Ac ad 89)) args s 0 0 (Ac ad 89)) (F0 m 48 ls []) := by
  obtain ⟨hx, hb, hml, hown, hts, hr, hlk⟩ := id C
  unfold X0_readCode_48 at h
  refine lv_aload_n hx hb dX0_readCode_48 rfl (lv_at hl 1 rfl) ?_
  refine cPi (run_V (rest := []) C (kX1_sound rfl) caX1_sound w765 ⟨rfl, rfl, Nat.le_of_ble_eq_true rfl, Nat.le_of_ble_eq_true rfl⟩ hK hN hP (rX3 hK hP) rfl hl.1 rfl (Nat.le_of_ble_eq_true rfl) dX0_readCode_49 ⟨Nat.zero_le _, Nat.zero_le _⟩) ?_
  refine lv_if_ne (tgt := 57) hx hb dX0_readCode_52 (by decide) (fun c1 => ?_) (fun c1 => ?_)
  · rw [if_neg c1] at h
    refine lv_aload_n hx hb dX0_readCode_57 rfl (lv_at hl 0 rfl) ?_
    refine gX11_0 C hK hP w187 dX0_readCode_58 ?_
    refine lv_aload_n hx hb dX0_readCode_61 rfl (lv_at hl 0 rfl) ?_
    refine gX11_7 (v := ab.2.2.2.2.2.2.2) C hK hP rfl w194 dX0_readCode_62 ?_
    refine lv_lload_n hx hb dX0_readCode_65 rfl (lv_at hl 2 rfl) ?_
    refine xput_l (rest := []) C hK hN hP (GX_D hI) hS eX12 (Nat.le_of_ble_eq_true rfl) w784 hl.1 (Nat.le_of_ble_eq_true rfl) dX0_readCode_66 ⟨Nat.le_of_ble_eq_true rfl, Nat.le_of_ble_eq_true rfl⟩ ⟨Nat.zero_le _, Nat.zero_le _⟩ (fun H locs hP hS => ?_)
    have hP : va_P D vwCl (GX cy ad tk sp nm tp kp cu se ur ((put_l 40 ab.1 ab.2.2.2.2.2.2.2 v3), ab.2.1, ab.2.2.1, ab.2.2.2.1, ab.2.2.2.2.1, ab.2.2.2.2.2.1, ab.2.2.2.2.2.2.1, ab.2.2.2.2.2.2.2) lo im sy un en ra li i2) H := hP
    refine lv_aload_n hx hb dX0_readCode_69 rfl (lv_at hl 0 rfl) ?_
    refine gX11_1 C hK hP w188 dX0_readCode_70 ?_
    refine lv_aload_n hx hb dX0_readCode_73 rfl (lv_at hl 0 rfl) ?_
    refine gX11_7 (v := ab.2.2.2.2.2.2.2) C hK hP rfl w194 dX0_readCode_74 ?_
    refine lv_aload_n hx hb dX0_readCode_77 rfl (lv_at hl 1 rfl) ?_
    obtain ⟨q2, h3, h⟩ := bnd h
    refine cRl (run_V (rest := [.int ab.2.2.2.2.2.2.2, .ref (ad 13)]) C (kX1_uleb hI h3) caX1_uleb w771 ⟨rfl, rfl, Nat.le_of_ble_eq_true rfl, Nat.le_of_ble_eq_true rfl⟩ hK hN hP (rX3 hK hP) rfl hl.1 rfl (Nat.le_of_ble_eq_true rfl) dX0_readCode_78 ⟨Nat.zero_le _, Nat.zero_le _⟩) hS (fun H locs hP hS => ?_)
    have hP : va_P D vwCl (GX cy ad tk sp nm tp kp q2.2 se ur ((put_l 40 ab.1 ab.2.2.2.2.2.2.2 v3), ab.2.1, ab.2.2.1, ab.2.2.2.1, ab.2.2.2.2.1, ab.2.2.2.2.2.1, ab.2.2.2.2.2.2.1, ab.2.2.2.2.2.2.2) lo im sy un en ra li i2) H := hP
    refine xput_l (rest := []) C hK hN hP (GX_D hI) hS eX13 (Nat.le_of_ble_eq_true rfl) w784 hl.1 (Nat.le_of_ble_eq_true rfl) dX0_readCode_81 ⟨Nat.le_of_ble_eq_true rfl, Nat.le_of_ble_eq_true rfl⟩ ⟨Nat.zero_le _, Nat.zero_le _⟩ (fun H locs hP hS => ?_)
    have hP : va_P D vwCl (GX cy ad tk sp nm tp kp q2.2 se ur ((put_l 40 ab.1 ab.2.2.2.2.2.2.2 v3), (put_l 40 ab.2.1 ab.2.2.2.2.2.2.2 q2.1), ab.2.2.1, ab.2.2.2.1, ab.2.2.2.2.1, ab.2.2.2.2.2.1, ab.2.2.2.2.2.2.1, ab.2.2.2.2.2.2.2) lo im sy un en ra li i2) H := hP
    refine lv_aload_n hx hb dX0_readCode_84 rfl (lv_at hl 0 rfl) ?_
    refine gX11_2 C hK hP w189 dX0_readCode_85 ?_
    refine lv_aload_n hx hb dX0_readCode_88 rfl (lv_at hl 0 rfl) ?_
    refine gX11_7 (v := ab.2.2.2.2.2.2.2) C hK hP rfl w194 dX0_readCode_89 ?_
    refine lv_aload_n hx hb dX0_readCode_92 rfl (lv_at hl 1 rfl) ?_
    refine lv_iconst (v := (1 : Int32)) hx hb dX0_readCode_93 (by decide) ?_
    refine lv_iconst (v := (0 : Int32)) hx hb dX0_readCode_94 (by decide) ?_
    refine lv_iconst (v := (1 : Int32)) hx hb dX0_readCode_95 (by decide) ?_
    obtain ⟨q4, h5, h⟩ := bnd h
    refine cRi (run_V (rest := [.int ab.2.2.2.2.2.2.2, .ref (ad 14)]) C (kX1_numberBetween hI h5) caX1_numberBetween w785 ⟨rfl, rfl, Nat.le_of_ble_eq_true rfl, Nat.le_of_ble_eq_true rfl⟩ hK hN hP (rX3 hK hP) rfl hl.1 rfl (Nat.le_of_ble_eq_true rfl) dX0_readCode_96 ⟨Nat.zero_le _, Nat.zero_le _⟩) hS (fun H locs hP hS => ?_)
    have hP : va_P D vwCl (GX cy ad tk sp nm tp kp q4.2 se ur ((put_l 40 ab.1 ab.2.2.2.2.2.2.2 v3), (put_l 40 ab.2.1 ab.2.2.2.2.2.2.2 q2.1), ab.2.2.1, ab.2.2.2.1, ab.2.2.2.2.1, ab.2.2.2.2.2.1, ab.2.2.2.2.2.2.1, ab.2.2.2.2.2.2.2) lo im sy un en ra li i2) H := hP
    refine xput_i (rest := []) C hK hN hP (GX_D hI) hS eX14 (Nat.le_of_ble_eq_true rfl) w786 hl.1 (Nat.le_of_ble_eq_true rfl) dX0_readCode_99 ⟨Nat.le_of_ble_eq_true rfl, Nat.le_of_ble_eq_true rfl⟩ ⟨Nat.zero_le _, Nat.zero_le _⟩ (fun H locs hP hS => ?_)
    have hP : va_P D vwCl (GX cy ad tk sp nm tp kp q4.2 se ur ((put_l 40 ab.1 ab.2.2.2.2.2.2.2 v3), (put_l 40 ab.2.1 ab.2.2.2.2.2.2.2 q2.1), (put_i 40 ab.2.2.1 ab.2.2.2.2.2.2.2 q4.1), ab.2.2.2.1, ab.2.2.2.2.1, ab.2.2.2.2.2.1, ab.2.2.2.2.2.2.1, ab.2.2.2.2.2.2.2) lo im sy un en ra li i2) H := hP
    refine lv_aload_n hx hb dX0_readCode_102 rfl (lv_at hl 0 rfl) ?_
    refine gX11_3 C hK hP w190 dX0_readCode_103 ?_
    refine lv_aload_n hx hb dX0_readCode_106 rfl (lv_at hl 0 rfl) ?_
    refine gX11_7 (v := ab.2.2.2.2.2.2.2) C hK hP rfl w194 dX0_readCode_107 ?_
    refine lv_iconst (v := (0 : Int32)) hx hb dX0_readCode_110 (by decide) ?_
    refine xput_i (rest := []) C hK hN hP (GX_D hI) hS eX15 (Nat.le_of_ble_eq_true rfl) w786 hl.1 (Nat.le_of_ble_eq_true rfl) dX0_readCode_111 ⟨Nat.le_of_ble_eq_true rfl, Nat.le_of_ble_eq_true rfl⟩ ⟨Nat.zero_le _, Nat.zero_le _⟩ (fun H locs hP hS => ?_)
    have hP : va_P D vwCl (GX cy ad tk sp nm tp kp q4.2 se ur ((put_l 40 ab.1 ab.2.2.2.2.2.2.2 v3), (put_l 40 ab.2.1 ab.2.2.2.2.2.2.2 q2.1), (put_i 40 ab.2.2.1 ab.2.2.2.2.2.2.2 q4.1), (put_i 40 ab.2.2.2.1 ab.2.2.2.2.2.2.2 (0 : Int32)), ab.2.2.2.2.1, ab.2.2.2.2.2.1, ab.2.2.2.2.2.2.1, ab.2.2.2.2.2.2.2) lo im sy un en ra li i2) H := hP
    refine lv_iconst (v := (1 : Int32)) hx hb dX0_readCode_114 (by decide) ?_
    refine lv_istore (lv' := [(5, .int (1 : Int32)), (0, .ref (ad 11)), (1, .ref (ad 3)), (3, .long v3)]) hx hb dX0_readCode_115 hl (by decide) rfl (fun ls hl => ?_)
    refine lv_iconst (v := (0 : Int32)) hx hb dX0_readCode_117 (by decide) ?_
    refine lv_istore (lv' := [(6, .int (0 : Int32)), (5, .int (1 : Int32)), (0, .ref (ad 11)), (1, .ref (ad 3)), (3, .long v3)]) hx hb dX0_readCode_118 hl (by decide) rfl (fun ls hl => ?_)
    exact bX0_readCode_120 C hI hK hN FU h (lv_sub hl [2, 3, 1, 0] rfl) hP hS
  · rw [if_pos c1] at h
    refine lv_iconst (v := (0 : Int32)) hx hb dX0_readCode_55 (by decide) ?_
    obtain rfl := Option.some.inj h
    exact W.zret (ty := .boolean) hx hb hr (by decide) (fun t ht _ => ⟨rfl, by rw [ht]; exact hP, hS.F ht⟩) hS.2.2 dX0_readCode_56 hlk
def X0_readCode_33 (tp : Ttp)  (cu : Tcu) (ab : Tab) (v2 : Int32) (v3 : Int64) : Option (Int32 × Tcu × Tab) := (if ab.2.2.2.2.2.2.2 < (40 : Int32) then X0_readCode_48 tp cu ab v3 else (letq (X1_refuse cu (4 : Int32) v2) fun q2 => X0_readCode_48 tp q2 ab v3))
set_option maxRecDepth 20000 in
theorem bX0_readCode_33 (C : Cx p s m args meth c cX0_readCode 7 (some .boolean) RX0 (.code yX0_readCode cX0_readCode 7 (some .boolean))) (hI : Apart ad 89) (hK : va_K D vwCl (tysX cy) s) (hN : NW s)  {q : Int32 × Tcu × Tab}  {v2 : Int32} {v3 : Int64} (h : X0_readCode_33 tp cu ab v2 v3 = some q) {ls : Array Slot} (hl : lv_has ls 7 [(0, .ref (ad 11)), (1, .ref (ad 3)), (2, .int v2), (3, .long v3)]) {H : Heap} {locs : List Loc} (hP : va_P D vwCl (GX cy ad tk sp nm tp kp cu se ur ab lo im sy un en ra li i2) H) (hS : va_S (Ac ad 89) s.heap H locs) : W p l e ({ frames := 4, cells := 0, slots := 0, locals := 99 } : Room) s m args below meth c H locs 0 0 (MQ below (QR (some (.int q.1)) D (GX cy ad tk sp nm tp kp q.2.1 se ur q.2.2 lo im sy un en ra li i2) (Ac ad 89)) args s 0 0 (Ac ad 89)) (F0 m 33 ls []) := by
  obtain ⟨hx, hb, hml, hown, hts, hr, hlk⟩ := id C
  unfold X0_readCode_33 at h
  refine lv_aload_n hx hb dX0_readCode_33 rfl (lv_at hl 0 rfl) ?_
  refine gX11_7 (v := ab.2.2.2.2.2.2.2) C hK hP rfl w194 dX0_readCode_34 ?_
  refine lv_bipush (v := (40 : Int32)) hx hb dX0_readCode_37 (by decide) ?_
  refine lv_icmp_lt (tgt := 48) hx hb dX0_readCode_39 (by decide) (fun c1 => ?_) (fun c1 => ?_)
  · rw [if_pos c1] at h
    exact bX0_readCode_48 C hI hK hN h (lv_sub hl [0, 1, 3] rfl) hP hS
  · rw [if_neg c1] at h
    refine lv_aload_n hx hb dX0_readCode_42 rfl (lv_at hl 1 rfl) ?_
    refine lv_iconst (v := (4 : Int32)) hx hb dX0_readCode_43 (by decide) ?_
    refine lv_iload_n hx hb dX0_readCode_44 rfl (lv_at hl 2 rfl) ?_
    obtain ⟨q2, h3, h⟩ := lets h
    refine cRv (run_V (rest := []) C (kX1_refuse hI h3) caX1_refuse w783 ⟨rfl, rfl, Nat.le_of_ble_eq_true rfl, Nat.le_of_ble_eq_true rfl⟩ hK hN hP (rX3 hK hP) rfl hl.1 rfl (Nat.le_of_ble_eq_true rfl) dX0_readCode_45 ⟨Nat.zero_le _, Nat.zero_le _⟩) hS (fun H locs hP hS => ?_)
    have hP : va_P D vwCl (GX cy ad tk sp nm tp kp q2 se ur ab lo im sy un en ra li i2) H := hP
    exact bX0_readCode_48 C hI hK hN h (lv_sub hl [0, 1, 3] rfl) hP hS
def X0_readCode (tp : Ttp) (cu : Tcu) (ab : Tab)  : Option (Int32 × Tcu × Tab) := ((X1_uleb tp cu).bind fun q1 => (if q1.1 = (0 : Int64) then some ((0 : Int32), q1.2, ab) else ((X0_indexOf ab q1.1).bind fun q4 => (if q4 = (-1 : Int32) then X0_readCode_33 tp q1.2 ab (X1_place cu) q1.1 else (letq (X1_refuse q1.2 (2 : Int32) (X1_place cu)) fun q7 => X0_readCode_33 tp q7 ab (X1_place cu) q1.1)))))
set_option maxRecDepth 20000 in
theorem bX0_readCode_0 (C : Cx p s m args meth c cX0_readCode 7 (some .boolean) RX0 (.code yX0_readCode cX0_readCode 7 (some .boolean))) (hI : Apart ad 89) (hK : va_K D vwCl (tysX cy) s) (hN : NW s)  {q : Int32 × Tcu × Tab}   (h : X0_readCode tp cu ab = some q) {ls : Array Slot} (hl : lv_has ls 7 [(0, .ref (ad 11)), (1, .ref (ad 3))]) {H : Heap} {locs : List Loc} (hP : va_P D vwCl (GX cy ad tk sp nm tp kp cu se ur ab lo im sy un en ra li i2) H) (hS : va_S (Ac ad 89) s.heap H locs) : W p l e ({ frames := 4, cells := 0, slots := 0, locals := 99 } : Room) s m args below meth c H locs 0 0 (MQ below (QR (some (.int q.1)) D (GX cy ad tk sp nm tp kp q.2.1 se ur q.2.2 lo im sy un en ra li i2) (Ac ad 89)) args s 0 0 (Ac ad 89)) (F0 m 0 ls []) := by
  obtain ⟨hx, hb, hml, hown, hts, hr, hlk⟩ := id C
  unfold X0_readCode at h
  refine lv_aload_n hx hb dX0_readCode_0 rfl (lv_at hl 1 rfl) ?_
  refine cPi (run_V (rest := []) C (kX1_place rfl) caX1_place w770 ⟨rfl, rfl, Nat.le_of_ble_eq_true rfl, Nat.le_of_ble_eq_true rfl⟩ hK hN hP (rX3 hK hP) rfl hl.1 rfl (Nat.le_of_ble_eq_true rfl) dX0_readCode_1 ⟨Nat.zero_le _, Nat.zero_le _⟩) ?_
  refine lv_istore_n (lv' := [(2, .int (X1_place cu)), (0, .ref (ad 11)), (1, .ref (ad 3))]) hx hb dX0_readCode_4 rfl hl (by decide) rfl (fun ls hl => ?_)
  refine lv_aload_n hx hb dX0_readCode_5 rfl (lv_at hl 2 rfl) ?_
  obtain ⟨q1, h2, h⟩ := bnd h
  refine cRl (run_V (rest := []) C (kX1_uleb hI h2) caX1_uleb w771 ⟨rfl, rfl, Nat.le_of_ble_eq_true rfl, Nat.le_of_ble_eq_true rfl⟩ hK hN hP (rX3 hK hP) rfl hl.1 rfl (Nat.le_of_ble_eq_true rfl) dX0_readCode_6 ⟨Nat.zero_le _, Nat.zero_le _⟩) hS (fun H locs hP hS => ?_)
  have hP : va_P D vwCl (GX cy ad tk sp nm tp kp q1.2 se ur ab lo im sy un en ra li i2) H := hP
  refine lv_lstore_n (lv' := [(3, .long q1.1), (2, .int (X1_place cu)), (0, .ref (ad 11)), (1, .ref (ad 3))]) hx hb dX0_readCode_9 rfl hl (by decide) rfl (fun ls hl => ?_)
  refine lv_lload_n hx hb dX0_readCode_10 rfl (lv_at hl 0 rfl) ?_
  refine lv_lconst (v := (0 : Int64)) hx hb dX0_readCode_11 (by decide) ?_
  refine lc_ne (tgt := 18) hx hb dX0_readCode_12 dX0_readCode_13 (by decide) (fun c3 => ?_) (fun c3 => ?_)
  · rw [if_neg c3] at h
    refine lv_aload_n hx hb dX0_readCode_18 rfl (lv_at hl 2 rfl) ?_
    refine lv_lload_n hx hb dX0_readCode_19 rfl (lv_at hl 0 rfl) ?_
    obtain ⟨q4, h5, h⟩ := bnd h
    refine cPi (run_V (rest := []) C (kX0_indexOf h5) caX0_indexOf w775 ⟨rfl, rfl, Nat.le_of_ble_eq_true rfl, Nat.le_of_ble_eq_true rfl⟩ hK hN hP (rX11 hK hP) rfl hl.1 rfl (Nat.le_of_ble_eq_true rfl) dX0_readCode_20 ⟨Nat.zero_le _, Nat.zero_le _⟩) ?_
    refine lv_iconst (v := (-1 : Int32)) hx hb dX0_readCode_23 (by decide) ?_
    refine lv_icmp_eq (tgt := 33) hx hb dX0_readCode_24 (by decide) (fun c6 => ?_) (fun c6 => ?_)
    · rw [if_pos c6] at h
      exact bX0_readCode_33 C hI hK hN h (lv_sub hl [2, 3, 1, 0] rfl) hP hS
    · rw [if_neg c6] at h
      refine lv_aload_n hx hb dX0_readCode_27 rfl (lv_at hl 3 rfl) ?_
      refine lv_iconst (v := (2 : Int32)) hx hb dX0_readCode_28 (by decide) ?_
      refine lv_iload_n hx hb dX0_readCode_29 rfl (lv_at hl 1 rfl) ?_
      obtain ⟨q7, h8, h⟩ := lets h
      refine cRv (run_V (rest := []) C (kX1_refuse hI h8) caX1_refuse w783 ⟨rfl, rfl, Nat.le_of_ble_eq_true rfl, Nat.le_of_ble_eq_true rfl⟩ hK hN hP (rX3 hK hP) rfl hl.1 rfl (Nat.le_of_ble_eq_true rfl) dX0_readCode_30 ⟨Nat.zero_le _, Nat.zero_le _⟩) hS (fun H locs hP hS => ?_)
      have hP : va_P D vwCl (GX cy ad tk sp nm tp kp q7 se ur ab lo im sy un en ra li i2) H := hP
      exact bX0_readCode_33 C hI hK hN h (lv_sub hl [2, 3, 1, 0] rfl) hP hS
  · rw [if_pos c3] at h
    refine lv_iconst (v := (0 : Int32)) hx hb dX0_readCode_16 (by decide) ?_
    obtain rfl := Option.some.inj h
    exact W.zret (ty := .boolean) hx hb hr (by decide) (fun t ht _ => ⟨rfl, by rw [ht]; exact hP, hS.F ht⟩) hS.2.2 dX0_readCode_17 hlk
theorem kX0_readCode (hI : Apart ad 89)  {q : Int32 × Tcu × Tab} (h : X0_readCode tp cu ab = some q) : Met l yX0_readCode (.code yX0_readCode cX0_readCode 7 (some .boolean) :: WA) ({ frames := 4, cells := 0, slots := 0, locals := 99 } : Room) (va_Pc [.ref (ad 11), .ref (ad 3)] (PR D cy (GX cy ad tk sp nm tp kp cu se ur ab lo im sy un en ra li i2))) (QR (some (.int q.1)) D (GX cy ad tk sp nm tp kp q.2.1 se ur q.2.2 lo im sy un en ra li i2) (Ac ad 89)) 0 0 (Ac ad 89) :=
  met_of (by decide) (Nat.le_of_ble_eq_true rfl) (fun p e s m below meth c ls C hP hK hN hl => bX0_readCode_0 C hI hK hN h hl hP va_S.rf)
def X0_read_9b (tp : Ttp)  (k9 : Tcu → Tab → Int32 → Int32 → Option (Tcu × Tab)) (cu : Tcu) (ab : Tab) (v2 : Int32) (v3 : Int32) : Option (Tcu × Tab) := (if (40 : Int32) < v3 then some (cu, ab) else (if v2 = 0 then some (cu, ab) else (if (X1_sound cu) = 0 then some (cu, ab) else ((X0_readCode tp cu ab).bind fun q4 => k9 q4.2.1 q4.2.2 q4.1 (v3 + (1 : Int32))))))
def X0_read_9 (tp : Ttp)  (n : Nat) (st : Tcu × Tab × Int32 × Int32) : Option (Tcu × Tab) := lp (fun rec st => X0_read_9b tp  (fun a0 a1 a2 a3 => rec (a0, a1, a2, a3)) st.1 st.2.1 st.2.2.1 st.2.2.2) n st
set_option maxRecDepth 20000 in
theorem bX0_read_9 (C : Cx p s m args meth c cX0_read 4 none RX0 (.code yX0_read cX0_read 4 none)) (hI : Apart ad 89) (hK : va_K D vwCl (tysX cy) s) (hN : NW s)  {q : Tcu × Tab}  : ∀ (n : Nat) {cu : Tcu} {ab : Tab} {v2 : Int32} {v3 : Int32}, X0_read_9 tp  n (cu, ab, v2, v3) = some q → ∀ {ls : Array Slot}, lv_has ls 4 [(0, .ref (ad 11)), (1, .ref (ad 3)), (2, .int v2), (3, .int v3)] → ∀ {H : Heap} {locs : List Loc}, va_P D vwCl (GX cy ad tk sp nm tp kp cu se ur ab lo im sy un en ra li i2) H → va_S (Ac ad 89) s.heap H locs → W p l e ({ frames := 5, cells := 0, slots := 0, locals := 125 } : Room) s m args below meth c H locs 0 0 (MQ below (QR none D (GX cy ad tk sp nm tp kp q.1 se ur q.2 lo im sy un en ra li i2) (Ac ad 89)) args s 0 0 (Ac ad 89)) (F0 m 9 ls []) := by
  obtain ⟨hx, hb, hml, hown, hts, hr, hlk⟩ := id C
  intro n
  induction n with
  | zero =>
    intro cu ab v2 v3 h ls hl H locs hP hS
    have h : (none : Option (Tcu × Tab)) = some q := h
    cases h
  | succ n ih =>
    intro cu ab v2 v3 h ls hl H locs hP hS
    have h : X0_read_9b tp  (fun a0 a1 a2 a3 => X0_read_9 tp  n (a0, a1, a2, a3)) cu ab v2 v3 = some q := h
    unfold X0_read_9b at h
    refine lv_iload_n hx hb dX0_read_9 rfl (lv_at hl 3 rfl) ?_
    refine lv_bipush (v := (40 : Int32)) hx hb dX0_read_10 (by decide) ?_
    refine lv_icmp_gt (tgt := 38) hx hb dX0_read_12 (by decide) (fun c1 => ?_) (fun c1 => ?_)
    · rw [if_pos c1] at h
      obtain rfl := Option.some.inj h
      exact W.vret hx hb hr (fun t ht _ => ⟨rfl, by rw [ht]; exact hP, hS.F ht⟩) hS.2.2 dX0_read_38 hlk
    · rw [if_neg c1] at h
      refine lv_iload_n hx hb dX0_read_15 rfl (lv_at hl 2 rfl) ?_
      refine lv_if_eq (tgt := 38) hx hb dX0_read_16 (by decide) (fun c2 => ?_) (fun c2 => ?_)
      · rw [if_pos c2] at h
        obtain rfl := Option.some.inj h
        exact W.vret hx hb hr (fun t ht _ => ⟨rfl, by rw [ht]; exact hP, hS.F ht⟩) hS.2.2 dX0_read_38 hlk
      · rw [if_neg c2] at h
        refine lv_aload_n hx hb dX0_read_19 rfl (lv_at hl 1 rfl) ?_
        refine cPi (run_V (rest := []) C (kX1_sound rfl) caX1_sound w765 ⟨rfl, rfl, Nat.le_of_ble_eq_true rfl, Nat.le_of_ble_eq_true rfl⟩ hK hN hP (rX3 hK hP) rfl hl.1 rfl (Nat.le_of_ble_eq_true rfl) dX0_read_20 ⟨Nat.zero_le _, Nat.zero_le _⟩) ?_
        refine lv_if_eq (tgt := 38) hx hb dX0_read_23 (by decide) (fun c3 => ?_) (fun c3 => ?_)
        · rw [if_pos c3] at h
          obtain rfl := Option.some.inj h
          exact W.vret hx hb hr (fun t ht _ => ⟨rfl, by rw [ht]; exact hP, hS.F ht⟩) hS.2.2 dX0_read_38 hlk
        · rw [if_neg c3] at h
          refine lv_aload_n hx hb dX0_read_26 rfl (lv_at hl 0 rfl) ?_
          refine lv_aload_n hx hb dX0_read_27 rfl (lv_at hl 1 rfl) ?_
          obtain ⟨q4, h5, h⟩ := bnd h
          refine cRi (run_V (rest := []) C (kX0_readCode hI h5) caX0_readCode w766 ⟨rfl, rfl, Nat.le_of_ble_eq_true rfl, Nat.le_of_ble_eq_true rfl⟩ hK hN hP (rX11 hK hP) rfl hl.1 rfl (Nat.le_of_ble_eq_true rfl) dX0_read_28 ⟨Nat.zero_le _, Nat.zero_le _⟩) hS (fun H locs hP hS => ?_)
          have hP : va_P D vwCl (GX cy ad tk sp nm tp kp q4.2.1 se ur q4.2.2 lo im sy un en ra li i2) H := hP
          refine lv_istore_n (lv' := [(2, .int q4.1), (0, .ref (ad 11)), (1, .ref (ad 3)), (3, .int v3)]) hx hb dX0_read_31 rfl hl (by decide) rfl (fun ls hl => ?_)
          refine lv_iinc (v := (v3 + (1 : Int32))) (lv' := [(3, .int (v3 + (1 : Int32))), (2, .int q4.1), (0, .ref (ad 11)), (1, .ref (ad 3))]) hx hb dX0_read_32 hl (k := 3) rfl rfl (by decide) rfl (fun ls hl => ?_)
          refine lv_goto (tgt := 9) hx hb dX0_read_35 (by decide) ?_
          exact ih h (lv_sub hl [2, 3, 1, 0] rfl) hP hS
def X0_read (tp : Ttp) (cu : Tcu) (ab : Tab)  : Option (Tcu × Tab) := X0_read_9 tp FU (cu, (ab.1, ab.2.1, ab.2.2.1, ab.2.2.2.1, ab.2.2.2.2.1, ab.2.2.2.2.2.1, ab.2.2.2.2.2.2.1, (0 : Int32)), (1 : Int32), (0 : Int32))
set_option maxRecDepth 20000 in
theorem bX0_read_0 (C : Cx p s m args meth c cX0_read 4 none RX0 (.code yX0_read cX0_read 4 none)) (hI : Apart ad 89) (hK : va_K D vwCl (tysX cy) s) (hN : NW s)  {q : Tcu × Tab}   (h : X0_read tp cu ab = some q) {ls : Array Slot} (hl : lv_has ls 4 [(0, .ref (ad 11)), (1, .ref (ad 3))]) {H : Heap} {locs : List Loc} (hP : va_P D vwCl (GX cy ad tk sp nm tp kp cu se ur ab lo im sy un en ra li i2) H) (hS : va_S (Ac ad 89) s.heap H locs) : W p l e ({ frames := 5, cells := 0, slots := 0, locals := 125 } : Room) s m args below meth c H locs 0 0 (MQ below (QR none D (GX cy ad tk sp nm tp kp q.1 se ur q.2 lo im sy un en ra li i2) (Ac ad 89)) args s 0 0 (Ac ad 89)) (F0 m 0 ls []) := by
  obtain ⟨hx, hb, hml, hown, hts, hr, hlk⟩ := id C
  unfold X0_read at h
  refine lv_aload_n hx hb dX0_read_0 rfl (lv_at hl 0 rfl) ?_
  refine lv_iconst (v := (0 : Int32)) hx hb dX0_read_1 (by decide) ?_
  refine pX11_7 (v := (0 : Int32)) C hI hK hP hS w194 dX0_read_2 (fun H locs hP hS => ?_)
  have hP : va_P D vwCl (GX cy ad tk sp nm tp kp cu se ur (ab.1, ab.2.1, ab.2.2.1, ab.2.2.2.1, ab.2.2.2.2.1, ab.2.2.2.2.2.1, ab.2.2.2.2.2.2.1, (0 : Int32)) lo im sy un en ra li i2) H := hP
  refine lv_iconst (v := (1 : Int32)) hx hb dX0_read_5 (by decide) ?_
  refine lv_istore_n (lv' := [(2, .int (1 : Int32)), (0, .ref (ad 11)), (1, .ref (ad 3))]) hx hb dX0_read_6 rfl hl (by decide) rfl (fun ls hl => ?_)
  refine lv_iconst (v := (0 : Int32)) hx hb dX0_read_7 (by decide) ?_
  refine lv_istore_n (lv' := [(3, .int (0 : Int32)), (2, .int (1 : Int32)), (0, .ref (ad 11)), (1, .ref (ad 3))]) hx hb dX0_read_8 rfl hl (by decide) rfl (fun ls hl => ?_)
  exact bX0_read_9 C hI hK hN FU h (lv_sub hl [2, 3, 1, 0] rfl) hP hS
theorem kX0_read (hI : Apart ad 89)  {q : Tcu × Tab} (h : X0_read tp cu ab = some q) : Met l yX0_read (.code yX0_read cX0_read 4 none :: WA) ({ frames := 5, cells := 0, slots := 0, locals := 125 } : Room) (va_Pc [.ref (ad 11), .ref (ad 3)] (PR D cy (GX cy ad tk sp nm tp kp cu se ur ab lo im sy un en ra li i2))) (QR none D (GX cy ad tk sp nm tp kp q.1 se ur q.2 lo im sy un en ra li i2) (Ac ad 89)) 0 0 (Ac ad 89) :=
  met_of (by decide) (Nat.le_of_ble_eq_true rfl) (fun p e s m below meth c ls C hP hK hN hl => bX0_read_0 C hI hK hN h hl hP va_S.rf)
def X0_tagOf (ab : Tab) (v1 : Int32) : Int64 := (at_l 40 ab.2.1 v1)
set_option maxRecDepth 20000 in
theorem bX0_tagOf_0 (C : Cx p s m args meth c cX0_tagOf 2 (some .long) RX0 (.code yX0_tagOf cX0_tagOf 2 (some .long))) (hK : va_K D vwCl (tysX cy) s) (hN : NW s)  {q : Int64}  {v1 : Int32} (h : X0_tagOf ab v1 = q) {ls : Array Slot} (hl : lv_has ls 2 [(0, .ref (ad 11)), (1, .int v1)]) (hP : va_P D vwCl (GX cy ad tk sp nm tp kp cu se ur ab lo im sy un en ra li i2) s.heap) : W p l e ({ frames := 1, cells := 0, slots := 0, locals := 21 } : Room) s m args below meth c s.heap [] 0 0 (MQ below (QP (some (.long q))) args s 0 0 (fun _ => False)) (F0 m 0 ls []) := by
  obtain ⟨hx, hb, hml, hown, hts, hr, hlk⟩ := id C
  unfold X0_tagOf at h
  refine lv_aload_n hx hb dX0_tagOf_0 rfl (lv_at hl 0 rfl) ?_
  refine gX11_1 C hK hP w188 dX0_tagOf_1 ?_
  refine lv_iload_n hx hb dX0_tagOf_4 rfl (lv_at hl 1 rfl) ?_
  refine xat_l (rest := []) C hK hN hP eX13 (Nat.le_of_ble_eq_true rfl) w779 hl.1 (Nat.le_of_ble_eq_true rfl) dX0_tagOf_5 ⟨Nat.le_of_ble_eq_true rfl, Nat.le_of_ble_eq_true rfl⟩ ⟨Nat.zero_le _, Nat.zero_le _⟩ ?_
  obtain rfl := h
  exact W.lret hx hb hr (fun t ht _ => ⟨rfl, ht⟩) (fun _ h9 => by cases h9) dX0_tagOf_8 hlk
theorem kX0_tagOf  {v1 : Int32} {q : Int64} (h : X0_tagOf ab v1 = q) : Met l yX0_tagOf (.code yX0_tagOf cX0_tagOf 2 (some .long) :: WA) ({ frames := 1, cells := 0, slots := 0, locals := 21 } : Room) (va_Pc [.ref (ad 11), .int v1] (PR D cy (GX cy ad tk sp nm tp kp cu se ur ab lo im sy un en ra li i2))) (QP (some (.long q))) 0 0 (fun _ => False) :=
  met_of (by decide) (Nat.le_of_ble_eq_true rfl) (fun p e s m below meth c ls C hP hK hN hl => bX0_tagOf_0 C hK hN h hl hP)
def X0_hasChildren (ab : Tab) (v1 : Int32) : Int32 := (if (at_i 40 ab.2.2.1 v1) = (1 : Int32) then (1 : Int32) else (0 : Int32))
set_option maxRecDepth 20000 in
theorem bX0_hasChildren_0 (C : Cx p s m args meth c cX0_hasChildren 2 (some .boolean) RX0 (.code yX0_hasChildren cX0_hasChildren 2 (some .boolean))) (hK : va_K D vwCl (tysX cy) s) (hN : NW s)  {q : Int32}  {v1 : Int32} (h : X0_hasChildren ab v1 = q) {ls : Array Slot} (hl : lv_has ls 2 [(0, .ref (ad 11)), (1, .int v1)]) (hP : va_P D vwCl (GX cy ad tk sp nm tp kp cu se ur ab lo im sy un en ra li i2) s.heap) : W p l e ({ frames := 1, cells := 0, slots := 0, locals := 21 } : Room) s m args below meth c s.heap [] 0 0 (MQ below (QP (some (.int q))) args s 0 0 (fun _ => False)) (F0 m 0 ls []) := by
  obtain ⟨hx, hb, hml, hown, hts, hr, hlk⟩ := id C
  unfold X0_hasChildren at h
  refine lv_aload_n hx hb dX0_hasChildren_0 rfl (lv_at hl 0 rfl) ?_
  refine gX11_2 C hK hP w189 dX0_hasChildren_1 ?_
  refine lv_iload_n hx hb dX0_hasChildren_4 rfl (lv_at hl 1 rfl) ?_
  refine xat_i (rest := []) C hK hN hP eX14 (Nat.le_of_ble_eq_true rfl) w795 hl.1 (Nat.le_of_ble_eq_true rfl) dX0_hasChildren_5 ⟨Nat.le_of_ble_eq_true rfl, Nat.le_of_ble_eq_true rfl⟩ ⟨Nat.zero_le _, Nat.zero_le _⟩ ?_
  refine lv_iconst (v := (1 : Int32)) hx hb dX0_hasChildren_8 (by decide) ?_
  refine lv_icmp_ne (tgt := 16) hx hb dX0_hasChildren_9 (by decide) (fun c1 => ?_) (fun c1 => ?_)
  · rw [if_neg c1] at h
    refine lv_iconst (v := (0 : Int32)) hx hb dX0_hasChildren_16 (by decide) ?_
    obtain rfl := h
    exact W.zret (ty := .boolean) hx hb hr (by decide) (fun t ht _ => ⟨rfl, ht⟩) (fun _ h9 => by cases h9) dX0_hasChildren_17 hlk
  · rw [if_pos c1] at h
    refine lv_iconst (v := (1 : Int32)) hx hb dX0_hasChildren_12 (by decide) ?_
    refine lv_goto (tgt := 17) hx hb dX0_hasChildren_13 (by decide) ?_
    obtain rfl := h
    exact W.zret (ty := .boolean) hx hb hr (by decide) (fun t ht _ => ⟨rfl, ht⟩) (fun _ h9 => by cases h9) dX0_hasChildren_17 hlk
theorem kX0_hasChildren  {v1 : Int32} {q : Int32} (h : X0_hasChildren ab v1 = q) : Met l yX0_hasChildren (.code yX0_hasChildren cX0_hasChildren 2 (some .boolean) :: WA) ({ frames := 1, cells := 0, slots := 0, locals := 21 } : Room) (va_Pc [.ref (ad 11), .int v1] (PR D cy (GX cy ad tk sp nm tp kp cu se ur ab lo im sy un en ra li i2))) (QP (some (.int q))) 0 0 (fun _ => False) :=
  met_of (by decide) (Nat.le_of_ble_eq_true rfl) (fun p e s m below meth c ls C hP hK hN hl => bX0_hasChildren_0 C hK hN h hl hP)
def X0_pairTotalOf (ab : Tab) (v1 : Int32) : Int32 := (at_i 40 ab.2.2.2.1 v1)
set_option maxRecDepth 20000 in
theorem bX0_pairTotalOf_0 (C : Cx p s m args meth c cX0_pairTotalOf 2 (some .int) RX0 (.code yX0_pairTotalOf cX0_pairTotalOf 2 (some .int))) (hK : va_K D vwCl (tysX cy) s) (hN : NW s)  {q : Int32}  {v1 : Int32} (h : X0_pairTotalOf ab v1 = q) {ls : Array Slot} (hl : lv_has ls 2 [(0, .ref (ad 11)), (1, .int v1)]) (hP : va_P D vwCl (GX cy ad tk sp nm tp kp cu se ur ab lo im sy un en ra li i2) s.heap) : W p l e ({ frames := 1, cells := 0, slots := 0, locals := 21 } : Room) s m args below meth c s.heap [] 0 0 (MQ below (QP (some (.int q))) args s 0 0 (fun _ => False)) (F0 m 0 ls []) := by
  obtain ⟨hx, hb, hml, hown, hts, hr, hlk⟩ := id C
  unfold X0_pairTotalOf at h
  refine lv_aload_n hx hb dX0_pairTotalOf_0 rfl (lv_at hl 0 rfl) ?_
  refine gX11_3 C hK hP w190 dX0_pairTotalOf_1 ?_
  refine lv_iload_n hx hb dX0_pairTotalOf_4 rfl (lv_at hl 1 rfl) ?_
  refine xat_i (rest := []) C hK hN hP eX15 (Nat.le_of_ble_eq_true rfl) w795 hl.1 (Nat.le_of_ble_eq_true rfl) dX0_pairTotalOf_5 ⟨Nat.le_of_ble_eq_true rfl, Nat.le_of_ble_eq_true rfl⟩ ⟨Nat.zero_le _, Nat.zero_le _⟩ ?_
  obtain rfl := h
  exact W.iret hx hb hr (fun t ht _ => ⟨rfl, ht⟩) (fun _ h9 => by cases h9) dX0_pairTotalOf_8 hlk
theorem kX0_pairTotalOf  {v1 : Int32} {q : Int32} (h : X0_pairTotalOf ab v1 = q) : Met l yX0_pairTotalOf (.code yX0_pairTotalOf cX0_pairTotalOf 2 (some .int) :: WA) ({ frames := 1, cells := 0, slots := 0, locals := 21 } : Room) (va_Pc [.ref (ad 11), .int v1] (PR D cy (GX cy ad tk sp nm tp kp cu se ur ab lo im sy un en ra li i2))) (QP (some (.int q))) 0 0 (fun _ => False) :=
  met_of (by decide) (Nat.le_of_ble_eq_true rfl) (fun p e s m below meth c ls C hP hK hN hl => bX0_pairTotalOf_0 C hK hN h hl hP)
def X0_attributeOf (ab : Tab) (v1 : Int32) (v2 : Int32) : Int64 := (at_l 640 ab.2.2.2.2.1 ((v1 * (16 : Int32)) + v2))
set_option maxRecDepth 20000 in
theorem bX0_attributeOf_0 (C : Cx p s m args meth c cX0_attributeOf 3 (some .long) RX0 (.code yX0_attributeOf cX0_attributeOf 3 (some .long))) (hK : va_K D vwCl (tysX cy) s) (hN : NW s)  {q : Int64}  {v1 : Int32} {v2 : Int32} (h : X0_attributeOf ab v1 v2 = q) {ls : Array Slot} (hl : lv_has ls 3 [(0, .ref (ad 11)), (1, .int v1), (2, .int v2)]) (hP : va_P D vwCl (GX cy ad tk sp nm tp kp cu se ur ab lo im sy un en ra li i2) s.heap) : W p l e ({ frames := 1, cells := 0, slots := 0, locals := 21 } : Room) s m args below meth c s.heap [] 0 0 (MQ below (QP (some (.long q))) args s 0 0 (fun _ => False)) (F0 m 0 ls []) := by
  obtain ⟨hx, hb, hml, hown, hts, hr, hlk⟩ := id C
  unfold X0_attributeOf at h
  refine lv_aload_n hx hb dX0_attributeOf_0 rfl (lv_at hl 0 rfl) ?_
  refine gX11_4 C hK hP w191 dX0_attributeOf_1 ?_
  refine lv_iload_n hx hb dX0_attributeOf_4 rfl (lv_at hl 1 rfl) ?_
  refine lv_bipush (v := (16 : Int32)) hx hb dX0_attributeOf_5 (by decide) ?_
  refine lv_imul hx hb dX0_attributeOf_7 ?_
  refine lv_iload_n hx hb dX0_attributeOf_8 rfl (lv_at hl 2 rfl) ?_
  refine lv_iadd hx hb dX0_attributeOf_9 ?_
  refine xat_l (rest := []) C hK hN hP eX16 (Nat.le_of_ble_eq_true rfl) w779 hl.1 (Nat.le_of_ble_eq_true rfl) dX0_attributeOf_10 ⟨Nat.le_of_ble_eq_true rfl, Nat.le_of_ble_eq_true rfl⟩ ⟨Nat.zero_le _, Nat.zero_le _⟩ ?_
  obtain rfl := h
  exact W.lret hx hb hr (fun t ht _ => ⟨rfl, ht⟩) (fun _ h9 => by cases h9) dX0_attributeOf_13 hlk
theorem kX0_attributeOf  {v1 : Int32} {v2 : Int32} {q : Int64} (h : X0_attributeOf ab v1 v2 = q) : Met l yX0_attributeOf (.code yX0_attributeOf cX0_attributeOf 3 (some .long) :: WA) ({ frames := 1, cells := 0, slots := 0, locals := 21 } : Room) (va_Pc [.ref (ad 11), .int v1, .int v2] (PR D cy (GX cy ad tk sp nm tp kp cu se ur ab lo im sy un en ra li i2))) (QP (some (.long q))) 0 0 (fun _ => False) :=
  met_of (by decide) (Nat.le_of_ble_eq_true rfl) (fun p e s m below meth c ls C hP hK hN hl => bX0_attributeOf_0 C hK hN h hl hP)
def X0_formOf (ab : Tab) (v1 : Int32) (v2 : Int32) : Int32 := (at_i 640 ab.2.2.2.2.2.1 ((v1 * (16 : Int32)) + v2))
set_option maxRecDepth 20000 in
theorem bX0_formOf_0 (C : Cx p s m args meth c cX0_formOf 3 (some .int) RX0 (.code yX0_formOf cX0_formOf 3 (some .int))) (hK : va_K D vwCl (tysX cy) s) (hN : NW s)  {q : Int32}  {v1 : Int32} {v2 : Int32} (h : X0_formOf ab v1 v2 = q) {ls : Array Slot} (hl : lv_has ls 3 [(0, .ref (ad 11)), (1, .int v1), (2, .int v2)]) (hP : va_P D vwCl (GX cy ad tk sp nm tp kp cu se ur ab lo im sy un en ra li i2) s.heap) : W p l e ({ frames := 1, cells := 0, slots := 0, locals := 21 } : Room) s m args below meth c s.heap [] 0 0 (MQ below (QP (some (.int q))) args s 0 0 (fun _ => False)) (F0 m 0 ls []) := by
  obtain ⟨hx, hb, hml, hown, hts, hr, hlk⟩ := id C
  unfold X0_formOf at h
  refine lv_aload_n hx hb dX0_formOf_0 rfl (lv_at hl 0 rfl) ?_
  refine gX11_5 C hK hP w192 dX0_formOf_1 ?_
  refine lv_iload_n hx hb dX0_formOf_4 rfl (lv_at hl 1 rfl) ?_
  refine lv_bipush (v := (16 : Int32)) hx hb dX0_formOf_5 (by decide) ?_
  refine lv_imul hx hb dX0_formOf_7 ?_
  refine lv_iload_n hx hb dX0_formOf_8 rfl (lv_at hl 2 rfl) ?_
  refine lv_iadd hx hb dX0_formOf_9 ?_
  refine xat_i (rest := []) C hK hN hP eX17 (Nat.le_of_ble_eq_true rfl) w795 hl.1 (Nat.le_of_ble_eq_true rfl) dX0_formOf_10 ⟨Nat.le_of_ble_eq_true rfl, Nat.le_of_ble_eq_true rfl⟩ ⟨Nat.zero_le _, Nat.zero_le _⟩ ?_
  obtain rfl := h
  exact W.iret hx hb hr (fun t ht _ => ⟨rfl, ht⟩) (fun _ h9 => by cases h9) dX0_formOf_13 hlk
theorem kX0_formOf  {v1 : Int32} {v2 : Int32} {q : Int32} (h : X0_formOf ab v1 v2 = q) : Met l yX0_formOf (.code yX0_formOf cX0_formOf 3 (some .int) :: WA) ({ frames := 1, cells := 0, slots := 0, locals := 21 } : Room) (va_Pc [.ref (ad 11), .int v1, .int v2] (PR D cy (GX cy ad tk sp nm tp kp cu se ur ab lo im sy un en ra li i2))) (QP (some (.int q))) 0 0 (fun _ => False) :=
  met_of (by decide) (Nat.le_of_ble_eq_true rfl) (fun p e s m below meth c ls C hP hK hN hl => bX0_formOf_0 C hK hN h hl hP)
def X0_valueOf (ab : Tab) (v1 : Int32) (v2 : Int32) : Int64 := (at_l 640 ab.2.2.2.2.2.2.1 ((v1 * (16 : Int32)) + v2))
set_option maxRecDepth 20000 in
theorem bX0_valueOf_0 (C : Cx p s m args meth c cX0_valueOf 3 (some .long) RX0 (.code yX0_valueOf cX0_valueOf 3 (some .long))) (hK : va_K D vwCl (tysX cy) s) (hN : NW s)  {q : Int64}  {v1 : Int32} {v2 : Int32} (h : X0_valueOf ab v1 v2 = q) {ls : Array Slot} (hl : lv_has ls 3 [(0, .ref (ad 11)), (1, .int v1), (2, .int v2)]) (hP : va_P D vwCl (GX cy ad tk sp nm tp kp cu se ur ab lo im sy un en ra li i2) s.heap) : W p l e ({ frames := 1, cells := 0, slots := 0, locals := 21 } : Room) s m args below meth c s.heap [] 0 0 (MQ below (QP (some (.long q))) args s 0 0 (fun _ => False)) (F0 m 0 ls []) := by
  obtain ⟨hx, hb, hml, hown, hts, hr, hlk⟩ := id C
  unfold X0_valueOf at h
  refine lv_aload_n hx hb dX0_valueOf_0 rfl (lv_at hl 0 rfl) ?_
  refine gX11_6 C hK hP w193 dX0_valueOf_1 ?_
  refine lv_iload_n hx hb dX0_valueOf_4 rfl (lv_at hl 1 rfl) ?_
  refine lv_bipush (v := (16 : Int32)) hx hb dX0_valueOf_5 (by decide) ?_
  refine lv_imul hx hb dX0_valueOf_7 ?_
  refine lv_iload_n hx hb dX0_valueOf_8 rfl (lv_at hl 2 rfl) ?_
  refine lv_iadd hx hb dX0_valueOf_9 ?_
  refine xat_l (rest := []) C hK hN hP eX18 (Nat.le_of_ble_eq_true rfl) w779 hl.1 (Nat.le_of_ble_eq_true rfl) dX0_valueOf_10 ⟨Nat.le_of_ble_eq_true rfl, Nat.le_of_ble_eq_true rfl⟩ ⟨Nat.zero_le _, Nat.zero_le _⟩ ?_
  obtain rfl := h
  exact W.lret hx hb hr (fun t ht _ => ⟨rfl, ht⟩) (fun _ h9 => by cases h9) dX0_valueOf_13 hlk
theorem kX0_valueOf  {v1 : Int32} {v2 : Int32} {q : Int64} (h : X0_valueOf ab v1 v2 = q) : Met l yX0_valueOf (.code yX0_valueOf cX0_valueOf 3 (some .long) :: WA) ({ frames := 1, cells := 0, slots := 0, locals := 21 } : Room) (va_Pc [.ref (ad 11), .int v1, .int v2] (PR D cy (GX cy ad tk sp nm tp kp cu se ur ab lo im sy un en ra li i2))) (QP (some (.long q))) 0 0 (fun _ => False) :=
  met_of (by decide) (Nat.le_of_ble_eq_true rfl) (fun p e s m below meth c ls C hP hK hN hl => bX0_valueOf_0 C hK hN h hl hP)
def X1_within (cu : Tcu) (v1 : Int32) (v2 : Int32) : Tcu := (cu.1, v1, v2, cu.2.2.2.1, cu.2.2.2.2)
set_option maxRecDepth 20000 in
theorem bX1_within_0 (C : Cx p s m args meth c cX1_within 3 none RX1 (.code yX1_within cX1_within 3 none)) (hI : Apart ad 89) (hK : va_K D vwCl (tysX cy) s) (hN : NW s)  {q : Tcu}  {v1 : Int32} {v2 : Int32} (h : X1_within cu v1 v2 = q) {ls : Array Slot} (hl : lv_has ls 3 [(0, .ref (ad 3)), (1, .int v1), (2, .int v2)]) {H : Heap} {locs : List Loc} (hP : va_P D vwCl (GX cy ad tk sp nm tp kp cu se ur ab lo im sy un en ra li i2) H) (hS : va_S (Ac ad 89) s.heap H locs) : W p l e ({ frames := 0, cells := 0, slots := 0, locals := 0 } : Room) s m args below meth c H locs 0 0 (MQ below (QR none D (GX cy ad tk sp nm tp kp q se ur ab lo im sy un en ra li i2) (Ac ad 89)) args s 0 0 (Ac ad 89)) (F0 m 0 ls []) := by
  obtain ⟨hx, hb, hml, hown, hts, hr, hlk⟩ := id C
  unfold X1_within at h
  refine lv_aload_n hx hb dX1_within_0 rfl (lv_at hl 0 rfl) ?_
  refine lv_iload_n hx hb dX1_within_1 rfl (lv_at hl 1 rfl) ?_
  refine pX3_2 (v := v1) C hI hK hP hS w131 dX1_within_2 (fun H locs hP hS => ?_)
  have hP : va_P D vwCl (GX cy ad tk sp nm tp kp (cu.1, v1, cu.2.2.1, cu.2.2.2.1, cu.2.2.2.2) se ur ab lo im sy un en ra li i2) H := hP
  refine lv_aload_n hx hb dX1_within_5 rfl (lv_at hl 0 rfl) ?_
  refine lv_iload_n hx hb dX1_within_6 rfl (lv_at hl 2 rfl) ?_
  refine pX3_3 (v := v2) C hI hK hP hS w132 dX1_within_7 (fun H locs hP hS => ?_)
  have hP : va_P D vwCl (GX cy ad tk sp nm tp kp (cu.1, v1, v2, cu.2.2.2.1, cu.2.2.2.2) se ur ab lo im sy un en ra li i2) H := hP
  obtain rfl := h
  exact W.vret hx hb hr (fun t ht _ => ⟨rfl, by rw [ht]; exact hP, hS.F ht⟩) hS.2.2 dX1_within_10 hlk
theorem kX1_within (hI : Apart ad 89) {v1 : Int32} {v2 : Int32} {q : Tcu} (h : X1_within cu v1 v2 = q) : Met l yX1_within (.code yX1_within cX1_within 3 none :: WA) ({ frames := 0, cells := 0, slots := 0, locals := 0 } : Room) (va_Pc [.ref (ad 3), .int v1, .int v2] (PR D cy (GX cy ad tk sp nm tp kp cu se ur ab lo im sy un en ra li i2))) (QR none D (GX cy ad tk sp nm tp kp q se ur ab lo im sy un en ra li i2) (Ac ad 89)) 0 0 (Ac ad 89) :=
  met_of (by decide) (Nat.le_of_ble_eq_true rfl) (fun p e s m below meth c ls C hP hK hN hl => bX1_within_0 C hI hK hN h hl hP va_S.rf)
def X1_open (cu : Tcu) (v1 : Int32) : Tcu := (letq (X1_within (v1, cu.2.1, cu.2.2.1, (0 : Int32), (-1 : Int32)) (0 : Int32) v1) fun q1 => q1)
set_option maxRecDepth 20000 in
theorem bX1_open_0 (C : Cx p s m args meth c cX1_open 2 none RX1 (.code yX1_open cX1_open 2 none)) (hI : Apart ad 89) (hK : va_K D vwCl (tysX cy) s) (hN : NW s)  {q : Tcu}  {v1 : Int32} (h : X1_open cu v1 = q) {ls : Array Slot} (hl : lv_has ls 2 [(0, .ref (ad 3)), (1, .int v1)]) {H : Heap} {locs : List Loc} (hP : va_P D vwCl (GX cy ad tk sp nm tp kp cu se ur ab lo im sy un en ra li i2) H) (hS : va_S (Ac ad 89) s.heap H locs) : W p l e ({ frames := 1, cells := 0, slots := 0, locals := 22 } : Room) s m args below meth c H locs 0 0 (MQ below (QR none D (GX cy ad tk sp nm tp kp q se ur ab lo im sy un en ra li i2) (Ac ad 89)) args s 0 0 (Ac ad 89)) (F0 m 0 ls []) := by
  obtain ⟨hx, hb, hml, hown, hts, hr, hlk⟩ := id C
  unfold X1_open at h
  refine lv_aload_n hx hb dX1_open_0 rfl (lv_at hl 0 rfl) ?_
  refine lv_iload_n hx hb dX1_open_1 rfl (lv_at hl 1 rfl) ?_
  refine pX3_1 (v := v1) C hI hK hP hS w130 dX1_open_2 (fun H locs hP hS => ?_)
  have hP : va_P D vwCl (GX cy ad tk sp nm tp kp (v1, cu.2.1, cu.2.2.1, cu.2.2.2.1, cu.2.2.2.2) se ur ab lo im sy un en ra li i2) H := hP
  refine lv_aload_n hx hb dX1_open_5 rfl (lv_at hl 0 rfl) ?_
  refine lv_iconst (v := (0 : Int32)) hx hb dX1_open_6 (by decide) ?_
  refine pX3_4 (v := (0 : Int32)) C hI hK hP hS w133 dX1_open_7 (fun H locs hP hS => ?_)
  have hP : va_P D vwCl (GX cy ad tk sp nm tp kp (v1, cu.2.1, cu.2.2.1, (0 : Int32), cu.2.2.2.2) se ur ab lo im sy un en ra li i2) H := hP
  refine lv_aload_n hx hb dX1_open_10 rfl (lv_at hl 0 rfl) ?_
  refine lv_iconst (v := (-1 : Int32)) hx hb dX1_open_11 (by decide) ?_
  refine pX3_5 (v := (-1 : Int32)) C hI hK hP hS w134 dX1_open_12 (fun H locs hP hS => ?_)
  have hP : va_P D vwCl (GX cy ad tk sp nm tp kp (v1, cu.2.1, cu.2.2.1, (0 : Int32), (-1 : Int32)) se ur ab lo im sy un en ra li i2) H := hP
  refine lv_aload_n hx hb dX1_open_15 rfl (lv_at hl 0 rfl) ?_
  refine lv_iconst (v := (0 : Int32)) hx hb dX1_open_16 (by decide) ?_
  refine lv_iload_n hx hb dX1_open_17 rfl (lv_at hl 1 rfl) ?_
  obtain ⟨q1, h2, h⟩ := lets h
  refine cRv (run_V (rest := []) C (kX1_within hI h2) caX1_within w534 ⟨rfl, rfl, Nat.le_of_ble_eq_true rfl, Nat.le_of_ble_eq_true rfl⟩ hK hN hP (rX3 hK hP) rfl hl.1 rfl (Nat.le_of_ble_eq_true rfl) dX1_open_18 ⟨Nat.zero_le _, Nat.zero_le _⟩) hS (fun H locs hP hS => ?_)
  have hP : va_P D vwCl (GX cy ad tk sp nm tp kp q1 se ur ab lo im sy un en ra li i2) H := hP
  obtain rfl := h
  exact W.vret hx hb hr (fun t ht _ => ⟨rfl, by rw [ht]; exact hP, hS.F ht⟩) hS.2.2 dX1_open_21 hlk
theorem kX1_open (hI : Apart ad 89) {v1 : Int32} {q : Tcu} (h : X1_open cu v1 = q) : Met l yX1_open (.code yX1_open cX1_open 2 none :: WA) ({ frames := 1, cells := 0, slots := 0, locals := 22 } : Room) (va_Pc [.ref (ad 3), .int v1] (PR D cy (GX cy ad tk sp nm tp kp cu se ur ab lo im sy un en ra li i2))) (QR none D (GX cy ad tk sp nm tp kp q se ur ab lo im sy un en ra li i2) (Ac ad 89)) 0 0 (Ac ad 89) :=
  met_of (by decide) (Nat.le_of_ble_eq_true rfl) (fun p e s m below meth c ls C hP hK hN hl => bX1_open_0 C hI hK hN h hl hP va_S.rf)
def X1_size (cu : Tcu)  : Int32 := cu.1
set_option maxRecDepth 20000 in
theorem bX1_size_0 (C : Cx p s m args meth c cX1_size 1 (some .int) RX1 (.code yX1_size cX1_size 1 (some .int))) (hK : va_K D vwCl (tysX cy) s) (hN : NW s)  {q : Int32}   (h : X1_size cu = q) {ls : Array Slot} (hl : lv_has ls 1 [(0, .ref (ad 3))]) (hP : va_P D vwCl (GX cy ad tk sp nm tp kp cu se ur ab lo im sy un en ra li i2) s.heap) : W p l e ({ frames := 0, cells := 0, slots := 0, locals := 0 } : Room) s m args below meth c s.heap [] 0 0 (MQ below (QP (some (.int q))) args s 0 0 (fun _ => False)) (F0 m 0 ls []) := by
  obtain ⟨hx, hb, hml, hown, hts, hr, hlk⟩ := id C
  unfold X1_size at h
  refine lv_aload_n hx hb dX1_size_0 rfl (lv_at hl 0 rfl) ?_
  refine gX3_1 (v := cu.1) C hK hP rfl w130 dX1_size_1 ?_
  obtain rfl := h
  exact W.iret hx hb hr (fun t ht _ => ⟨rfl, ht⟩) (fun _ h9 => by cases h9) dX1_size_4 hlk
theorem kX1_size   {q : Int32} (h : X1_size cu = q) : Met l yX1_size (.code yX1_size cX1_size 1 (some .int) :: WA) ({ frames := 0, cells := 0, slots := 0, locals := 0 } : Room) (va_Pc [.ref (ad 3)] (PR D cy (GX cy ad tk sp nm tp kp cu se ur ab lo im sy un en ra li i2))) (QP (some (.int q))) 0 0 (fun _ => False) :=
  met_of (by decide) (Nat.le_of_ble_eq_true rfl) (fun p e s m below meth c ls C hP hK hN hl => bX1_size_0 C hK hN h hl hP)
def X1_stop (cu : Tcu)  : Int32 := cu.2.2.1
set_option maxRecDepth 20000 in
theorem bX1_stop_0 (C : Cx p s m args meth c cX1_stop 1 (some .int) RX1 (.code yX1_stop cX1_stop 1 (some .int))) (hK : va_K D vwCl (tysX cy) s) (hN : NW s)  {q : Int32}   (h : X1_stop cu = q) {ls : Array Slot} (hl : lv_has ls 1 [(0, .ref (ad 3))]) (hP : va_P D vwCl (GX cy ad tk sp nm tp kp cu se ur ab lo im sy un en ra li i2) s.heap) : W p l e ({ frames := 0, cells := 0, slots := 0, locals := 0 } : Room) s m args below meth c s.heap [] 0 0 (MQ below (QP (some (.int q))) args s 0 0 (fun _ => False)) (F0 m 0 ls []) := by
  obtain ⟨hx, hb, hml, hown, hts, hr, hlk⟩ := id C
  unfold X1_stop at h
  refine lv_aload_n hx hb dX1_stop_0 rfl (lv_at hl 0 rfl) ?_
  refine gX3_3 (v := cu.2.2.1) C hK hP rfl w132 dX1_stop_1 ?_
  obtain rfl := h
  exact W.iret hx hb hr (fun t ht _ => ⟨rfl, ht⟩) (fun _ h9 => by cases h9) dX1_stop_4 hlk
theorem kX1_stop   {q : Int32} (h : X1_stop cu = q) : Met l yX1_stop (.code yX1_stop cX1_stop 1 (some .int) :: WA) ({ frames := 0, cells := 0, slots := 0, locals := 0 } : Room) (va_Pc [.ref (ad 3)] (PR D cy (GX cy ad tk sp nm tp kp cu se ur ab lo im sy un en ra li i2))) (QP (some (.int q))) 0 0 (fun _ => False) :=
  met_of (by decide) (Nat.le_of_ble_eq_true rfl) (fun p e s m below meth c ls C hP hK hN hl => bX1_stop_0 C hK hN h hl hP)
def X1_faultNumber (cu : Tcu)  : Int32 := cu.2.2.2.1
set_option maxRecDepth 20000 in
theorem bX1_faultNumber_0 (C : Cx p s m args meth c cX1_faultNumber 1 (some .int) RX1 (.code yX1_faultNumber cX1_faultNumber 1 (some .int))) (hK : va_K D vwCl (tysX cy) s) (hN : NW s)  {q : Int32}   (h : X1_faultNumber cu = q) {ls : Array Slot} (hl : lv_has ls 1 [(0, .ref (ad 3))]) (hP : va_P D vwCl (GX cy ad tk sp nm tp kp cu se ur ab lo im sy un en ra li i2) s.heap) : W p l e ({ frames := 0, cells := 0, slots := 0, locals := 0 } : Room) s m args below meth c s.heap [] 0 0 (MQ below (QP (some (.int q))) args s 0 0 (fun _ => False)) (F0 m 0 ls []) := by
  obtain ⟨hx, hb, hml, hown, hts, hr, hlk⟩ := id C
  unfold X1_faultNumber at h
  refine lv_aload_n hx hb dX1_faultNumber_0 rfl (lv_at hl 0 rfl) ?_
  refine gX3_4 (v := cu.2.2.2.1) C hK hP rfl w133 dX1_faultNumber_1 ?_
  obtain rfl := h
  exact W.iret hx hb hr (fun t ht _ => ⟨rfl, ht⟩) (fun _ h9 => by cases h9) dX1_faultNumber_4 hlk
theorem kX1_faultNumber   {q : Int32} (h : X1_faultNumber cu = q) : Met l yX1_faultNumber (.code yX1_faultNumber cX1_faultNumber 1 (some .int) :: WA) ({ frames := 0, cells := 0, slots := 0, locals := 0 } : Room) (va_Pc [.ref (ad 3)] (PR D cy (GX cy ad tk sp nm tp kp cu se ur ab lo im sy un en ra li i2))) (QP (some (.int q))) 0 0 (fun _ => False) :=
  met_of (by decide) (Nat.le_of_ble_eq_true rfl) (fun p e s m below meth c ls C hP hK hN hl => bX1_faultNumber_0 C hK hN h hl hP)
def X1_faultPlace (cu : Tcu)  : Int32 := cu.2.2.2.2
set_option maxRecDepth 20000 in
theorem bX1_faultPlace_0 (C : Cx p s m args meth c cX1_faultPlace 1 (some .int) RX1 (.code yX1_faultPlace cX1_faultPlace 1 (some .int))) (hK : va_K D vwCl (tysX cy) s) (hN : NW s)  {q : Int32}   (h : X1_faultPlace cu = q) {ls : Array Slot} (hl : lv_has ls 1 [(0, .ref (ad 3))]) (hP : va_P D vwCl (GX cy ad tk sp nm tp kp cu se ur ab lo im sy un en ra li i2) s.heap) : W p l e ({ frames := 0, cells := 0, slots := 0, locals := 0 } : Room) s m args below meth c s.heap [] 0 0 (MQ below (QP (some (.int q))) args s 0 0 (fun _ => False)) (F0 m 0 ls []) := by
  obtain ⟨hx, hb, hml, hown, hts, hr, hlk⟩ := id C
  unfold X1_faultPlace at h
  refine lv_aload_n hx hb dX1_faultPlace_0 rfl (lv_at hl 0 rfl) ?_
  refine gX3_5 (v := cu.2.2.2.2) C hK hP rfl w134 dX1_faultPlace_1 ?_
  obtain rfl := h
  exact W.iret hx hb hr (fun t ht _ => ⟨rfl, ht⟩) (fun _ h9 => by cases h9) dX1_faultPlace_4 hlk
theorem kX1_faultPlace   {q : Int32} (h : X1_faultPlace cu = q) : Met l yX1_faultPlace (.code yX1_faultPlace cX1_faultPlace 1 (some .int) :: WA) ({ frames := 0, cells := 0, slots := 0, locals := 0 } : Room) (va_Pc [.ref (ad 3)] (PR D cy (GX cy ad tk sp nm tp kp cu se ur ab lo im sy un en ra li i2))) (QP (some (.int q))) 0 0 (fun _ => False) :=
  met_of (by decide) (Nat.le_of_ble_eq_true rfl) (fun p e s m below meth c ls C hP hK hN hl => bX1_faultPlace_0 C hK hN h hl hP)
def X1_lies (cu : Tcu) (v1 : Int64) (v3 : Int64) : Int32 := (if v1 < (0 : Int64) then (0 : Int32) else (if v3 < (0 : Int64) then (0 : Int32) else (if ((cu.1).toInt64) < v1 then (0 : Int32) else (if (((cu.1).toInt64) - v1) < v3 then (0 : Int32) else (1 : Int32)))))
set_option maxRecDepth 20000 in
theorem bX1_lies_0 (C : Cx p s m args meth c cX1_lies 5 (some .boolean) RX1 (.code yX1_lies cX1_lies 5 (some .boolean))) (hK : va_K D vwCl (tysX cy) s) (hN : NW s)  {q : Int32}  {v1 : Int64} {v3 : Int64} (h : X1_lies cu v1 v3 = q) {ls : Array Slot} (hl : lv_has ls 5 [(0, .ref (ad 3)), (1, .long v1), (3, .long v3)]) (hP : va_P D vwCl (GX cy ad tk sp nm tp kp cu se ur ab lo im sy un en ra li i2) s.heap) : W p l e ({ frames := 0, cells := 0, slots := 0, locals := 0 } : Room) s m args below meth c s.heap [] 0 0 (MQ below (QP (some (.int q))) args s 0 0 (fun _ => False)) (F0 m 0 ls []) := by
  obtain ⟨hx, hb, hml, hown, hts, hr, hlk⟩ := id C
  unfold X1_lies at h
  refine lv_lload_n hx hb dX1_lies_0 rfl (lv_at hl 1 rfl) ?_
  refine lv_lconst (v := (0 : Int64)) hx hb dX1_lies_1 (by decide) ?_
  refine lc_lt (tgt := 38) hx hb dX1_lies_2 dX1_lies_3 (by decide) (fun c1 => ?_) (fun c1 => ?_)
  · rw [if_pos c1] at h
    refine lv_iconst (v := (0 : Int32)) hx hb dX1_lies_38 (by decide) ?_
    obtain rfl := h
    exact W.zret (ty := .boolean) hx hb hr (by decide) (fun t ht _ => ⟨rfl, ht⟩) (fun _ h9 => by cases h9) dX1_lies_39 hlk
  · rw [if_neg c1] at h
    refine lv_lload_n hx hb dX1_lies_6 rfl (lv_at hl 2 rfl) ?_
    refine lv_lconst (v := (0 : Int64)) hx hb dX1_lies_7 (by decide) ?_
    refine lc_lt (tgt := 38) hx hb dX1_lies_8 dX1_lies_9 (by decide) (fun c2 => ?_) (fun c2 => ?_)
    · rw [if_pos c2] at h
      refine lv_iconst (v := (0 : Int32)) hx hb dX1_lies_38 (by decide) ?_
      obtain rfl := h
      exact W.zret (ty := .boolean) hx hb hr (by decide) (fun t ht _ => ⟨rfl, ht⟩) (fun _ h9 => by cases h9) dX1_lies_39 hlk
    · rw [if_neg c2] at h
      refine lv_lload_n hx hb dX1_lies_12 rfl (lv_at hl 1 rfl) ?_
      refine lv_aload_n hx hb dX1_lies_13 rfl (lv_at hl 0 rfl) ?_
      refine gX3_1 (v := cu.1) C hK hP rfl w130 dX1_lies_14 ?_
      refine lv_i2l (v := ((cu.1).toInt64)) hx hb dX1_lies_17 rfl ?_
      refine lc_gt (tgt := 38) hx hb dX1_lies_18 dX1_lies_19 (by decide) (fun c3 => ?_) (fun c3 => ?_)
      · rw [if_pos c3] at h
        refine lv_iconst (v := (0 : Int32)) hx hb dX1_lies_38 (by decide) ?_
        obtain rfl := h
        exact W.zret (ty := .boolean) hx hb hr (by decide) (fun t ht _ => ⟨rfl, ht⟩) (fun _ h9 => by cases h9) dX1_lies_39 hlk
      · rw [if_neg c3] at h
        refine lv_lload_n hx hb dX1_lies_22 rfl (lv_at hl 2 rfl) ?_
        refine lv_aload_n hx hb dX1_lies_23 rfl (lv_at hl 0 rfl) ?_
        refine gX3_1 (v := cu.1) C hK hP rfl w130 dX1_lies_24 ?_
        refine lv_i2l (v := ((cu.1).toInt64)) hx hb dX1_lies_27 rfl ?_
        refine lv_lload_n hx hb dX1_lies_28 rfl (lv_at hl 1 rfl) ?_
        refine lv_lsub hx hb dX1_lies_29 ?_
        refine lc_gt (tgt := 38) hx hb dX1_lies_30 dX1_lies_31 (by decide) (fun c4 => ?_) (fun c4 => ?_)
        · rw [if_pos c4] at h
          refine lv_iconst (v := (0 : Int32)) hx hb dX1_lies_38 (by decide) ?_
          obtain rfl := h
          exact W.zret (ty := .boolean) hx hb hr (by decide) (fun t ht _ => ⟨rfl, ht⟩) (fun _ h9 => by cases h9) dX1_lies_39 hlk
        · rw [if_neg c4] at h
          refine lv_iconst (v := (1 : Int32)) hx hb dX1_lies_34 (by decide) ?_
          refine lv_goto (tgt := 39) hx hb dX1_lies_35 (by decide) ?_
          obtain rfl := h
          exact W.zret (ty := .boolean) hx hb hr (by decide) (fun t ht _ => ⟨rfl, ht⟩) (fun _ h9 => by cases h9) dX1_lies_39 hlk
theorem kX1_lies  {v1 : Int64} {v3 : Int64} {q : Int32} (h : X1_lies cu v1 v3 = q) : Met l yX1_lies (.code yX1_lies cX1_lies 5 (some .boolean) :: WA) ({ frames := 0, cells := 0, slots := 0, locals := 0 } : Room) (va_Pc [.ref (ad 3), .long v1, .long v3] (PR D cy (GX cy ad tk sp nm tp kp cu se ur ab lo im sy un en ra li i2))) (QP (some (.int q))) 0 0 (fun _ => False) :=
  met_of (by decide) (Nat.le_of_ble_eq_true rfl) (fun p e s m below meth c ls C hP hK hN hl => bX1_lies_0 C hK hN h hl hP)
def X1_expectUleb (tp : Ttp) (cu : Tcu) (v1 : Int64) : Option (Tcu) := ((X1_uleb tp cu).bind fun q1 => (if q1.1 = v1 then some q1.2 else (letq (X1_refuse q1.2 (2 : Int32) cu.2.1) fun q4 => some q4)))
set_option maxRecDepth 20000 in
theorem bX1_expectUleb_0 (C : Cx p s m args meth c cX1_expectUleb 4 none RX1 (.code yX1_expectUleb cX1_expectUleb 4 none)) (hI : Apart ad 89) (hK : va_K D vwCl (tysX cy) s) (hN : NW s)  {q : Tcu}  {v1 : Int64} (h : X1_expectUleb tp cu v1 = some q) {ls : Array Slot} (hl : lv_has ls 4 [(0, .ref (ad 3)), (1, .long v1)]) {H : Heap} {locs : List Loc} (hP : va_P D vwCl (GX cy ad tk sp nm tp kp cu se ur ab lo im sy un en ra li i2) H) (hS : va_S (Ac ad 89) s.heap H locs) : W p l e ({ frames := 2, cells := 0, slots := 0, locals := 46 } : Room) s m args below meth c H locs 0 0 (MQ below (QR none D (GX cy ad tk sp nm tp kp q se ur ab lo im sy un en ra li i2) (Ac ad 89)) args s 0 0 (Ac ad 89)) (F0 m 0 ls []) := by
  obtain ⟨hx, hb, hml, hown, hts, hr, hlk⟩ := id C
  unfold X1_expectUleb at h
  refine lv_aload_n hx hb dX1_expectUleb_0 rfl (lv_at hl 0 rfl) ?_
  refine gX3_2 (v := cu.2.1) C hK hP rfl w131 dX1_expectUleb_1 ?_
  refine lv_istore_n (lv' := [(3, .int cu.2.1), (0, .ref (ad 3)), (1, .long v1)]) hx hb dX1_expectUleb_4 rfl hl (by decide) rfl (fun ls hl => ?_)
  refine lv_aload_n hx hb dX1_expectUleb_5 rfl (lv_at hl 1 rfl) ?_
  obtain ⟨q1, h2, h⟩ := bnd h
  refine cRl (run_V (rest := []) C (kX1_uleb hI h2) caX1_uleb w800 ⟨rfl, rfl, Nat.le_of_ble_eq_true rfl, Nat.le_of_ble_eq_true rfl⟩ hK hN hP (rX3 hK hP) rfl hl.1 rfl (Nat.le_of_ble_eq_true rfl) dX1_expectUleb_6 ⟨Nat.zero_le _, Nat.zero_le _⟩) hS (fun H locs hP hS => ?_)
  have hP : va_P D vwCl (GX cy ad tk sp nm tp kp q1.2 se ur ab lo im sy un en ra li i2) H := hP
  refine lv_lload_n hx hb dX1_expectUleb_9 rfl (lv_at hl 2 rfl) ?_
  refine lc_eq (tgt := 20) hx hb dX1_expectUleb_10 dX1_expectUleb_11 (by decide) (fun c3 => ?_) (fun c3 => ?_)
  · rw [if_pos c3] at h
    obtain rfl := Option.some.inj h
    exact W.vret hx hb hr (fun t ht _ => ⟨rfl, by rw [ht]; exact hP, hS.F ht⟩) hS.2.2 dX1_expectUleb_20 hlk
  · rw [if_neg c3] at h
    refine lv_aload_n hx hb dX1_expectUleb_14 rfl (lv_at hl 1 rfl) ?_
    refine lv_iconst (v := (2 : Int32)) hx hb dX1_expectUleb_15 (by decide) ?_
    refine lv_iload_n hx hb dX1_expectUleb_16 rfl (lv_at hl 0 rfl) ?_
    obtain ⟨q4, h5, h⟩ := lets h
    refine cRv (run_V (rest := []) C (kX1_refuse hI h5) caX1_refuse w596 ⟨rfl, rfl, Nat.le_of_ble_eq_true rfl, Nat.le_of_ble_eq_true rfl⟩ hK hN hP (rX3 hK hP) rfl hl.1 rfl (Nat.le_of_ble_eq_true rfl) dX1_expectUleb_17 ⟨Nat.zero_le _, Nat.zero_le _⟩) hS (fun H locs hP hS => ?_)
    have hP : va_P D vwCl (GX cy ad tk sp nm tp kp q4 se ur ab lo im sy un en ra li i2) H := hP
    obtain rfl := Option.some.inj h
    exact W.vret hx hb hr (fun t ht _ => ⟨rfl, by rw [ht]; exact hP, hS.F ht⟩) hS.2.2 dX1_expectUleb_20 hlk
theorem kX1_expectUleb (hI : Apart ad 89) {v1 : Int64} {q : Tcu} (h : X1_expectUleb tp cu v1 = some q) : Met l yX1_expectUleb (.code yX1_expectUleb cX1_expectUleb 4 none :: WA) ({ frames := 2, cells := 0, slots := 0, locals := 46 } : Room) (va_Pc [.ref (ad 3), .long v1] (PR D cy (GX cy ad tk sp nm tp kp cu se ur ab lo im sy un en ra li i2))) (QR none D (GX cy ad tk sp nm tp kp q se ur ab lo im sy un en ra li i2) (Ac ad 89)) 0 0 (Ac ad 89) :=
  met_of (by decide) (Nat.le_of_ble_eq_true rfl) (fun p e s m below meth c ls C hP hK hN hl => bX1_expectUleb_0 C hI hK hN h hl hP va_S.rf)
def X1_textLength_33 (tp : Ttp) (k2 : Int32 → Int32 → Int32 → Option (Int32))  (v1 : Int32) (v2 : Int32) (v3 : Int32) : Option (Int32) := k2 v1 v2 (v3 + (1 : Int32))
set_option maxRecDepth 20000 in
theorem bX1_textLength_33 (C : Cx p s m args meth c cX1_textLength 4 (some .int) RX1 (.code yX1_textLength cX1_textLength 4 (some .int))) (hK : va_K D vwCl (tysX cy) s) (hN : NW s) {k2 : Int32 → Int32 → Int32 → Option (Int32)} {q : Int32} (hk2 : ∀  {v1 : Int32} {v2 : Int32} {v3 : Int32}, k2 v1 v2 v3 = some q → ∀ {ls : Array Slot}, lv_has ls 4 [(0, .ref (ad 3)), (1, .int v1), (2, .int v2), (3, .int v3)] → va_P D vwCl (GX cy ad tk sp nm tp kp cu se ur ab lo im sy un en ra li i2) s.heap → W p l e ({ frames := 0, cells := 0, slots := 0, locals := 0 } : Room) s m args below meth c s.heap [] 0 0 (MQ below (QP (some (.int q))) args s 0 0 (fun _ => False)) (F0 m 2 ls [])) {v1 : Int32} {v2 : Int32} {v3 : Int32} (h : X1_textLength_33 tp k2 v1 v2 v3 = some q) {ls : Array Slot} (hl : lv_has ls 4 [(0, .ref (ad 3)), (1, .int v1), (2, .int v2), (3, .int v3)]) (hP : va_P D vwCl (GX cy ad tk sp nm tp kp cu se ur ab lo im sy un en ra li i2) s.heap) : W p l e ({ frames := 0, cells := 0, slots := 0, locals := 0 } : Room) s m args below meth c s.heap [] 0 0 (MQ below (QP (some (.int q))) args s 0 0 (fun _ => False)) (F0 m 33 ls []) := by
  obtain ⟨hx, hb, hml, hown, hts, hr, hlk⟩ := id C
  unfold X1_textLength_33 at h
  refine lv_iinc (v := (v3 + (1 : Int32))) (lv' := [(3, .int (v3 + (1 : Int32))), (0, .ref (ad 3)), (1, .int v1), (2, .int v2)]) hx hb dX1_textLength_33 hl (k := 3) rfl rfl (by decide) rfl (fun ls hl => ?_)
  refine lv_goto (tgt := 2) hx hb dX1_textLength_36 (by decide) ?_
  exact hk2 h (lv_sub hl [1, 2, 3, 0] rfl) hP
def X1_textLength_2b (tp : Ttp)  (k2 : Int32 → Int32 → Int32 → Option (Int32))  (v1 : Int32) (v2 : Int32) (v3 : Int32) : Option (Int32) := (if v3 < v2 then (if v3 < 0 then X1_textLength_33 tp k2 v1 v2 v3 else (if v3 < (8000 : Int32) then (if inb v3 8000 = true then (if (tp (v3).toNatClampNeg) = 0 then some (v3 - v1) else X1_textLength_33 tp k2 v1 v2 v3) else none) else X1_textLength_33 tp k2 v1 v2 v3)) else some (-1 : Int32))
def X1_textLength_2 (tp : Ttp)  (n : Nat) (st : Int32 × Int32 × Int32) : Option (Int32) := lp (fun rec st => X1_textLength_2b tp  (fun a0 a1 a2 => rec (a0, a1, a2)) st.1 st.2.1 st.2.2) n st
set_option maxRecDepth 20000 in
theorem bX1_textLength_2 (C : Cx p s m args meth c cX1_textLength 4 (some .int) RX1 (.code yX1_textLength cX1_textLength 4 (some .int))) (hK : va_K D vwCl (tysX cy) s) (hN : NW s)  {q : Int32}  : ∀ (n : Nat)  {v1 : Int32} {v2 : Int32} {v3 : Int32}, X1_textLength_2 tp  n (v1, v2, v3) = some q → ∀ {ls : Array Slot}, lv_has ls 4 [(0, .ref (ad 3)), (1, .int v1), (2, .int v2), (3, .int v3)] → va_P D vwCl (GX cy ad tk sp nm tp kp cu se ur ab lo im sy un en ra li i2) s.heap → W p l e ({ frames := 0, cells := 0, slots := 0, locals := 0 } : Room) s m args below meth c s.heap [] 0 0 (MQ below (QP (some (.int q))) args s 0 0 (fun _ => False)) (F0 m 2 ls []) := by
  obtain ⟨hx, hb, hml, hown, hts, hr, hlk⟩ := id C
  intro n
  induction n with
  | zero =>
    intro v1 v2 v3 h ls hl hP
    have h : (none : Option (Int32)) = some q := h
    cases h
  | succ n ih =>
    intro v1 v2 v3 h ls hl hP
    have h : X1_textLength_2b tp  (fun a0 a1 a2 => X1_textLength_2 tp  n (a0, a1, a2)) v1 v2 v3 = some q := h
    unfold X1_textLength_2b at h
    refine lv_iload_n hx hb dX1_textLength_2 rfl (lv_at hl 3 rfl) ?_
    refine lv_iload_n hx hb dX1_textLength_3 rfl (lv_at hl 2 rfl) ?_
    refine b_icmp_ge (tgt := 39) hx hb dX1_textLength_4 (by decide) (fun c1 => ?_) (fun c1 => ?_)
    · rw [if_neg c1] at h
      refine lv_iconst (v := (-1 : Int32)) hx hb dX1_textLength_39 (by decide) ?_
      obtain rfl := Option.some.inj h
      exact W.iret hx hb hr (fun t ht _ => ⟨rfl, ht⟩) (fun _ h9 => by cases h9) dX1_textLength_40 hlk
    · rw [if_pos c1] at h
      refine lv_iload_n hx hb dX1_textLength_7 rfl (lv_at hl 3 rfl) ?_
      refine lv_if_lt (tgt := 33) hx hb dX1_textLength_8 (by decide) (fun c2 => ?_) (fun c2 => ?_)
      · rw [if_pos c2] at h
        exact bX1_textLength_33 C hK hN @ih h (lv_sub hl [0, 1, 2, 3] rfl) hP
      · rw [if_neg c2] at h
        refine lv_iload_n hx hb dX1_textLength_11 rfl (lv_at hl 3 rfl) ?_
        refine lv_aload_n hx hb dX1_textLength_12 rfl (lv_at hl 0 rfl) ?_
        refine gX3_0 C hK hP w129 dX1_textLength_13 ?_
        refine lX1 C hK hP dX1_textLength_16 ?_
        refine b_icmp_ge (tgt := 33) hx hb dX1_textLength_17 (by decide) (fun c3 => ?_) (fun c3 => ?_)
        · rw [if_neg c3] at h
          exact bX1_textLength_33 C hK hN @ih h (lv_sub hl [0, 1, 2, 3] rfl) hP
        · rw [if_pos c3] at h
          refine lv_aload_n hx hb dX1_textLength_20 rfl (lv_at hl 0 rfl) ?_
          refine gX3_0 C hK hP w129 dX1_textLength_21 ?_
          refine lv_iload_n hx hb dX1_textLength_24 rfl (lv_at hl 3 rfl) ?_
          obtain ⟨n4, h⟩ := grd h
          refine aX1 (f := tp) C hK hP rfl n4 dX1_textLength_25 ?_
          refine lv_if_ne (tgt := 33) hx hb dX1_textLength_26 (by decide) (fun c5 => ?_) (fun c5 => ?_)
          · rw [if_neg c5] at h
            exact bX1_textLength_33 C hK hN @ih h (lv_sub hl [0, 1, 2, 3] rfl) hP
          · rw [if_pos c5] at h
            refine lv_iload_n hx hb dX1_textLength_29 rfl (lv_at hl 3 rfl) ?_
            refine lv_iload_n hx hb dX1_textLength_30 rfl (lv_at hl 1 rfl) ?_
            refine lv_isub hx hb dX1_textLength_31 ?_
            obtain rfl := Option.some.inj h
            exact W.iret hx hb hr (fun t ht _ => ⟨rfl, ht⟩) (fun _ h9 => by cases h9) dX1_textLength_32 hlk
def X1_textLength (tp : Ttp) (v1 : Int32) (v2 : Int32) : Option (Int32) := X1_textLength_2 tp FU (v1, v2, v1)
set_option maxRecDepth 20000 in
theorem bX1_textLength_0 (C : Cx p s m args meth c cX1_textLength 4 (some .int) RX1 (.code yX1_textLength cX1_textLength 4 (some .int))) (hK : va_K D vwCl (tysX cy) s) (hN : NW s)  {q : Int32}  {v1 : Int32} {v2 : Int32} (h : X1_textLength tp v1 v2 = some q) {ls : Array Slot} (hl : lv_has ls 4 [(0, .ref (ad 3)), (1, .int v1), (2, .int v2)]) (hP : va_P D vwCl (GX cy ad tk sp nm tp kp cu se ur ab lo im sy un en ra li i2) s.heap) : W p l e ({ frames := 0, cells := 0, slots := 0, locals := 0 } : Room) s m args below meth c s.heap [] 0 0 (MQ below (QP (some (.int q))) args s 0 0 (fun _ => False)) (F0 m 0 ls []) := by
  obtain ⟨hx, hb, hml, hown, hts, hr, hlk⟩ := id C
  unfold X1_textLength at h
  refine lv_iload_n hx hb dX1_textLength_0 rfl (lv_at hl 1 rfl) ?_
  refine lv_istore_n (lv' := [(3, .int v1), (0, .ref (ad 3)), (1, .int v1), (2, .int v2)]) hx hb dX1_textLength_1 rfl hl (by decide) rfl (fun ls hl => ?_)
  exact bX1_textLength_2 C hK hN FU h (lv_sub hl [1, 2, 3, 0] rfl) hP
theorem kX1_textLength  {v1 : Int32} {v2 : Int32} {q : Int32} (h : X1_textLength tp v1 v2 = some q) : Met l yX1_textLength (.code yX1_textLength cX1_textLength 4 (some .int) :: WA) ({ frames := 0, cells := 0, slots := 0, locals := 0 } : Room) (va_Pc [.ref (ad 3), .int v1, .int v2] (PR D cy (GX cy ad tk sp nm tp kp cu se ur ab lo im sy un en ra li i2))) (QP (some (.int q))) 0 0 (fun _ => False) :=
  met_of (by decide) (Nat.le_of_ble_eq_true rfl) (fun p e s m below meth c ls C hP hK hN hl => bX1_textLength_0 C hK hN h hl hP)
def X1_text (tp : Ttp) (cu : Tcu)  : Option (Int32 × Tcu) := (if (X1_sound cu) = 0 then some ((0 : Int32), cu) else ((X1_textLength tp cu.2.1 cu.2.2.1).bind fun q2 => (if q2 = (-1 : Int32) then (letq (X1_refuse cu (1 : Int32) cu.2.1) fun q5 => some ((0 : Int32), q5)) else some (q2, (cu.1, (cu.2.1 + (q2 + (1 : Int32))), cu.2.2.1, cu.2.2.2.1, cu.2.2.2.2)))))
set_option maxRecDepth 20000 in
theorem bX1_text_0 (C : Cx p s m args meth c cX1_text 2 (some .int) RX1 (.code yX1_text cX1_text 2 (some .int))) (hI : Apart ad 89) (hK : va_K D vwCl (tysX cy) s) (hN : NW s)  {q : Int32 × Tcu}   (h : X1_text tp cu = some q) {ls : Array Slot} (hl : lv_has ls 2 [(0, .ref (ad 3))]) {H : Heap} {locs : List Loc} (hP : va_P D vwCl (GX cy ad tk sp nm tp kp cu se ur ab lo im sy un en ra li i2) H) (hS : va_S (Ac ad 89) s.heap H locs) : W p l e ({ frames := 1, cells := 0, slots := 0, locals := 23 } : Room) s m args below meth c H locs 0 0 (MQ below (QR (some (.int q.1)) D (GX cy ad tk sp nm tp kp q.2 se ur ab lo im sy un en ra li i2) (Ac ad 89)) args s 0 0 (Ac ad 89)) (F0 m 0 ls []) := by
  obtain ⟨hx, hb, hml, hown, hts, hr, hlk⟩ := id C
  unfold X1_text at h
  refine lv_aload_n hx hb dX1_text_0 rfl (lv_at hl 0 rfl) ?_
  refine cPi (run_V (rest := []) C (kX1_sound rfl) caX1_sound w721 ⟨rfl, rfl, Nat.le_of_ble_eq_true rfl, Nat.le_of_ble_eq_true rfl⟩ hK hN hP (rX3 hK hP) rfl hl.1 rfl (Nat.le_of_ble_eq_true rfl) dX1_text_1 ⟨Nat.zero_le _, Nat.zero_le _⟩) ?_
  refine lv_if_ne (tgt := 9) hx hb dX1_text_4 (by decide) (fun c1 => ?_) (fun c1 => ?_)
  · rw [if_neg c1] at h
    refine lv_aload_n hx hb dX1_text_9 rfl (lv_at hl 0 rfl) ?_
    refine lv_aload_n hx hb dX1_text_10 rfl (lv_at hl 0 rfl) ?_
    refine gX3_2 (v := cu.2.1) C hK hP rfl w131 dX1_text_11 ?_
    refine lv_aload_n hx hb dX1_text_14 rfl (lv_at hl 0 rfl) ?_
    refine gX3_3 (v := cu.2.2.1) C hK hP rfl w132 dX1_text_15 ?_
    obtain ⟨q2, h3, h⟩ := bnd h
    refine cPi (run_V (rest := []) C (kX1_textLength h3) caX1_textLength w597 ⟨rfl, rfl, Nat.le_of_ble_eq_true rfl, Nat.le_of_ble_eq_true rfl⟩ hK hN hP (rX3 hK hP) rfl hl.1 rfl (Nat.le_of_ble_eq_true rfl) dX1_text_18 ⟨Nat.zero_le _, Nat.zero_le _⟩) ?_
    refine lv_istore_n (lv' := [(1, .int q2), (0, .ref (ad 3))]) hx hb dX1_text_21 rfl hl (by decide) rfl (fun ls hl => ?_)
    refine lv_iload_n hx hb dX1_text_22 rfl (lv_at hl 0 rfl) ?_
    refine lv_iconst (v := (-1 : Int32)) hx hb dX1_text_23 (by decide) ?_
    refine lv_icmp_ne (tgt := 38) hx hb dX1_text_24 (by decide) (fun c4 => ?_) (fun c4 => ?_)
    · rw [if_neg c4] at h
      refine lv_aload_n hx hb dX1_text_38 rfl (lv_at hl 1 rfl) ?_
      refine lv_dup hx hb dX1_text_39 rfl ?_
      refine gX3_2 (v := cu.2.1) C hK hP rfl w131 dX1_text_40 ?_
      refine lv_iload_n hx hb dX1_text_43 rfl (lv_at hl 0 rfl) ?_
      refine lv_iconst (v := (1 : Int32)) hx hb dX1_text_44 (by decide) ?_
      refine lv_iadd hx hb dX1_text_45 ?_
      refine lv_iadd hx hb dX1_text_46 ?_
      refine pX3_2 (v := (cu.2.1 + (q2 + (1 : Int32)))) C hI hK hP hS w131 dX1_text_47 (fun H locs hP hS => ?_)
      have hP : va_P D vwCl (GX cy ad tk sp nm tp kp (cu.1, (cu.2.1 + (q2 + (1 : Int32))), cu.2.2.1, cu.2.2.2.1, cu.2.2.2.2) se ur ab lo im sy un en ra li i2) H := hP
      refine lv_iload_n hx hb dX1_text_50 rfl (lv_at hl 0 rfl) ?_
      obtain rfl := Option.some.inj h
      exact W.iret hx hb hr (fun t ht _ => ⟨rfl, by rw [ht]; exact hP, hS.F ht⟩) hS.2.2 dX1_text_51 hlk
    · rw [if_pos c4] at h
      refine lv_aload_n hx hb dX1_text_27 rfl (lv_at hl 1 rfl) ?_
      refine lv_iconst (v := (1 : Int32)) hx hb dX1_text_28 (by decide) ?_
      refine lv_aload_n hx hb dX1_text_29 rfl (lv_at hl 1 rfl) ?_
      refine gX3_2 (v := cu.2.1) C hK hP rfl w131 dX1_text_30 ?_
      obtain ⟨q5, h6, h⟩ := lets h
      refine cRv (run_V (rest := []) C (kX1_refuse hI h6) caX1_refuse w596 ⟨rfl, rfl, Nat.le_of_ble_eq_true rfl, Nat.le_of_ble_eq_true rfl⟩ hK hN hP (rX3 hK hP) rfl hl.1 rfl (Nat.le_of_ble_eq_true rfl) dX1_text_33 ⟨Nat.zero_le _, Nat.zero_le _⟩) hS (fun H locs hP hS => ?_)
      have hP : va_P D vwCl (GX cy ad tk sp nm tp kp q5 se ur ab lo im sy un en ra li i2) H := hP
      refine lv_iconst (v := (0 : Int32)) hx hb dX1_text_36 (by decide) ?_
      obtain rfl := Option.some.inj h
      exact W.iret hx hb hr (fun t ht _ => ⟨rfl, by rw [ht]; exact hP, hS.F ht⟩) hS.2.2 dX1_text_37 hlk
  · rw [if_pos c1] at h
    refine lv_iconst (v := (0 : Int32)) hx hb dX1_text_7 (by decide) ?_
    obtain rfl := Option.some.inj h
    exact W.iret hx hb hr (fun t ht _ => ⟨rfl, by rw [ht]; exact hP, hS.F ht⟩) hS.2.2 dX1_text_8 hlk
theorem kX1_text (hI : Apart ad 89)  {q : Int32 × Tcu} (h : X1_text tp cu = some q) : Met l yX1_text (.code yX1_text cX1_text 2 (some .int) :: WA) ({ frames := 1, cells := 0, slots := 0, locals := 23 } : Room) (va_Pc [.ref (ad 3)] (PR D cy (GX cy ad tk sp nm tp kp cu se ur ab lo im sy un en ra li i2))) (QR (some (.int q.1)) D (GX cy ad tk sp nm tp kp q.2 se ur ab lo im sy un en ra li i2) (Ac ad 89)) 0 0 (Ac ad 89) :=
  met_of (by decide) (Nat.le_of_ble_eq_true rfl) (fun p e s m below meth c ls C hP hK hN hl => bX1_text_0 C hI hK hN h hl hP va_S.rf)
def X1_toldText_15 (tp : Ttp)  (cu : Tcu) (v5 : Int32) : Option (Int32 × Tcu) := (letq (X1_refuse cu (3 : Int32) v5) fun q1 => some ((0 : Int32), q1))
set_option maxRecDepth 20000 in
theorem bX1_toldText_15 (C : Cx p s m args meth c cX1_toldText 7 (some .int) RX1 (.code yX1_toldText cX1_toldText 7 (some .int))) (hI : Apart ad 89) (hK : va_K D vwCl (tysX cy) s) (hN : NW s)  {q : Int32 × Tcu}  {v5 : Int32} (h : X1_toldText_15 tp cu v5 = some q) {ls : Array Slot} (hl : lv_has ls 7 [(0, .ref (ad 3)), (5, .int v5)]) {H : Heap} {locs : List Loc} (hP : va_P D vwCl (GX cy ad tk sp nm tp kp cu se ur ab lo im sy un en ra li i2) H) (hS : va_S (Ac ad 89) s.heap H locs) : W p l e ({ frames := 1, cells := 0, slots := 0, locals := 23 } : Room) s m args below meth c H locs 0 0 (MQ below (QR (some (.int q.1)) D (GX cy ad tk sp nm tp kp q.2 se ur ab lo im sy un en ra li i2) (Ac ad 89)) args s 0 0 (Ac ad 89)) (F0 m 15 ls []) := by
  obtain ⟨hx, hb, hml, hown, hts, hr, hlk⟩ := id C
  unfold X1_toldText_15 at h
  refine lv_aload_n hx hb dX1_toldText_15 rfl (lv_at hl 0 rfl) ?_
  refine lv_iconst (v := (3 : Int32)) hx hb dX1_toldText_16 (by decide) ?_
  refine lv_iload hx hb dX1_toldText_17 (lv_at hl 1 rfl) ?_
  obtain ⟨q1, h2, h⟩ := lets h
  refine cRv (run_V (rest := []) C (kX1_refuse hI h2) caX1_refuse w596 ⟨rfl, rfl, Nat.le_of_ble_eq_true rfl, Nat.le_of_ble_eq_true rfl⟩ hK hN hP (rX3 hK hP) rfl hl.1 rfl (Nat.le_of_ble_eq_true rfl) dX1_toldText_19 ⟨Nat.zero_le _, Nat.zero_le _⟩) hS (fun H locs hP hS => ?_)
  have hP : va_P D vwCl (GX cy ad tk sp nm tp kp q1 se ur ab lo im sy un en ra li i2) H := hP
  refine lv_iconst (v := (0 : Int32)) hx hb dX1_toldText_22 (by decide) ?_
  obtain rfl := Option.some.inj h
  exact W.iret hx hb hr (fun t ht _ => ⟨rfl, by rw [ht]; exact hP, hS.F ht⟩) hS.2.2 dX1_toldText_23 hlk
def X1_toldText (tp : Ttp) (cu : Tcu) (v1 : Int32) (v2 : Int32) (v3 : Int64) (v5 : Int32) : Option (Int32 × Tcu) := (if v3 < (0 : Int64) then X1_toldText_15 tp cu v5 else (if v3 < (((v2 - v1)).toInt64) then ((X1_textLength tp (v1 + ((v3).toInt32)) v2).bind fun q3 => (if q3 = (-1 : Int32) then (letq (X1_refuse cu (1 : Int32) v5) fun q6 => some ((0 : Int32), q6)) else some (q3, cu))) else X1_toldText_15 tp cu v5))
set_option maxRecDepth 20000 in
theorem bX1_toldText_0 (C : Cx p s m args meth c cX1_toldText 7 (some .int) RX1 (.code yX1_toldText cX1_toldText 7 (some .int))) (hI : Apart ad 89) (hK : va_K D vwCl (tysX cy) s) (hN : NW s)  {q : Int32 × Tcu}  {v1 : Int32} {v2 : Int32} {v3 : Int64} {v5 : Int32} (h : X1_toldText tp cu v1 v2 v3 v5 = some q) {ls : Array Slot} (hl : lv_has ls 7 [(0, .ref (ad 3)), (1, .int v1), (2, .int v2), (3, .long v3), (5, .int v5)]) {H : Heap} {locs : List Loc} (hP : va_P D vwCl (GX cy ad tk sp nm tp kp cu se ur ab lo im sy un en ra li i2) H) (hS : va_S (Ac ad 89) s.heap H locs) : W p l e ({ frames := 1, cells := 0, slots := 0, locals := 23 } : Room) s m args below meth c H locs 0 0 (MQ below (QR (some (.int q.1)) D (GX cy ad tk sp nm tp kp q.2 se ur ab lo im sy un en ra li i2) (Ac ad 89)) args s 0 0 (Ac ad 89)) (F0 m 0 ls []) := by
  obtain ⟨hx, hb, hml, hown, hts, hr, hlk⟩ := id C
  unfold X1_toldText at h
  refine lv_lload_n hx hb dX1_toldText_0 rfl (lv_at hl 3 rfl) ?_
  refine lv_lconst (v := (0 : Int64)) hx hb dX1_toldText_1 (by decide) ?_
  refine lc_lt (tgt := 15) hx hb dX1_toldText_2 dX1_toldText_3 (by decide) (fun c1 => ?_) (fun c1 => ?_)
  · rw [if_pos c1] at h
    exact bX1_toldText_15 C hI hK hN h (lv_sub hl [0, 4] rfl) hP hS
  · rw [if_neg c1] at h
    refine lv_lload_n hx hb dX1_toldText_6 rfl (lv_at hl 3 rfl) ?_
    refine lv_iload_n hx hb dX1_toldText_7 rfl (lv_at hl 2 rfl) ?_
    refine lv_iload_n hx hb dX1_toldText_8 rfl (lv_at hl 1 rfl) ?_
    refine lv_isub hx hb dX1_toldText_9 ?_
    refine lv_i2l (v := (((v2 - v1)).toInt64)) hx hb dX1_toldText_10 rfl ?_
    refine lc_lt (tgt := 24) hx hb dX1_toldText_11 dX1_toldText_12 (by decide) (fun c2 => ?_) (fun c2 => ?_)
    · rw [if_pos c2] at h
      refine lv_aload_n hx hb dX1_toldText_24 rfl (lv_at hl 0 rfl) ?_
      refine lv_iload_n hx hb dX1_toldText_25 rfl (lv_at hl 1 rfl) ?_
      refine lv_lload_n hx hb dX1_toldText_26 rfl (lv_at hl 3 rfl) ?_
      refine lv_l2i (v := ((v3).toInt32)) hx hb dX1_toldText_27 rfl ?_
      refine lv_iadd hx hb dX1_toldText_28 ?_
      refine lv_iload_n hx hb dX1_toldText_29 rfl (lv_at hl 2 rfl) ?_
      obtain ⟨q3, h4, h⟩ := bnd h
      refine cPi (run_V (rest := []) C (kX1_textLength h4) caX1_textLength w597 ⟨rfl, rfl, Nat.le_of_ble_eq_true rfl, Nat.le_of_ble_eq_true rfl⟩ hK hN hP (rX3 hK hP) rfl hl.1 rfl (Nat.le_of_ble_eq_true rfl) dX1_toldText_30 ⟨Nat.zero_le _, Nat.zero_le _⟩) ?_
      refine lv_istore (lv' := [(6, .int q3), (0, .ref (ad 3)), (1, .int v1), (2, .int v2), (3, .long v3), (5, .int v5)]) hx hb dX1_toldText_33 hl (by decide) rfl (fun ls hl => ?_)
      refine lv_iload hx hb dX1_toldText_35 (lv_at hl 0 rfl) ?_
      refine lv_iconst (v := (-1 : Int32)) hx hb dX1_toldText_37 (by decide) ?_
      refine lv_icmp_ne (tgt := 50) hx hb dX1_toldText_38 (by decide) (fun c5 => ?_) (fun c5 => ?_)
      · rw [if_neg c5] at h
        refine lv_iload hx hb dX1_toldText_50 (lv_at hl 0 rfl) ?_
        obtain rfl := Option.some.inj h
        exact W.iret hx hb hr (fun t ht _ => ⟨rfl, by rw [ht]; exact hP, hS.F ht⟩) hS.2.2 dX1_toldText_52 hlk
      · rw [if_pos c5] at h
        refine lv_aload_n hx hb dX1_toldText_41 rfl (lv_at hl 1 rfl) ?_
        refine lv_iconst (v := (1 : Int32)) hx hb dX1_toldText_42 (by decide) ?_
        refine lv_iload hx hb dX1_toldText_43 (lv_at hl 5 rfl) ?_
        obtain ⟨q6, h7, h⟩ := lets h
        refine cRv (run_V (rest := []) C (kX1_refuse hI h7) caX1_refuse w596 ⟨rfl, rfl, Nat.le_of_ble_eq_true rfl, Nat.le_of_ble_eq_true rfl⟩ hK hN hP (rX3 hK hP) rfl hl.1 rfl (Nat.le_of_ble_eq_true rfl) dX1_toldText_45 ⟨Nat.zero_le _, Nat.zero_le _⟩) hS (fun H locs hP hS => ?_)
        have hP : va_P D vwCl (GX cy ad tk sp nm tp kp q6 se ur ab lo im sy un en ra li i2) H := hP
        refine lv_iconst (v := (0 : Int32)) hx hb dX1_toldText_48 (by decide) ?_
        obtain rfl := Option.some.inj h
        exact W.iret hx hb hr (fun t ht _ => ⟨rfl, by rw [ht]; exact hP, hS.F ht⟩) hS.2.2 dX1_toldText_49 hlk
    · rw [if_neg c2] at h
      exact bX1_toldText_15 C hI hK hN h (lv_sub hl [0, 4] rfl) hP hS
theorem kX1_toldText (hI : Apart ad 89) {v1 : Int32} {v2 : Int32} {v3 : Int64} {v5 : Int32} {q : Int32 × Tcu} (h : X1_toldText tp cu v1 v2 v3 v5 = some q) : Met l yX1_toldText (.code yX1_toldText cX1_toldText 7 (some .int) :: WA) ({ frames := 1, cells := 0, slots := 0, locals := 23 } : Room) (va_Pc [.ref (ad 3), .int v1, .int v2, .long v3, .int v5] (PR D cy (GX cy ad tk sp nm tp kp cu se ur ab lo im sy un en ra li i2))) (QR (some (.int q.1)) D (GX cy ad tk sp nm tp kp q.2 se ur ab lo im sy un en ra li i2) (Ac ad 89)) 0 0 (Ac ad 89) :=
  met_of (by decide) (Nat.le_of_ble_eq_true rfl) (fun p e s m below meth c ls C hP hK hN hl => bX1_toldText_0 C hI hK hN h hl hP va_S.rf)
def X1_isText_13b (tp : Ttp) (k : Nat)  (k13 : Int32 → Int32 → Option (Int32))  (v1 : Int32) (v4 : Int32) : Option (Int32) := (if v4 < (lnS k) then ((X1_byteAt tp (v1 + v4)).bind fun q2 => (if inS k v4 = true then (if q2 = (chS k v4) then k13 v1 (v4 + (1 : Int32)) else some (0 : Int32)) else none)) else some (1 : Int32))
def X1_isText_13 (tp : Ttp) (k : Nat)  (n : Nat) (st : Int32 × Int32) : Option (Int32) := lp (fun rec st => X1_isText_13b tp k  (fun a0 a1 => rec (a0, a1)) st.1 st.2) n st
set_option maxRecDepth 20000 in
theorem bX1_isText_13 (C : Cx p s m args meth c cX1_isText 5 (some .boolean) RX1 (.code yX1_isText cX1_isText 5 (some .boolean))) (hK : va_K D vwCl (tysX cy) s) (hN : NW s) (hF : SF t adK adV (Ac ad 89) s s.heap) (hk7 : k < 7)  {q : Int32}  : ∀ (n : Nat)  {v1 : Int32} {v4 : Int32}, X1_isText_13 tp k  n (v1, v4) = some q → ∀ {ls : Array Slot}, lv_has ls 5 [(0, .ref (ad 3)), (1, .int v1), (3, .ref (adK k)), (4, .int v4)] → va_P D vwCl (GX cy ad tk sp nm tp kp cu se ur ab lo im sy un en ra li i2) s.heap → W p l e ({ frames := 4, cells := 0, slots := 0, locals := 85 } : Room) s m args below meth c s.heap [] 0 0 (MQ below (QP (some (.int q))) args s 0 0 (fun _ => False)) (F0 m 13 ls []) := by
  obtain ⟨hx, hb, hml, hown, hts, hr, hlk⟩ := id C
  have hS : va_S (Ac ad 89) s.heap s.heap [] := va_S.rf
  intro n
  induction n with
  | zero =>
    intro v1 v4 h ls hl hP
    have h : (none : Option (Int32)) = some q := h
    cases h
  | succ n ih =>
    intro v1 v4 h ls hl hP
    have h : X1_isText_13b tp k  (fun a0 a1 => X1_isText_13 tp k  n (a0, a1)) v1 v4 = some q := h
    unfold X1_isText_13b at h
    refine lv_iload hx hb dX1_isText_13 (lv_at hl 3 rfl) ?_
    refine lv_aload_n hx hb dX1_isText_15 rfl (lv_at hl 2 rfl) ?_
    refine cPi (run_Vg (rest := [.int v4]) (As := []) C (kJ0_length (t := t) (adV := adV) (A := Ac ad 89) hk7) caJ0_length_8abf5 w615 ⟨rfl, rfl, Nat.le_of_ble_eq_true rfl, Nat.le_of_ble_eq_true rfl⟩ PF.blind (PF.at hF hS) (vk_recv hF.2.2.2.2.1 hk7 hS) rfl hl.1 rfl (Nat.le_of_ble_eq_true rfl) dX1_isText_16 ⟨Nat.zero_le _, Nat.zero_le _⟩) ?_
    refine b_icmp_ge (tgt := 47) hx hb dX1_isText_19 (by decide) (fun c1 => ?_) (fun c1 => ?_)
    · rw [if_neg c1] at h
      refine lv_iconst (v := (1 : Int32)) hx hb dX1_isText_47 (by decide) ?_
      obtain rfl := Option.some.inj h
      exact W.zret (ty := .boolean) hx hb hr (by decide) (fun t ht _ => ⟨rfl, ht⟩) (fun _ h9 => by cases h9) dX1_isText_48 hlk
    · rw [if_pos c1] at h
      refine lv_aload_n hx hb dX1_isText_22 rfl (lv_at hl 0 rfl) ?_
      refine lv_iload_n hx hb dX1_isText_23 rfl (lv_at hl 1 rfl) ?_
      refine lv_iload hx hb dX1_isText_24 (lv_at hl 3 rfl) ?_
      refine lv_iadd hx hb dX1_isText_26 ?_
      obtain ⟨q2, h3, h⟩ := bnd h
      refine cPi (run_V (rest := []) C (kX1_byteAt h3) caX1_byteAt w625 ⟨rfl, rfl, Nat.le_of_ble_eq_true rfl, Nat.le_of_ble_eq_true rfl⟩ hK hN hP (rX3 hK hP) rfl hl.1 rfl (Nat.le_of_ble_eq_true rfl) dX1_isText_27 ⟨Nat.zero_le _, Nat.zero_le _⟩) ?_
      refine lv_aload_n hx hb dX1_isText_30 rfl (lv_at hl 2 rfl) ?_
      refine lv_iload hx hb dX1_isText_31 (lv_at hl 3 rfl) ?_
      obtain ⟨n4, h⟩ := grd h
      obtain ⟨n4a, n4b, n4c⟩ := inS_of hk7 n4
      refine cPi (run_Vg (rest := [.int q2]) (As := [.int v4]) C (kJ0_charAt (t := t) (adV := adV) (A := Ac ad 89) hk7 n4a n4b n4c) caJ0_charAt_5068e w626 ⟨rfl, rfl, Nat.le_of_ble_eq_true rfl, Nat.le_of_ble_eq_true rfl⟩ PF.blind (PF.at hF hS) (vk_recv hF.2.2.2.2.1 hk7 hS) rfl hl.1 rfl (Nat.le_of_ble_eq_true rfl) dX1_isText_33 ⟨Nat.zero_le _, Nat.zero_le _⟩) ?_
      refine lv_icmp_eq (tgt := 41) hx hb dX1_isText_36 (by decide) (fun c5 => ?_) (fun c5 => ?_)
      · rw [if_pos c5] at h
        refine lv_iinc (v := (v4 + (1 : Int32))) (lv' := [(4, .int (v4 + (1 : Int32))), (0, .ref (ad 3)), (1, .int v1), (3, .ref (adK k))]) hx hb dX1_isText_41 hl (k := 3) rfl rfl (by decide) rfl (fun ls hl => ?_)
        refine lv_goto (tgt := 13) hx hb dX1_isText_44 (by decide) ?_
        exact ih h (lv_sub hl [1, 2, 3, 0] rfl) hP
      · rw [if_neg c5] at h
        refine lv_iconst (v := (0 : Int32)) hx hb dX1_isText_39 (by decide) ?_
        obtain rfl := Option.some.inj h
        exact W.zret (ty := .boolean) hx hb hr (by decide) (fun t ht _ => ⟨rfl, ht⟩) (fun _ h9 => by cases h9) dX1_isText_40 hlk
def X1_isText (tp : Ttp) (k : Nat) (v1 : Int32) (v2 : Int32) : Option (Int32) := (if v2 = (lnS k) then X1_isText_13 tp k FU (v1, (0 : Int32)) else some (0 : Int32))
set_option maxRecDepth 20000 in
theorem bX1_isText_0 (C : Cx p s m args meth c cX1_isText 5 (some .boolean) RX1 (.code yX1_isText cX1_isText 5 (some .boolean))) (hK : va_K D vwCl (tysX cy) s) (hN : NW s) (hF : SF t adK adV (Ac ad 89) s s.heap) (hk7 : k < 7)  {q : Int32}  {v1 : Int32} {v2 : Int32} (h : X1_isText tp k v1 v2 = some q) {ls : Array Slot} (hl : lv_has ls 5 [(0, .ref (ad 3)), (1, .int v1), (2, .int v2), (3, .ref (adK k))]) (hP : va_P D vwCl (GX cy ad tk sp nm tp kp cu se ur ab lo im sy un en ra li i2) s.heap) : W p l e ({ frames := 4, cells := 0, slots := 0, locals := 85 } : Room) s m args below meth c s.heap [] 0 0 (MQ below (QP (some (.int q))) args s 0 0 (fun _ => False)) (F0 m 0 ls []) := by
  obtain ⟨hx, hb, hml, hown, hts, hr, hlk⟩ := id C
  have hS : va_S (Ac ad 89) s.heap s.heap [] := va_S.rf
  unfold X1_isText at h
  refine lv_iload_n hx hb dX1_isText_0 rfl (lv_at hl 2 rfl) ?_
  refine lv_aload_n hx hb dX1_isText_1 rfl (lv_at hl 3 rfl) ?_
  refine cPi (run_Vg (rest := [.int v2]) (As := []) C (kJ0_length (t := t) (adV := adV) (A := Ac ad 89) hk7) caJ0_length_8abf5 w615 ⟨rfl, rfl, Nat.le_of_ble_eq_true rfl, Nat.le_of_ble_eq_true rfl⟩ PF.blind (PF.at hF hS) (vk_recv hF.2.2.2.2.1 hk7 hS) rfl hl.1 rfl (Nat.le_of_ble_eq_true rfl) dX1_isText_2 ⟨Nat.zero_le _, Nat.zero_le _⟩) ?_
  refine lv_icmp_eq (tgt := 10) hx hb dX1_isText_5 (by decide) (fun c1 => ?_) (fun c1 => ?_)
  · rw [if_pos c1] at h
    refine lv_iconst (v := (0 : Int32)) hx hb dX1_isText_10 (by decide) ?_
    refine lv_istore (lv' := [(4, .int (0 : Int32)), (0, .ref (ad 3)), (1, .int v1), (2, .int v2), (3, .ref (adK k))]) hx hb dX1_isText_11 hl (by decide) rfl (fun ls hl => ?_)
    exact bX1_isText_13 C hK hN hF hk7 FU h (lv_sub hl [1, 2, 4, 0] rfl) hP
  · rw [if_neg c1] at h
    refine lv_iconst (v := (0 : Int32)) hx hb dX1_isText_8 (by decide) ?_
    obtain rfl := Option.some.inj h
    exact W.zret (ty := .boolean) hx hb hr (by decide) (fun t ht _ => ⟨rfl, ht⟩) (fun _ h9 => by cases h9) dX1_isText_9 hlk
theorem kX1_isText  (hk7 : k < 7) {v1 : Int32} {v2 : Int32} {q : Int32} (h : X1_isText tp k v1 v2 = some q) : Met l yX1_isText (.code yX1_isText cX1_isText 5 (some .boolean) :: WA) ({ frames := 4, cells := 0, slots := 0, locals := 85 } : Room) (va_Pc [.ref (ad 3), .int v1, .int v2, .ref (adK k)] (PS D cy t adK adV (Ac ad 89) (GX cy ad tk sp nm tp kp cu se ur ab lo im sy un en ra li i2))) (QP (some (.int q))) 0 0 (fun _ => False) :=
  met_g (by decide) (Nat.le_of_ble_eq_true rfl) (fun p e s m below meth c ls C hB hl => bX1_isText_0 C hB.1.2.1 hB.1.2.2 hB.2 hk7 h hl hB.1.1)
def X1_enterCounted (tp : Ttp) (cu : Tcu)  : Option (Tcu) := ((X1_number tp cu (4 : Int32)).bind fun q1 => (if q1.1 < (4294967280 : Int64) then (if (X1_hasLeft q1.2 q1.1) = 0 then (letq (X1_refuse q1.2 (1 : Int32) cu.2.1) fun q5 => some q5) else some (q1.2.1, q1.2.2.1, (q1.2.2.1 + ((q1.1).toInt32)), q1.2.2.2.2.1, q1.2.2.2.2.2)) else (letq (X1_refuse q1.2 (2 : Int32) cu.2.1) fun q7 => some q7)))
set_option maxRecDepth 20000 in
theorem bX1_enterCounted_0 (C : Cx p s m args meth c cX1_enterCounted 4 none RX1 (.code yX1_enterCounted cX1_enterCounted 4 none)) (hI : Apart ad 89) (hK : va_K D vwCl (tysX cy) s) (hN : NW s)  {q : Tcu}   (h : X1_enterCounted tp cu = some q) {ls : Array Slot} (hl : lv_has ls 4 [(0, .ref (ad 3))]) {H : Heap} {locs : List Loc} (hP : va_P D vwCl (GX cy ad tk sp nm tp kp cu se ur ab lo im sy un en ra li i2) H) (hS : va_S (Ac ad 89) s.heap H locs) : W p l e ({ frames := 2, cells := 0, slots := 0, locals := 51 } : Room) s m args below meth c H locs 0 0 (MQ below (QR none D (GX cy ad tk sp nm tp kp q se ur ab lo im sy un en ra li i2) (Ac ad 89)) args s 0 0 (Ac ad 89)) (F0 m 0 ls []) := by
  obtain ⟨hx, hb, hml, hown, hts, hr, hlk⟩ := id C
  unfold X1_enterCounted at h
  refine lv_aload_n hx hb dX1_enterCounted_0 rfl (lv_at hl 0 rfl) ?_
  refine gX3_2 (v := cu.2.1) C hK hP rfl w131 dX1_enterCounted_1 ?_
  refine lv_istore_n (lv' := [(1, .int cu.2.1), (0, .ref (ad 3))]) hx hb dX1_enterCounted_4 rfl hl (by decide) rfl (fun ls hl => ?_)
  refine lv_aload_n hx hb dX1_enterCounted_5 rfl (lv_at hl 1 rfl) ?_
  refine lv_iconst (v := (4 : Int32)) hx hb dX1_enterCounted_6 (by decide) ?_
  obtain ⟨q1, h2, h⟩ := bnd h
  refine cRl (run_V (rest := []) C (kX1_number hI h2) caX1_number w717 ⟨rfl, rfl, Nat.le_of_ble_eq_true rfl, Nat.le_of_ble_eq_true rfl⟩ hK hN hP (rX3 hK hP) rfl hl.1 rfl (Nat.le_of_ble_eq_true rfl) dX1_enterCounted_7 ⟨Nat.zero_le _, Nat.zero_le _⟩) hS (fun H locs hP hS => ?_)
  have hP : va_P D vwCl (GX cy ad tk sp nm tp kp q1.2 se ur ab lo im sy un en ra li i2) H := hP
  refine lv_lstore_n (lv' := [(2, .long q1.1), (1, .int cu.2.1), (0, .ref (ad 3))]) hx hb dX1_enterCounted_10 rfl hl (by decide) rfl (fun ls hl => ?_)
  refine lv_lload_n hx hb dX1_enterCounted_11 rfl (lv_at hl 0 rfl) ?_
  refine lv_ldc2 (v := (4294967280 : Int64)) hx hb hown (hts _ (List.mem_cons_of_mem _ w727)) dX1_enterCounted_12 ?_
  refine lc_lt (tgt := 28) hx hb dX1_enterCounted_15 dX1_enterCounted_16 (by decide) (fun c3 => ?_) (fun c3 => ?_)
  · rw [if_pos c3] at h
    refine lv_aload_n hx hb dX1_enterCounted_28 rfl (lv_at hl 2 rfl) ?_
    refine lv_lload_n hx hb dX1_enterCounted_29 rfl (lv_at hl 0 rfl) ?_
    refine cPi (run_V (rest := []) C (kX1_hasLeft rfl) caX1_hasLeft w722 ⟨rfl, rfl, Nat.le_of_ble_eq_true rfl, Nat.le_of_ble_eq_true rfl⟩ hK hN hP (rX3 hK hP) rfl hl.1 rfl (Nat.le_of_ble_eq_true rfl) dX1_enterCounted_30 ⟨Nat.zero_le _, Nat.zero_le _⟩) ?_
    refine lv_if_ne (tgt := 45) hx hb dX1_enterCounted_33 (by decide) (fun c4 => ?_) (fun c4 => ?_)
    · rw [if_neg c4] at h
      refine lv_aload_n hx hb dX1_enterCounted_45 rfl (lv_at hl 2 rfl) ?_
      refine lv_aload_n hx hb dX1_enterCounted_46 rfl (lv_at hl 2 rfl) ?_
      refine gX3_2 (v := q1.2.2.1) C hK hP rfl w131 dX1_enterCounted_47 ?_
      refine lv_lload_n hx hb dX1_enterCounted_50 rfl (lv_at hl 0 rfl) ?_
      refine lv_l2i (v := ((q1.1).toInt32)) hx hb dX1_enterCounted_51 rfl ?_
      refine lv_iadd hx hb dX1_enterCounted_52 ?_
      refine pX3_3 (v := (q1.2.2.1 + ((q1.1).toInt32))) C hI hK hP hS w132 dX1_enterCounted_53 (fun H locs hP hS => ?_)
      have hP : va_P D vwCl (GX cy ad tk sp nm tp kp (q1.2.1, q1.2.2.1, (q1.2.2.1 + ((q1.1).toInt32)), q1.2.2.2.2.1, q1.2.2.2.2.2) se ur ab lo im sy un en ra li i2) H := hP
      obtain rfl := Option.some.inj h
      exact W.vret hx hb hr (fun t ht _ => ⟨rfl, by rw [ht]; exact hP, hS.F ht⟩) hS.2.2 dX1_enterCounted_56 hlk
    · rw [if_pos c4] at h
      refine lv_aload_n hx hb dX1_enterCounted_36 rfl (lv_at hl 2 rfl) ?_
      refine lv_iconst (v := (1 : Int32)) hx hb dX1_enterCounted_37 (by decide) ?_
      refine lv_iload_n hx hb dX1_enterCounted_38 rfl (lv_at hl 1 rfl) ?_
      obtain ⟨q5, h6, h⟩ := lets h
      refine cRv (run_V (rest := []) C (kX1_refuse hI h6) caX1_refuse w596 ⟨rfl, rfl, Nat.le_of_ble_eq_true rfl, Nat.le_of_ble_eq_true rfl⟩ hK hN hP (rX3 hK hP) rfl hl.1 rfl (Nat.le_of_ble_eq_true rfl) dX1_enterCounted_39 ⟨Nat.zero_le _, Nat.zero_le _⟩) hS (fun H locs hP hS => ?_)
      have hP : va_P D vwCl (GX cy ad tk sp nm tp kp q5 se ur ab lo im sy un en ra li i2) H := hP
      refine lv_goto (tgt := 56) hx hb dX1_enterCounted_42 (by decide) ?_
      obtain rfl := Option.some.inj h
      exact W.vret hx hb hr (fun t ht _ => ⟨rfl, by rw [ht]; exact hP, hS.F ht⟩) hS.2.2 dX1_enterCounted_56 hlk
  · rw [if_neg c3] at h
    refine lv_aload_n hx hb dX1_enterCounted_19 rfl (lv_at hl 2 rfl) ?_
    refine lv_iconst (v := (2 : Int32)) hx hb dX1_enterCounted_20 (by decide) ?_
    refine lv_iload_n hx hb dX1_enterCounted_21 rfl (lv_at hl 1 rfl) ?_
    obtain ⟨q7, h8, h⟩ := lets h
    refine cRv (run_V (rest := []) C (kX1_refuse hI h8) caX1_refuse w596 ⟨rfl, rfl, Nat.le_of_ble_eq_true rfl, Nat.le_of_ble_eq_true rfl⟩ hK hN hP (rX3 hK hP) rfl hl.1 rfl (Nat.le_of_ble_eq_true rfl) dX1_enterCounted_22 ⟨Nat.zero_le _, Nat.zero_le _⟩) hS (fun H locs hP hS => ?_)
    have hP : va_P D vwCl (GX cy ad tk sp nm tp kp q7 se ur ab lo im sy un en ra li i2) H := hP
    refine lv_goto (tgt := 56) hx hb dX1_enterCounted_25 (by decide) ?_
    obtain rfl := Option.some.inj h
    exact W.vret hx hb hr (fun t ht _ => ⟨rfl, by rw [ht]; exact hP, hS.F ht⟩) hS.2.2 dX1_enterCounted_56 hlk
theorem kX1_enterCounted (hI : Apart ad 89)  {q : Tcu} (h : X1_enterCounted tp cu = some q) : Met l yX1_enterCounted (.code yX1_enterCounted cX1_enterCounted 4 none :: WA) ({ frames := 2, cells := 0, slots := 0, locals := 51 } : Room) (va_Pc [.ref (ad 3)] (PR D cy (GX cy ad tk sp nm tp kp cu se ur ab lo im sy un en ra li i2))) (QR none D (GX cy ad tk sp nm tp kp q se ur ab lo im sy un en ra li i2) (Ac ad 89)) 0 0 (Ac ad 89) :=
  met_of (by decide) (Nat.le_of_ble_eq_true rfl) (fun p e s m below meth c ls C hP hK hN hl => bX1_enterCounted_0 C hI hK hN h hl hP va_S.rf)
def X2_clear (en : Ten)  : Ten := (en.1, en.2.1, en.2.2.1, en.2.2.2.1, en.2.2.2.2.1, en.2.2.2.2.2.1, en.2.2.2.2.2.2.1, en.2.2.2.2.2.2.2.1, en.2.2.2.2.2.2.2.2.1, en.2.2.2.2.2.2.2.2.2.1, (0 : Int32))
set_option maxRecDepth 20000 in
theorem bX2_clear_0 (C : Cx p s m args meth c cX2_clear 1 none RX2 (.code yX2_clear cX2_clear 1 none)) (hI : Apart ad 89) (hK : va_K D vwCl (tysX cy) s) (hN : NW s)  {q : Ten}   (h : X2_clear en = q) {ls : Array Slot} (hl : lv_has ls 1 [(0, .ref (ad 34))]) {H : Heap} {locs : List Loc} (hP : va_P D vwCl (GX cy ad tk sp nm tp kp cu se ur ab lo im sy un en ra li i2) H) (hS : va_S (Ac ad 89) s.heap H locs) : W p l e ({ frames := 0, cells := 0, slots := 0, locals := 0 } : Room) s m args below meth c H locs 0 0 (MQ below (QR none D (GX cy ad tk sp nm tp kp cu se ur ab lo im sy un q ra li i2) (Ac ad 89)) args s 0 0 (Ac ad 89)) (F0 m 0 ls []) := by
  obtain ⟨hx, hb, hml, hown, hts, hr, hlk⟩ := id C
  unfold X2_clear at h
  refine lv_aload_n hx hb dX2_clear_0 rfl (lv_at hl 0 rfl) ?_
  refine lv_iconst (v := (0 : Int32)) hx hb dX2_clear_1 (by decide) ?_
  refine pX34_10 (v := (0 : Int32)) C hI hK hP hS w341 dX2_clear_2 (fun H locs hP hS => ?_)
  have hP : va_P D vwCl (GX cy ad tk sp nm tp kp cu se ur ab lo im sy un (en.1, en.2.1, en.2.2.1, en.2.2.2.1, en.2.2.2.2.1, en.2.2.2.2.2.1, en.2.2.2.2.2.2.1, en.2.2.2.2.2.2.2.1, en.2.2.2.2.2.2.2.2.1, en.2.2.2.2.2.2.2.2.2.1, (0 : Int32)) ra li i2) H := hP
  obtain rfl := h
  exact W.vret hx hb hr (fun t ht _ => ⟨rfl, by rw [ht]; exact hP, hS.F ht⟩) hS.2.2 dX2_clear_5 hlk
theorem kX2_clear (hI : Apart ad 89)  {q : Ten} (h : X2_clear en = q) : Met l yX2_clear (.code yX2_clear cX2_clear 1 none :: WA) ({ frames := 0, cells := 0, slots := 0, locals := 0 } : Room) (va_Pc [.ref (ad 34)] (PR D cy (GX cy ad tk sp nm tp kp cu se ur ab lo im sy un en ra li i2))) (QR none D (GX cy ad tk sp nm tp kp cu se ur ab lo im sy un q ra li i2) (Ac ad 89)) 0 0 (Ac ad 89) :=
  met_of (by decide) (Nat.le_of_ble_eq_true rfl) (fun p e s m below meth c ls C hP hK hN hl => bX2_clear_0 C hI hK hN h hl hP va_S.rf)
def X2_add (en : Ten) (v1 : Int64) (v3 : Int32) (v4 : Int32) (v5 : Int32) : Int32 × Ten := (if en.2.2.2.2.2.2.2.2.2.2 < (400 : Int32) then (((en.2.2.2.2.2.2.2.2.2.2 + (1 : Int32)) - (1 : Int32)), ((put_l 400 en.1 en.2.2.2.2.2.2.2.2.2.2 v1), (put_i 400 en.2.1 en.2.2.2.2.2.2.2.2.2.2 v3), (put_i 400 en.2.2.1 en.2.2.2.2.2.2.2.2.2.2 v4), (put_i 400 en.2.2.2.1 en.2.2.2.2.2.2.2.2.2.2 v5), (put_i 400 en.2.2.2.2.1 en.2.2.2.2.2.2.2.2.2.2 (-1 : Int32)), (put_i 400 en.2.2.2.2.2.1 en.2.2.2.2.2.2.2.2.2.2 (-1 : Int32)), (put_i 400 en.2.2.2.2.2.2.1 en.2.2.2.2.2.2.2.2.2.2 (0 : Int32)), (put_i 400 en.2.2.2.2.2.2.2.1 en.2.2.2.2.2.2.2.2.2.2 (0 : Int32)), (put_i 400 en.2.2.2.2.2.2.2.2.1 en.2.2.2.2.2.2.2.2.2.2 (0 : Int32)), en.2.2.2.2.2.2.2.2.2.1, (en.2.2.2.2.2.2.2.2.2.2 + (1 : Int32)))) else ((-1 : Int32), en))
set_option maxRecDepth 20000 in
theorem bX2_add_0 (C : Cx p s m args meth c cX2_add 6 (some .int) RX2 (.code yX2_add cX2_add 6 (some .int))) (hI : Apart ad 89) (hK : va_K D vwCl (tysX cy) s) (hN : NW s)  {q : Int32 × Ten}  {v1 : Int64} {v3 : Int32} {v4 : Int32} {v5 : Int32} (h : X2_add en v1 v3 v4 v5 = q) {ls : Array Slot} (hl : lv_has ls 6 [(0, .ref (ad 34)), (1, .long v1), (3, .int v3), (4, .int v4), (5, .int v5)]) {H : Heap} {locs : List Loc} (hP : va_P D vwCl (GX cy ad tk sp nm tp kp cu se ur ab lo im sy un en ra li i2) H) (hS : va_S (Ac ad 89) s.heap H locs) : W p l e ({ frames := 1, cells := 0, slots := 0, locals := 23 } : Room) s m args below meth c H locs 0 0 (MQ below (QR (some (.int q.1)) D (GX cy ad tk sp nm tp kp cu se ur ab lo im sy un q.2 ra li i2) (Ac ad 89)) args s 0 0 (Ac ad 89)) (F0 m 0 ls []) := by
  obtain ⟨hx, hb, hml, hown, hts, hr, hlk⟩ := id C
  unfold X2_add at h
  refine lv_aload_n hx hb dX2_add_0 rfl (lv_at hl 0 rfl) ?_
  refine gX34_10 (v := en.2.2.2.2.2.2.2.2.2.2) C hK hP rfl w341 dX2_add_1 ?_
  refine lv_sipush (v := (400 : Int32)) hx hb dX2_add_4 (by decide) ?_
  refine lv_icmp_lt (tgt := 12) hx hb dX2_add_7 (by decide) (fun c1 => ?_) (fun c1 => ?_)
  · rw [if_pos c1] at h
    refine lv_aload_n hx hb dX2_add_12 rfl (lv_at hl 0 rfl) ?_
    refine gX34_0 C hK hP w331 dX2_add_13 ?_
    refine lv_aload_n hx hb dX2_add_16 rfl (lv_at hl 0 rfl) ?_
    refine gX34_10 (v := en.2.2.2.2.2.2.2.2.2.2) C hK hP rfl w341 dX2_add_17 ?_
    refine lv_lload_n hx hb dX2_add_20 rfl (lv_at hl 1 rfl) ?_
    refine xput_l (rest := []) C hK hN hP (GX_D hI) hS eX35 (Nat.le_of_ble_eq_true rfl) w821 hl.1 (Nat.le_of_ble_eq_true rfl) dX2_add_21 ⟨Nat.le_of_ble_eq_true rfl, Nat.le_of_ble_eq_true rfl⟩ ⟨Nat.zero_le _, Nat.zero_le _⟩ (fun H locs hP hS => ?_)
    have hP : va_P D vwCl (GX cy ad tk sp nm tp kp cu se ur ab lo im sy un ((put_l 400 en.1 en.2.2.2.2.2.2.2.2.2.2 v1), en.2.1, en.2.2.1, en.2.2.2.1, en.2.2.2.2.1, en.2.2.2.2.2.1, en.2.2.2.2.2.2.1, en.2.2.2.2.2.2.2.1, en.2.2.2.2.2.2.2.2.1, en.2.2.2.2.2.2.2.2.2.1, en.2.2.2.2.2.2.2.2.2.2) ra li i2) H := hP
    refine lv_aload_n hx hb dX2_add_24 rfl (lv_at hl 0 rfl) ?_
    refine gX34_1 C hK hP w332 dX2_add_25 ?_
    refine lv_aload_n hx hb dX2_add_28 rfl (lv_at hl 0 rfl) ?_
    refine gX34_10 (v := en.2.2.2.2.2.2.2.2.2.2) C hK hP rfl w341 dX2_add_29 ?_
    refine lv_iload_n hx hb dX2_add_32 rfl (lv_at hl 2 rfl) ?_
    refine xput_i (rest := []) C hK hN hP (GX_D hI) hS eX36 (Nat.le_of_ble_eq_true rfl) w822 hl.1 (Nat.le_of_ble_eq_true rfl) dX2_add_33 ⟨Nat.le_of_ble_eq_true rfl, Nat.le_of_ble_eq_true rfl⟩ ⟨Nat.zero_le _, Nat.zero_le _⟩ (fun H locs hP hS => ?_)
    have hP : va_P D vwCl (GX cy ad tk sp nm tp kp cu se ur ab lo im sy un ((put_l 400 en.1 en.2.2.2.2.2.2.2.2.2.2 v1), (put_i 400 en.2.1 en.2.2.2.2.2.2.2.2.2.2 v3), en.2.2.1, en.2.2.2.1, en.2.2.2.2.1, en.2.2.2.2.2.1, en.2.2.2.2.2.2.1, en.2.2.2.2.2.2.2.1, en.2.2.2.2.2.2.2.2.1, en.2.2.2.2.2.2.2.2.2.1, en.2.2.2.2.2.2.2.2.2.2) ra li i2) H := hP
    refine lv_aload_n hx hb dX2_add_36 rfl (lv_at hl 0 rfl) ?_
    refine gX34_2 C hK hP w333 dX2_add_37 ?_
    refine lv_aload_n hx hb dX2_add_40 rfl (lv_at hl 0 rfl) ?_
    refine gX34_10 (v := en.2.2.2.2.2.2.2.2.2.2) C hK hP rfl w341 dX2_add_41 ?_
    refine lv_iload hx hb dX2_add_44 (lv_at hl 3 rfl) ?_
    refine xput_i (rest := []) C hK hN hP (GX_D hI) hS eX37 (Nat.le_of_ble_eq_true rfl) w822 hl.1 (Nat.le_of_ble_eq_true rfl) dX2_add_46 ⟨Nat.le_of_ble_eq_true rfl, Nat.le_of_ble_eq_true rfl⟩ ⟨Nat.zero_le _, Nat.zero_le _⟩ (fun H locs hP hS => ?_)
    have hP : va_P D vwCl (GX cy ad tk sp nm tp kp cu se ur ab lo im sy un ((put_l 400 en.1 en.2.2.2.2.2.2.2.2.2.2 v1), (put_i 400 en.2.1 en.2.2.2.2.2.2.2.2.2.2 v3), (put_i 400 en.2.2.1 en.2.2.2.2.2.2.2.2.2.2 v4), en.2.2.2.1, en.2.2.2.2.1, en.2.2.2.2.2.1, en.2.2.2.2.2.2.1, en.2.2.2.2.2.2.2.1, en.2.2.2.2.2.2.2.2.1, en.2.2.2.2.2.2.2.2.2.1, en.2.2.2.2.2.2.2.2.2.2) ra li i2) H := hP
    refine lv_aload_n hx hb dX2_add_49 rfl (lv_at hl 0 rfl) ?_
    refine gX34_3 C hK hP w334 dX2_add_50 ?_
    refine lv_aload_n hx hb dX2_add_53 rfl (lv_at hl 0 rfl) ?_
    refine gX34_10 (v := en.2.2.2.2.2.2.2.2.2.2) C hK hP rfl w341 dX2_add_54 ?_
    refine lv_iload hx hb dX2_add_57 (lv_at hl 4 rfl) ?_
    refine xput_i (rest := []) C hK hN hP (GX_D hI) hS eX38 (Nat.le_of_ble_eq_true rfl) w822 hl.1 (Nat.le_of_ble_eq_true rfl) dX2_add_59 ⟨Nat.le_of_ble_eq_true rfl, Nat.le_of_ble_eq_true rfl⟩ ⟨Nat.zero_le _, Nat.zero_le _⟩ (fun H locs hP hS => ?_)
    have hP : va_P D vwCl (GX cy ad tk sp nm tp kp cu se ur ab lo im sy un ((put_l 400 en.1 en.2.2.2.2.2.2.2.2.2.2 v1), (put_i 400 en.2.1 en.2.2.2.2.2.2.2.2.2.2 v3), (put_i 400 en.2.2.1 en.2.2.2.2.2.2.2.2.2.2 v4), (put_i 400 en.2.2.2.1 en.2.2.2.2.2.2.2.2.2.2 v5), en.2.2.2.2.1, en.2.2.2.2.2.1, en.2.2.2.2.2.2.1, en.2.2.2.2.2.2.2.1, en.2.2.2.2.2.2.2.2.1, en.2.2.2.2.2.2.2.2.2.1, en.2.2.2.2.2.2.2.2.2.2) ra li i2) H := hP
    refine lv_aload_n hx hb dX2_add_62 rfl (lv_at hl 0 rfl) ?_
    refine gX34_4 C hK hP w335 dX2_add_63 ?_
    refine lv_aload_n hx hb dX2_add_66 rfl (lv_at hl 0 rfl) ?_
    refine gX34_10 (v := en.2.2.2.2.2.2.2.2.2.2) C hK hP rfl w341 dX2_add_67 ?_
    refine lv_iconst (v := (-1 : Int32)) hx hb dX2_add_70 (by decide) ?_
    refine xput_i (rest := []) C hK hN hP (GX_D hI) hS eX39 (Nat.le_of_ble_eq_true rfl) w822 hl.1 (Nat.le_of_ble_eq_true rfl) dX2_add_71 ⟨Nat.le_of_ble_eq_true rfl, Nat.le_of_ble_eq_true rfl⟩ ⟨Nat.zero_le _, Nat.zero_le _⟩ (fun H locs hP hS => ?_)
    have hP : va_P D vwCl (GX cy ad tk sp nm tp kp cu se ur ab lo im sy un ((put_l 400 en.1 en.2.2.2.2.2.2.2.2.2.2 v1), (put_i 400 en.2.1 en.2.2.2.2.2.2.2.2.2.2 v3), (put_i 400 en.2.2.1 en.2.2.2.2.2.2.2.2.2.2 v4), (put_i 400 en.2.2.2.1 en.2.2.2.2.2.2.2.2.2.2 v5), (put_i 400 en.2.2.2.2.1 en.2.2.2.2.2.2.2.2.2.2 (-1 : Int32)), en.2.2.2.2.2.1, en.2.2.2.2.2.2.1, en.2.2.2.2.2.2.2.1, en.2.2.2.2.2.2.2.2.1, en.2.2.2.2.2.2.2.2.2.1, en.2.2.2.2.2.2.2.2.2.2) ra li i2) H := hP
    refine lv_aload_n hx hb dX2_add_74 rfl (lv_at hl 0 rfl) ?_
    refine gX34_5 C hK hP w336 dX2_add_75 ?_
    refine lv_aload_n hx hb dX2_add_78 rfl (lv_at hl 0 rfl) ?_
    refine gX34_10 (v := en.2.2.2.2.2.2.2.2.2.2) C hK hP rfl w341 dX2_add_79 ?_
    refine lv_iconst (v := (-1 : Int32)) hx hb dX2_add_82 (by decide) ?_
    refine xput_i (rest := []) C hK hN hP (GX_D hI) hS eX40 (Nat.le_of_ble_eq_true rfl) w822 hl.1 (Nat.le_of_ble_eq_true rfl) dX2_add_83 ⟨Nat.le_of_ble_eq_true rfl, Nat.le_of_ble_eq_true rfl⟩ ⟨Nat.zero_le _, Nat.zero_le _⟩ (fun H locs hP hS => ?_)
    have hP : va_P D vwCl (GX cy ad tk sp nm tp kp cu se ur ab lo im sy un ((put_l 400 en.1 en.2.2.2.2.2.2.2.2.2.2 v1), (put_i 400 en.2.1 en.2.2.2.2.2.2.2.2.2.2 v3), (put_i 400 en.2.2.1 en.2.2.2.2.2.2.2.2.2.2 v4), (put_i 400 en.2.2.2.1 en.2.2.2.2.2.2.2.2.2.2 v5), (put_i 400 en.2.2.2.2.1 en.2.2.2.2.2.2.2.2.2.2 (-1 : Int32)), (put_i 400 en.2.2.2.2.2.1 en.2.2.2.2.2.2.2.2.2.2 (-1 : Int32)), en.2.2.2.2.2.2.1, en.2.2.2.2.2.2.2.1, en.2.2.2.2.2.2.2.2.1, en.2.2.2.2.2.2.2.2.2.1, en.2.2.2.2.2.2.2.2.2.2) ra li i2) H := hP
    refine lv_aload_n hx hb dX2_add_86 rfl (lv_at hl 0 rfl) ?_
    refine gX34_6 C hK hP w337 dX2_add_87 ?_
    refine lv_aload_n hx hb dX2_add_90 rfl (lv_at hl 0 rfl) ?_
    refine gX34_10 (v := en.2.2.2.2.2.2.2.2.2.2) C hK hP rfl w341 dX2_add_91 ?_
    refine lv_iconst (v := (0 : Int32)) hx hb dX2_add_94 (by decide) ?_
    refine xput_i (rest := []) C hK hN hP (GX_D hI) hS eX41 (Nat.le_of_ble_eq_true rfl) w822 hl.1 (Nat.le_of_ble_eq_true rfl) dX2_add_95 ⟨Nat.le_of_ble_eq_true rfl, Nat.le_of_ble_eq_true rfl⟩ ⟨Nat.zero_le _, Nat.zero_le _⟩ (fun H locs hP hS => ?_)
    have hP : va_P D vwCl (GX cy ad tk sp nm tp kp cu se ur ab lo im sy un ((put_l 400 en.1 en.2.2.2.2.2.2.2.2.2.2 v1), (put_i 400 en.2.1 en.2.2.2.2.2.2.2.2.2.2 v3), (put_i 400 en.2.2.1 en.2.2.2.2.2.2.2.2.2.2 v4), (put_i 400 en.2.2.2.1 en.2.2.2.2.2.2.2.2.2.2 v5), (put_i 400 en.2.2.2.2.1 en.2.2.2.2.2.2.2.2.2.2 (-1 : Int32)), (put_i 400 en.2.2.2.2.2.1 en.2.2.2.2.2.2.2.2.2.2 (-1 : Int32)), (put_i 400 en.2.2.2.2.2.2.1 en.2.2.2.2.2.2.2.2.2.2 (0 : Int32)), en.2.2.2.2.2.2.2.1, en.2.2.2.2.2.2.2.2.1, en.2.2.2.2.2.2.2.2.2.1, en.2.2.2.2.2.2.2.2.2.2) ra li i2) H := hP
    refine lv_aload_n hx hb dX2_add_98 rfl (lv_at hl 0 rfl) ?_
    refine gX34_7 C hK hP w338 dX2_add_99 ?_
    refine lv_aload_n hx hb dX2_add_102 rfl (lv_at hl 0 rfl) ?_
    refine gX34_10 (v := en.2.2.2.2.2.2.2.2.2.2) C hK hP rfl w341 dX2_add_103 ?_
    refine lv_iconst (v := (0 : Int32)) hx hb dX2_add_106 (by decide) ?_
    refine xput_i (rest := []) C hK hN hP (GX_D hI) hS eX42 (Nat.le_of_ble_eq_true rfl) w822 hl.1 (Nat.le_of_ble_eq_true rfl) dX2_add_107 ⟨Nat.le_of_ble_eq_true rfl, Nat.le_of_ble_eq_true rfl⟩ ⟨Nat.zero_le _, Nat.zero_le _⟩ (fun H locs hP hS => ?_)
    have hP : va_P D vwCl (GX cy ad tk sp nm tp kp cu se ur ab lo im sy un ((put_l 400 en.1 en.2.2.2.2.2.2.2.2.2.2 v1), (put_i 400 en.2.1 en.2.2.2.2.2.2.2.2.2.2 v3), (put_i 400 en.2.2.1 en.2.2.2.2.2.2.2.2.2.2 v4), (put_i 400 en.2.2.2.1 en.2.2.2.2.2.2.2.2.2.2 v5), (put_i 400 en.2.2.2.2.1 en.2.2.2.2.2.2.2.2.2.2 (-1 : Int32)), (put_i 400 en.2.2.2.2.2.1 en.2.2.2.2.2.2.2.2.2.2 (-1 : Int32)), (put_i 400 en.2.2.2.2.2.2.1 en.2.2.2.2.2.2.2.2.2.2 (0 : Int32)), (put_i 400 en.2.2.2.2.2.2.2.1 en.2.2.2.2.2.2.2.2.2.2 (0 : Int32)), en.2.2.2.2.2.2.2.2.1, en.2.2.2.2.2.2.2.2.2.1, en.2.2.2.2.2.2.2.2.2.2) ra li i2) H := hP
    refine lv_aload_n hx hb dX2_add_110 rfl (lv_at hl 0 rfl) ?_
    refine gX34_8 C hK hP w339 dX2_add_111 ?_
    refine lv_aload_n hx hb dX2_add_114 rfl (lv_at hl 0 rfl) ?_
    refine gX34_10 (v := en.2.2.2.2.2.2.2.2.2.2) C hK hP rfl w341 dX2_add_115 ?_
    refine lv_iconst (v := (0 : Int32)) hx hb dX2_add_118 (by decide) ?_
    refine xput_i (rest := []) C hK hN hP (GX_D hI) hS eX43 (Nat.le_of_ble_eq_true rfl) w822 hl.1 (Nat.le_of_ble_eq_true rfl) dX2_add_119 ⟨Nat.le_of_ble_eq_true rfl, Nat.le_of_ble_eq_true rfl⟩ ⟨Nat.zero_le _, Nat.zero_le _⟩ (fun H locs hP hS => ?_)
    have hP : va_P D vwCl (GX cy ad tk sp nm tp kp cu se ur ab lo im sy un ((put_l 400 en.1 en.2.2.2.2.2.2.2.2.2.2 v1), (put_i 400 en.2.1 en.2.2.2.2.2.2.2.2.2.2 v3), (put_i 400 en.2.2.1 en.2.2.2.2.2.2.2.2.2.2 v4), (put_i 400 en.2.2.2.1 en.2.2.2.2.2.2.2.2.2.2 v5), (put_i 400 en.2.2.2.2.1 en.2.2.2.2.2.2.2.2.2.2 (-1 : Int32)), (put_i 400 en.2.2.2.2.2.1 en.2.2.2.2.2.2.2.2.2.2 (-1 : Int32)), (put_i 400 en.2.2.2.2.2.2.1 en.2.2.2.2.2.2.2.2.2.2 (0 : Int32)), (put_i 400 en.2.2.2.2.2.2.2.1 en.2.2.2.2.2.2.2.2.2.2 (0 : Int32)), (put_i 400 en.2.2.2.2.2.2.2.2.1 en.2.2.2.2.2.2.2.2.2.2 (0 : Int32)), en.2.2.2.2.2.2.2.2.2.1, en.2.2.2.2.2.2.2.2.2.2) ra li i2) H := hP
    refine lv_aload_n hx hb dX2_add_122 rfl (lv_at hl 0 rfl) ?_
    refine lv_dup hx hb dX2_add_123 rfl ?_
    refine gX34_10 (v := en.2.2.2.2.2.2.2.2.2.2) C hK hP rfl w341 dX2_add_124 ?_
    refine lv_iconst (v := (1 : Int32)) hx hb dX2_add_127 (by decide) ?_
    refine lv_iadd hx hb dX2_add_128 ?_
    refine pX34_10 (v := (en.2.2.2.2.2.2.2.2.2.2 + (1 : Int32))) C hI hK hP hS w341 dX2_add_129 (fun H locs hP hS => ?_)
    have hP : va_P D vwCl (GX cy ad tk sp nm tp kp cu se ur ab lo im sy un ((put_l 400 en.1 en.2.2.2.2.2.2.2.2.2.2 v1), (put_i 400 en.2.1 en.2.2.2.2.2.2.2.2.2.2 v3), (put_i 400 en.2.2.1 en.2.2.2.2.2.2.2.2.2.2 v4), (put_i 400 en.2.2.2.1 en.2.2.2.2.2.2.2.2.2.2 v5), (put_i 400 en.2.2.2.2.1 en.2.2.2.2.2.2.2.2.2.2 (-1 : Int32)), (put_i 400 en.2.2.2.2.2.1 en.2.2.2.2.2.2.2.2.2.2 (-1 : Int32)), (put_i 400 en.2.2.2.2.2.2.1 en.2.2.2.2.2.2.2.2.2.2 (0 : Int32)), (put_i 400 en.2.2.2.2.2.2.2.1 en.2.2.2.2.2.2.2.2.2.2 (0 : Int32)), (put_i 400 en.2.2.2.2.2.2.2.2.1 en.2.2.2.2.2.2.2.2.2.2 (0 : Int32)), en.2.2.2.2.2.2.2.2.2.1, (en.2.2.2.2.2.2.2.2.2.2 + (1 : Int32))) ra li i2) H := hP
    refine lv_aload_n hx hb dX2_add_132 rfl (lv_at hl 0 rfl) ?_
    refine gX34_10 (v := (en.2.2.2.2.2.2.2.2.2.2 + (1 : Int32))) C hK hP rfl w341 dX2_add_133 ?_
    refine lv_iconst (v := (1 : Int32)) hx hb dX2_add_136 (by decide) ?_
    refine lv_isub hx hb dX2_add_137 ?_
    obtain rfl := h
    exact W.iret hx hb hr (fun t ht _ => ⟨rfl, by rw [ht]; exact hP, hS.F ht⟩) hS.2.2 dX2_add_138 hlk
  · rw [if_neg c1] at h
    refine lv_iconst (v := (-1 : Int32)) hx hb dX2_add_10 (by decide) ?_
    obtain rfl := h
    exact W.iret hx hb hr (fun t ht _ => ⟨rfl, by rw [ht]; exact hP, hS.F ht⟩) hS.2.2 dX2_add_11 hlk
theorem kX2_add (hI : Apart ad 89) {v1 : Int64} {v3 : Int32} {v4 : Int32} {v5 : Int32} {q : Int32 × Ten} (h : X2_add en v1 v3 v4 v5 = q) : Met l yX2_add (.code yX2_add cX2_add 6 (some .int) :: WA) ({ frames := 1, cells := 0, slots := 0, locals := 23 } : Room) (va_Pc [.ref (ad 34), .long v1, .int v3, .int v4, .int v5] (PR D cy (GX cy ad tk sp nm tp kp cu se ur ab lo im sy un en ra li i2))) (QR (some (.int q.1)) D (GX cy ad tk sp nm tp kp cu se ur ab lo im sy un q.2 ra li i2) (Ac ad 89)) 0 0 (Ac ad 89) :=
  met_of (by decide) (Nat.le_of_ble_eq_true rfl) (fun p e s m below meth c ls C hP hK hN hl => bX2_add_0 C hI hK hN h hl hP va_S.rf)
def X2_has (en : Ten) (v1 : Int32) : Int32 := (if v1 < 0 then (0 : Int32) else (if v1 < en.2.2.2.2.2.2.2.2.2.2 then (1 : Int32) else (0 : Int32)))
set_option maxRecDepth 20000 in
theorem bX2_has_0 (C : Cx p s m args meth c cX2_has 2 (some .boolean) RX2 (.code yX2_has cX2_has 2 (some .boolean))) (hK : va_K D vwCl (tysX cy) s) (hN : NW s)  {q : Int32}  {v1 : Int32} (h : X2_has en v1 = q) {ls : Array Slot} (hl : lv_has ls 2 [(0, .ref (ad 34)), (1, .int v1)]) (hP : va_P D vwCl (GX cy ad tk sp nm tp kp cu se ur ab lo im sy un en ra li i2) s.heap) : W p l e ({ frames := 0, cells := 0, slots := 0, locals := 0 } : Room) s m args below meth c s.heap [] 0 0 (MQ below (QP (some (.int q))) args s 0 0 (fun _ => False)) (F0 m 0 ls []) := by
  obtain ⟨hx, hb, hml, hown, hts, hr, hlk⟩ := id C
  unfold X2_has at h
  refine lv_iload_n hx hb dX2_has_0 rfl (lv_at hl 1 rfl) ?_
  refine lv_if_lt (tgt := 16) hx hb dX2_has_1 (by decide) (fun c1 => ?_) (fun c1 => ?_)
  · rw [if_pos c1] at h
    refine lv_iconst (v := (0 : Int32)) hx hb dX2_has_16 (by decide) ?_
    obtain rfl := h
    exact W.zret (ty := .boolean) hx hb hr (by decide) (fun t ht _ => ⟨rfl, ht⟩) (fun _ h9 => by cases h9) dX2_has_17 hlk
  · rw [if_neg c1] at h
    refine lv_iload_n hx hb dX2_has_4 rfl (lv_at hl 1 rfl) ?_
    refine lv_aload_n hx hb dX2_has_5 rfl (lv_at hl 0 rfl) ?_
    refine gX34_10 (v := en.2.2.2.2.2.2.2.2.2.2) C hK hP rfl w341 dX2_has_6 ?_
    refine b_icmp_ge (tgt := 16) hx hb dX2_has_9 (by decide) (fun c2 => ?_) (fun c2 => ?_)
    · rw [if_neg c2] at h
      refine lv_iconst (v := (0 : Int32)) hx hb dX2_has_16 (by decide) ?_
      obtain rfl := h
      exact W.zret (ty := .boolean) hx hb hr (by decide) (fun t ht _ => ⟨rfl, ht⟩) (fun _ h9 => by cases h9) dX2_has_17 hlk
    · rw [if_pos c2] at h
      refine lv_iconst (v := (1 : Int32)) hx hb dX2_has_12 (by decide) ?_
      refine lv_goto (tgt := 17) hx hb dX2_has_13 (by decide) ?_
      obtain rfl := h
      exact W.zret (ty := .boolean) hx hb hr (by decide) (fun t ht _ => ⟨rfl, ht⟩) (fun _ h9 => by cases h9) dX2_has_17 hlk
theorem kX2_has  {v1 : Int32} {q : Int32} (h : X2_has en v1 = q) : Met l yX2_has (.code yX2_has cX2_has 2 (some .boolean) :: WA) ({ frames := 0, cells := 0, slots := 0, locals := 0 } : Room) (va_Pc [.ref (ad 34), .int v1] (PR D cy (GX cy ad tk sp nm tp kp cu se ur ab lo im sy un en ra li i2))) (QP (some (.int q))) 0 0 (fun _ => False) :=
  met_of (by decide) (Nat.le_of_ble_eq_true rfl) (fun p e s m below meth c ls C hP hK hN hl => bX2_has_0 C hK hN h hl hP)
def X2_keepFirst (en : Ten) (v1 : Int32) (v2 : Int32) (v3 : Int64) : Int32 × Ten := (if (X2_has en v1) = 0 then ((0 : Int32), en) else (if ((at_i 400 en.2.2.2.2.2.2.2.2.1 v1) &&& ((1 : Int32) <<< (v2 &&& 31))) = 0 then ((1 : Int32), (en.1, en.2.1, en.2.2.1, en.2.2.2.1, en.2.2.2.2.1, en.2.2.2.2.2.1, en.2.2.2.2.2.2.1, en.2.2.2.2.2.2.2.1, (put_i 400 en.2.2.2.2.2.2.2.2.1 v1 ((at_i 400 en.2.2.2.2.2.2.2.2.1 v1) ||| ((1 : Int32) <<< (v2 &&& 31)))), (put_l 4000 en.2.2.2.2.2.2.2.2.2.1 ((v1 * (10 : Int32)) + v2) v3), en.2.2.2.2.2.2.2.2.2.2)) else ((0 : Int32), en)))
set_option maxRecDepth 20000 in
theorem bX2_keepFirst_0 (C : Cx p s m args meth c cX2_keepFirst 7 (some .boolean) RX2 (.code yX2_keepFirst cX2_keepFirst 7 (some .boolean))) (hI : Apart ad 89) (hK : va_K D vwCl (tysX cy) s) (hN : NW s)  {q : Int32 × Ten}  {v1 : Int32} {v2 : Int32} {v3 : Int64} (h : X2_keepFirst en v1 v2 v3 = q) {ls : Array Slot} (hl : lv_has ls 7 [(0, .ref (ad 34)), (1, .int v1), (2, .int v2), (3, .long v3)]) {H : Heap} {locs : List Loc} (hP : va_P D vwCl (GX cy ad tk sp nm tp kp cu se ur ab lo im sy un en ra li i2) H) (hS : va_S (Ac ad 89) s.heap H locs) : W p l e ({ frames := 1, cells := 0, slots := 0, locals := 23 } : Room) s m args below meth c H locs 0 0 (MQ below (QR (some (.int q.1)) D (GX cy ad tk sp nm tp kp cu se ur ab lo im sy un q.2 ra li i2) (Ac ad 89)) args s 0 0 (Ac ad 89)) (F0 m 0 ls []) := by
  obtain ⟨hx, hb, hml, hown, hts, hr, hlk⟩ := id C
  unfold X2_keepFirst at h
  refine lv_aload_n hx hb dX2_keepFirst_0 rfl (lv_at hl 0 rfl) ?_
  refine gX34_8 C hK hP w339 dX2_keepFirst_1 ?_
  refine lv_iload_n hx hb dX2_keepFirst_4 rfl (lv_at hl 1 rfl) ?_
  refine xat_i (rest := []) C hK hN hP eX43 (Nat.le_of_ble_eq_true rfl) w880 hl.1 (Nat.le_of_ble_eq_true rfl) dX2_keepFirst_5 ⟨Nat.le_of_ble_eq_true rfl, Nat.le_of_ble_eq_true rfl⟩ ⟨Nat.zero_le _, Nat.zero_le _⟩ ?_
  refine lv_istore (lv' := [(5, .int (at_i 400 en.2.2.2.2.2.2.2.2.1 v1)), (0, .ref (ad 34)), (1, .int v1), (2, .int v2), (3, .long v3)]) hx hb dX2_keepFirst_8 hl (by decide) rfl (fun ls hl => ?_)
  refine lv_iconst (v := (1 : Int32)) hx hb dX2_keepFirst_10 (by decide) ?_
  refine lv_iload_n hx hb dX2_keepFirst_11 rfl (lv_at hl 3 rfl) ?_
  refine lv_ishl hx hb dX2_keepFirst_12 ?_
  refine lv_istore (lv' := [(6, .int ((1 : Int32) <<< (v2 &&& 31))), (5, .int (at_i 400 en.2.2.2.2.2.2.2.2.1 v1)), (0, .ref (ad 34)), (1, .int v1), (2, .int v2), (3, .long v3)]) hx hb dX2_keepFirst_13 hl (by decide) rfl (fun ls hl => ?_)
  refine lv_aload_n hx hb dX2_keepFirst_15 rfl (lv_at hl 2 rfl) ?_
  refine lv_iload_n hx hb dX2_keepFirst_16 rfl (lv_at hl 3 rfl) ?_
  refine cPi (run_V (rest := []) C (kX2_has rfl) caX2_has w881 ⟨rfl, rfl, Nat.le_of_ble_eq_true rfl, Nat.le_of_ble_eq_true rfl⟩ hK hN hP (rX34 hK hP) rfl hl.1 rfl (Nat.le_of_ble_eq_true rfl) dX2_keepFirst_17 ⟨Nat.zero_le _, Nat.zero_le _⟩) ?_
  refine lv_if_eq (tgt := 31) hx hb dX2_keepFirst_20 (by decide) (fun c1 => ?_) (fun c1 => ?_)
  · rw [if_pos c1] at h
    refine lv_iconst (v := (0 : Int32)) hx hb dX2_keepFirst_31 (by decide) ?_
    obtain rfl := h
    exact W.zret (ty := .boolean) hx hb hr (by decide) (fun t ht _ => ⟨rfl, by rw [ht]; exact hP, hS.F ht⟩) hS.2.2 dX2_keepFirst_32 hlk
  · rw [if_neg c1] at h
    refine lv_iload hx hb dX2_keepFirst_23 (lv_at hl 1 rfl) ?_
    refine lv_iload hx hb dX2_keepFirst_25 (lv_at hl 0 rfl) ?_
    refine lv_iand hx hb dX2_keepFirst_27 ?_
    refine lv_if_eq (tgt := 33) hx hb dX2_keepFirst_28 (by decide) (fun c2 => ?_) (fun c2 => ?_)
    · rw [if_pos c2] at h
      refine lv_aload_n hx hb dX2_keepFirst_33 rfl (lv_at hl 2 rfl) ?_
      refine gX34_9 C hK hP w340 dX2_keepFirst_34 ?_
      refine lv_iload_n hx hb dX2_keepFirst_37 rfl (lv_at hl 3 rfl) ?_
      refine lv_bipush (v := (10 : Int32)) hx hb dX2_keepFirst_38 (by decide) ?_
      refine lv_imul hx hb dX2_keepFirst_40 ?_
      refine lv_iload_n hx hb dX2_keepFirst_41 rfl (lv_at hl 4 rfl) ?_
      refine lv_iadd hx hb dX2_keepFirst_42 ?_
      refine lv_lload_n hx hb dX2_keepFirst_43 rfl (lv_at hl 5 rfl) ?_
      refine xput_l (rest := []) C hK hN hP (GX_D hI) hS eX44 (Nat.le_of_ble_eq_true rfl) w821 hl.1 (Nat.le_of_ble_eq_true rfl) dX2_keepFirst_44 ⟨Nat.le_of_ble_eq_true rfl, Nat.le_of_ble_eq_true rfl⟩ ⟨Nat.zero_le _, Nat.zero_le _⟩ (fun H locs hP hS => ?_)
      have hP : va_P D vwCl (GX cy ad tk sp nm tp kp cu se ur ab lo im sy un (en.1, en.2.1, en.2.2.1, en.2.2.2.1, en.2.2.2.2.1, en.2.2.2.2.2.1, en.2.2.2.2.2.2.1, en.2.2.2.2.2.2.2.1, en.2.2.2.2.2.2.2.2.1, (put_l 4000 en.2.2.2.2.2.2.2.2.2.1 ((v1 * (10 : Int32)) + v2) v3), en.2.2.2.2.2.2.2.2.2.2) ra li i2) H := hP
      refine lv_aload_n hx hb dX2_keepFirst_47 rfl (lv_at hl 2 rfl) ?_
      refine gX34_8 C hK hP w339 dX2_keepFirst_48 ?_
      refine lv_iload_n hx hb dX2_keepFirst_51 rfl (lv_at hl 3 rfl) ?_
      refine lv_iload hx hb dX2_keepFirst_52 (lv_at hl 1 rfl) ?_
      refine lv_iload hx hb dX2_keepFirst_54 (lv_at hl 0 rfl) ?_
      refine lv_ior hx hb dX2_keepFirst_56 ?_
      refine xput_i (rest := []) C hK hN hP (GX_D hI) hS eX43 (Nat.le_of_ble_eq_true rfl) w822 hl.1 (Nat.le_of_ble_eq_true rfl) dX2_keepFirst_57 ⟨Nat.le_of_ble_eq_true rfl, Nat.le_of_ble_eq_true rfl⟩ ⟨Nat.zero_le _, Nat.zero_le _⟩ (fun H locs hP hS => ?_)
      have hP : va_P D vwCl (GX cy ad tk sp nm tp kp cu se ur ab lo im sy un (en.1, en.2.1, en.2.2.1, en.2.2.2.1, en.2.2.2.2.1, en.2.2.2.2.2.1, en.2.2.2.2.2.2.1, en.2.2.2.2.2.2.2.1, (put_i 400 en.2.2.2.2.2.2.2.2.1 v1 ((at_i 400 en.2.2.2.2.2.2.2.2.1 v1) ||| ((1 : Int32) <<< (v2 &&& 31)))), (put_l 4000 en.2.2.2.2.2.2.2.2.2.1 ((v1 * (10 : Int32)) + v2) v3), en.2.2.2.2.2.2.2.2.2.2) ra li i2) H := hP
      refine lv_iconst (v := (1 : Int32)) hx hb dX2_keepFirst_60 (by decide) ?_
      obtain rfl := h
      exact W.zret (ty := .boolean) hx hb hr (by decide) (fun t ht _ => ⟨rfl, by rw [ht]; exact hP, hS.F ht⟩) hS.2.2 dX2_keepFirst_61 hlk
    · rw [if_neg c2] at h
      refine lv_iconst (v := (0 : Int32)) hx hb dX2_keepFirst_31 (by decide) ?_
      obtain rfl := h
      exact W.zret (ty := .boolean) hx hb hr (by decide) (fun t ht _ => ⟨rfl, by rw [ht]; exact hP, hS.F ht⟩) hS.2.2 dX2_keepFirst_32 hlk
theorem kX2_keepFirst (hI : Apart ad 89) {v1 : Int32} {v2 : Int32} {v3 : Int64} {q : Int32 × Ten} (h : X2_keepFirst en v1 v2 v3 = q) : Met l yX2_keepFirst (.code yX2_keepFirst cX2_keepFirst 7 (some .boolean) :: WA) ({ frames := 1, cells := 0, slots := 0, locals := 23 } : Room) (va_Pc [.ref (ad 34), .int v1, .int v2, .long v3] (PR D cy (GX cy ad tk sp nm tp kp cu se ur ab lo im sy un en ra li i2))) (QR (some (.int q.1)) D (GX cy ad tk sp nm tp kp cu se ur ab lo im sy un q.2 ra li i2) (Ac ad 89)) 0 0 (Ac ad 89) :=
  met_of (by decide) (Nat.le_of_ble_eq_true rfl) (fun p e s m below meth c ls C hP hK hN hl => bX2_keepFirst_0 C hI hK hN h hl hP va_S.rf)
def X2_keepName (en : Ten) (v1 : Int32) (v2 : Int32) (v3 : Int32) : Ten := (letq (X2_keepFirst en v1 (0 : Int32) ((v2).toInt64)) fun q1 => (if q1.1 = 0 then q1.2 else (q1.2.1, q1.2.2.1, q1.2.2.2.1, q1.2.2.2.2.1, q1.2.2.2.2.2.1, (put_i 400 q1.2.2.2.2.2.2.1 v1 v3), q1.2.2.2.2.2.2.2.1, q1.2.2.2.2.2.2.2.2.1, q1.2.2.2.2.2.2.2.2.2.1, q1.2.2.2.2.2.2.2.2.2.2.1, q1.2.2.2.2.2.2.2.2.2.2.2)))
set_option maxRecDepth 20000 in
theorem bX2_keepName_0 (C : Cx p s m args meth c cX2_keepName 4 none RX2 (.code yX2_keepName cX2_keepName 4 none)) (hI : Apart ad 89) (hK : va_K D vwCl (tysX cy) s) (hN : NW s)  {q : Ten}  {v1 : Int32} {v2 : Int32} {v3 : Int32} (h : X2_keepName en v1 v2 v3 = q) {ls : Array Slot} (hl : lv_has ls 4 [(0, .ref (ad 34)), (1, .int v1), (2, .int v2), (3, .int v3)]) {H : Heap} {locs : List Loc} (hP : va_P D vwCl (GX cy ad tk sp nm tp kp cu se ur ab lo im sy un en ra li i2) H) (hS : va_S (Ac ad 89) s.heap H locs) : W p l e ({ frames := 2, cells := 0, slots := 0, locals := 49 } : Room) s m args below meth c H locs 0 0 (MQ below (QR none D (GX cy ad tk sp nm tp kp cu se ur ab lo im sy un q ra li i2) (Ac ad 89)) args s 0 0 (Ac ad 89)) (F0 m 0 ls []) := by
  obtain ⟨hx, hb, hml, hown, hts, hr, hlk⟩ := id C
  unfold X2_keepName at h
  refine lv_aload_n hx hb dX2_keepName_0 rfl (lv_at hl 0 rfl) ?_
  refine lv_iload_n hx hb dX2_keepName_1 rfl (lv_at hl 1 rfl) ?_
  refine lv_iconst (v := (0 : Int32)) hx hb dX2_keepName_2 (by decide) ?_
  refine lv_iload_n hx hb dX2_keepName_3 rfl (lv_at hl 2 rfl) ?_
  refine lv_i2l (v := ((v2).toInt64)) hx hb dX2_keepName_4 rfl ?_
  obtain ⟨q1, h2, h⟩ := lets h
  refine cRi (run_V (rest := []) C (kX2_keepFirst hI h2) caX2_keepFirst w876 ⟨rfl, rfl, Nat.le_of_ble_eq_true rfl, Nat.le_of_ble_eq_true rfl⟩ hK hN hP (rX34 hK hP) rfl hl.1 rfl (Nat.le_of_ble_eq_true rfl) dX2_keepName_5 ⟨Nat.zero_le _, Nat.zero_le _⟩) hS (fun H locs hP hS => ?_)
  have hP : va_P D vwCl (GX cy ad tk sp nm tp kp cu se ur ab lo im sy un q1.2 ra li i2) H := hP
  refine lv_if_eq (tgt := 20) hx hb dX2_keepName_8 (by decide) (fun c3 => ?_) (fun c3 => ?_)
  · rw [if_pos c3] at h
    obtain rfl := h
    exact W.vret hx hb hr (fun t ht _ => ⟨rfl, by rw [ht]; exact hP, hS.F ht⟩) hS.2.2 dX2_keepName_20 hlk
  · rw [if_neg c3] at h
    refine lv_aload_n hx hb dX2_keepName_11 rfl (lv_at hl 0 rfl) ?_
    refine gX34_5 C hK hP w336 dX2_keepName_12 ?_
    refine lv_iload_n hx hb dX2_keepName_15 rfl (lv_at hl 1 rfl) ?_
    refine lv_iload_n hx hb dX2_keepName_16 rfl (lv_at hl 3 rfl) ?_
    refine xput_i (rest := []) C hK hN hP (GX_D hI) hS eX40 (Nat.le_of_ble_eq_true rfl) w822 hl.1 (Nat.le_of_ble_eq_true rfl) dX2_keepName_17 ⟨Nat.le_of_ble_eq_true rfl, Nat.le_of_ble_eq_true rfl⟩ ⟨Nat.zero_le _, Nat.zero_le _⟩ (fun H locs hP hS => ?_)
    have hP : va_P D vwCl (GX cy ad tk sp nm tp kp cu se ur ab lo im sy un (q1.2.1, q1.2.2.1, q1.2.2.2.1, q1.2.2.2.2.1, q1.2.2.2.2.2.1, (put_i 400 q1.2.2.2.2.2.2.1 v1 v3), q1.2.2.2.2.2.2.2.1, q1.2.2.2.2.2.2.2.2.1, q1.2.2.2.2.2.2.2.2.2.1, q1.2.2.2.2.2.2.2.2.2.2.1, q1.2.2.2.2.2.2.2.2.2.2.2) ra li i2) H := hP
    obtain rfl := h
    exact W.vret hx hb hr (fun t ht _ => ⟨rfl, by rw [ht]; exact hP, hS.F ht⟩) hS.2.2 dX2_keepName_20 hlk
theorem kX2_keepName (hI : Apart ad 89) {v1 : Int32} {v2 : Int32} {v3 : Int32} {q : Ten} (h : X2_keepName en v1 v2 v3 = q) : Met l yX2_keepName (.code yX2_keepName cX2_keepName 4 none :: WA) ({ frames := 2, cells := 0, slots := 0, locals := 49 } : Room) (va_Pc [.ref (ad 34), .int v1, .int v2, .int v3] (PR D cy (GX cy ad tk sp nm tp kp cu se ur ab lo im sy un en ra li i2))) (QR none D (GX cy ad tk sp nm tp kp cu se ur ab lo im sy un q ra li i2) (Ac ad 89)) 0 0 (Ac ad 89) :=
  met_of (by decide) (Nat.le_of_ble_eq_true rfl) (fun p e s m below meth c ls C hP hK hN hl => bX2_keepName_0 C hI hK hN h hl hP va_S.rf)
def X2_setRanges (en : Ten) (v1 : Int32) (v2 : Int32) (v3 : Int32) : Ten := (en.1, en.2.1, en.2.2.1, en.2.2.2.1, en.2.2.2.2.1, en.2.2.2.2.2.1, (put_i 400 en.2.2.2.2.2.2.1 v1 v2), (put_i 400 en.2.2.2.2.2.2.2.1 v1 v3), en.2.2.2.2.2.2.2.2.1, en.2.2.2.2.2.2.2.2.2.1, en.2.2.2.2.2.2.2.2.2.2)
set_option maxRecDepth 20000 in
theorem bX2_setRanges_0 (C : Cx p s m args meth c cX2_setRanges 4 none RX2 (.code yX2_setRanges cX2_setRanges 4 none)) (hI : Apart ad 89) (hK : va_K D vwCl (tysX cy) s) (hN : NW s)  {q : Ten}  {v1 : Int32} {v2 : Int32} {v3 : Int32} (h : X2_setRanges en v1 v2 v3 = q) {ls : Array Slot} (hl : lv_has ls 4 [(0, .ref (ad 34)), (1, .int v1), (2, .int v2), (3, .int v3)]) {H : Heap} {locs : List Loc} (hP : va_P D vwCl (GX cy ad tk sp nm tp kp cu se ur ab lo im sy un en ra li i2) H) (hS : va_S (Ac ad 89) s.heap H locs) : W p l e ({ frames := 1, cells := 0, slots := 0, locals := 22 } : Room) s m args below meth c H locs 0 0 (MQ below (QR none D (GX cy ad tk sp nm tp kp cu se ur ab lo im sy un q ra li i2) (Ac ad 89)) args s 0 0 (Ac ad 89)) (F0 m 0 ls []) := by
  obtain ⟨hx, hb, hml, hown, hts, hr, hlk⟩ := id C
  unfold X2_setRanges at h
  refine lv_aload_n hx hb dX2_setRanges_0 rfl (lv_at hl 0 rfl) ?_
  refine gX34_6 C hK hP w337 dX2_setRanges_1 ?_
  refine lv_iload_n hx hb dX2_setRanges_4 rfl (lv_at hl 1 rfl) ?_
  refine lv_iload_n hx hb dX2_setRanges_5 rfl (lv_at hl 2 rfl) ?_
  refine xput_i (rest := []) C hK hN hP (GX_D hI) hS eX41 (Nat.le_of_ble_eq_true rfl) w822 hl.1 (Nat.le_of_ble_eq_true rfl) dX2_setRanges_6 ⟨Nat.le_of_ble_eq_true rfl, Nat.le_of_ble_eq_true rfl⟩ ⟨Nat.zero_le _, Nat.zero_le _⟩ (fun H locs hP hS => ?_)
  have hP : va_P D vwCl (GX cy ad tk sp nm tp kp cu se ur ab lo im sy un (en.1, en.2.1, en.2.2.1, en.2.2.2.1, en.2.2.2.2.1, en.2.2.2.2.2.1, (put_i 400 en.2.2.2.2.2.2.1 v1 v2), en.2.2.2.2.2.2.2.1, en.2.2.2.2.2.2.2.2.1, en.2.2.2.2.2.2.2.2.2.1, en.2.2.2.2.2.2.2.2.2.2) ra li i2) H := hP
  refine lv_aload_n hx hb dX2_setRanges_9 rfl (lv_at hl 0 rfl) ?_
  refine gX34_7 C hK hP w338 dX2_setRanges_10 ?_
  refine lv_iload_n hx hb dX2_setRanges_13 rfl (lv_at hl 1 rfl) ?_
  refine lv_iload_n hx hb dX2_setRanges_14 rfl (lv_at hl 3 rfl) ?_
  refine xput_i (rest := []) C hK hN hP (GX_D hI) hS eX42 (Nat.le_of_ble_eq_true rfl) w822 hl.1 (Nat.le_of_ble_eq_true rfl) dX2_setRanges_15 ⟨Nat.le_of_ble_eq_true rfl, Nat.le_of_ble_eq_true rfl⟩ ⟨Nat.zero_le _, Nat.zero_le _⟩ (fun H locs hP hS => ?_)
  have hP : va_P D vwCl (GX cy ad tk sp nm tp kp cu se ur ab lo im sy un (en.1, en.2.1, en.2.2.1, en.2.2.2.1, en.2.2.2.2.1, en.2.2.2.2.2.1, (put_i 400 en.2.2.2.2.2.2.1 v1 v2), (put_i 400 en.2.2.2.2.2.2.2.1 v1 v3), en.2.2.2.2.2.2.2.2.1, en.2.2.2.2.2.2.2.2.2.1, en.2.2.2.2.2.2.2.2.2.2) ra li i2) H := hP
  obtain rfl := h
  exact W.vret hx hb hr (fun t ht _ => ⟨rfl, by rw [ht]; exact hP, hS.F ht⟩) hS.2.2 dX2_setRanges_18 hlk
theorem kX2_setRanges (hI : Apart ad 89) {v1 : Int32} {v2 : Int32} {v3 : Int32} {q : Ten} (h : X2_setRanges en v1 v2 v3 = q) : Met l yX2_setRanges (.code yX2_setRanges cX2_setRanges 4 none :: WA) ({ frames := 1, cells := 0, slots := 0, locals := 22 } : Room) (va_Pc [.ref (ad 34), .int v1, .int v2, .int v3] (PR D cy (GX cy ad tk sp nm tp kp cu se ur ab lo im sy un en ra li i2))) (QR none D (GX cy ad tk sp nm tp kp cu se ur ab lo im sy un q ra li i2) (Ac ad 89)) 0 0 (Ac ad 89) :=
  met_of (by decide) (Nat.le_of_ble_eq_true rfl) (fun p e s m below meth c ls C hP hK hN hl => bX2_setRanges_0 C hI hK hN h hl hP va_S.rf)
def X2_placeOf (en : Ten) (v1 : Int32) : Int32 := (at_i 400 en.2.2.2.1 v1)
set_option maxRecDepth 20000 in
theorem bX2_placeOf_0 (C : Cx p s m args meth c cX2_placeOf 2 (some .int) RX2 (.code yX2_placeOf cX2_placeOf 2 (some .int))) (hK : va_K D vwCl (tysX cy) s) (hN : NW s)  {q : Int32}  {v1 : Int32} (h : X2_placeOf en v1 = q) {ls : Array Slot} (hl : lv_has ls 2 [(0, .ref (ad 34)), (1, .int v1)]) (hP : va_P D vwCl (GX cy ad tk sp nm tp kp cu se ur ab lo im sy un en ra li i2) s.heap) : W p l e ({ frames := 1, cells := 0, slots := 0, locals := 21 } : Room) s m args below meth c s.heap [] 0 0 (MQ below (QP (some (.int q))) args s 0 0 (fun _ => False)) (F0 m 0 ls []) := by
  obtain ⟨hx, hb, hml, hown, hts, hr, hlk⟩ := id C
  unfold X2_placeOf at h
  refine lv_aload_n hx hb dX2_placeOf_0 rfl (lv_at hl 0 rfl) ?_
  refine gX34_3 C hK hP w334 dX2_placeOf_1 ?_
  refine lv_iload_n hx hb dX2_placeOf_4 rfl (lv_at hl 1 rfl) ?_
  refine xat_i (rest := []) C hK hN hP eX38 (Nat.le_of_ble_eq_true rfl) w880 hl.1 (Nat.le_of_ble_eq_true rfl) dX2_placeOf_5 ⟨Nat.le_of_ble_eq_true rfl, Nat.le_of_ble_eq_true rfl⟩ ⟨Nat.zero_le _, Nat.zero_le _⟩ ?_
  obtain rfl := h
  exact W.iret hx hb hr (fun t ht _ => ⟨rfl, ht⟩) (fun _ h9 => by cases h9) dX2_placeOf_8 hlk
theorem kX2_placeOf  {v1 : Int32} {q : Int32} (h : X2_placeOf en v1 = q) : Met l yX2_placeOf (.code yX2_placeOf cX2_placeOf 2 (some .int) :: WA) ({ frames := 1, cells := 0, slots := 0, locals := 21 } : Room) (va_Pc [.ref (ad 34), .int v1] (PR D cy (GX cy ad tk sp nm tp kp cu se ur ab lo im sy un en ra li i2))) (QP (some (.int q))) 0 0 (fun _ => False) :=
  met_of (by decide) (Nat.le_of_ble_eq_true rfl) (fun p e s m below meth c ls C hP hK hN hl => bX2_placeOf_0 C hK hN h hl hP)
def X2_placedAt_80 (en : Ten) (k14 : Int64 → Int32 → Int32 → Int32 → Option (Int32))  (v1 : Int64) (v4 : Int32) (v5 : Int32) (v6 : Int32) : Option (Int32) := k14 v1 v4 v5 (v6 + (1 : Int32))
set_option maxRecDepth 20000 in
theorem bX2_placedAt_80 (C : Cx p s m args meth c cX2_placedAt 9 (some .int) RX2 (.code yX2_placedAt cX2_placedAt 9 (some .int))) (hK : va_K D vwCl (tysX cy) s) (hN : NW s) {k14 : Int64 → Int32 → Int32 → Int32 → Option (Int32)} {q : Int32} (hk14 : ∀  {v1 : Int64} {v4 : Int32} {v5 : Int32} {v6 : Int32}, k14 v1 v4 v5 v6 = some q → ∀ {ls : Array Slot}, lv_has ls 9 [(0, .ref (ad 34)), (1, .long v1), (4, .int v4), (5, .int v5), (6, .int v6)] → va_P D vwCl (GX cy ad tk sp nm tp kp cu se ur ab lo im sy un en ra li i2) s.heap → W p l e ({ frames := 2, cells := 0, slots := 0, locals := 42 } : Room) s m args below meth c s.heap [] 0 0 (MQ below (QP (some (.int q))) args s 0 0 (fun _ => False)) (F0 m 14 ls [])) {v1 : Int64} {v4 : Int32} {v5 : Int32} {v6 : Int32} (h : X2_placedAt_80 en k14 v1 v4 v5 v6 = some q) {ls : Array Slot} (hl : lv_has ls 9 [(0, .ref (ad 34)), (1, .long v1), (4, .int v4), (5, .int v5), (6, .int v6)]) (hP : va_P D vwCl (GX cy ad tk sp nm tp kp cu se ur ab lo im sy un en ra li i2) s.heap) : W p l e ({ frames := 2, cells := 0, slots := 0, locals := 42 } : Room) s m args below meth c s.heap [] 0 0 (MQ below (QP (some (.int q))) args s 0 0 (fun _ => False)) (F0 m 80 ls []) := by
  obtain ⟨hx, hb, hml, hown, hts, hr, hlk⟩ := id C
  unfold X2_placedAt_80 at h
  refine lv_iinc (v := (v6 + (1 : Int32))) (lv' := [(6, .int (v6 + (1 : Int32))), (0, .ref (ad 34)), (1, .long v1), (4, .int v4), (5, .int v5)]) hx hb dX2_placedAt_80 hl (k := 4) rfl rfl (by decide) rfl (fun ls hl => ?_)
  refine lv_goto (tgt := 14) hx hb dX2_placedAt_83 (by decide) ?_
  exact hk14 h (lv_sub hl [1, 2, 3, 4, 0] rfl) hP
def X2_placedAt_14b (en : Ten)  (k14 : Int64 → Int32 → Int32 → Int32 → Option (Int32))  (v1 : Int64) (v4 : Int32) (v5 : Int32) (v6 : Int32) : Option (Int32) := (if v6 < (400 : Int32) then (if v5 < v4 then some (-1 : Int32) else (if (((X2_placeOf en ((v4 + v5) / (2 : Int32)))).toInt64) = v1 then some ((v4 + v5) / (2 : Int32)) else (if (((X2_placeOf en ((v4 + v5) / (2 : Int32)))).toInt64) < v1 then X2_placedAt_80 en k14 v1 (((v4 + v5) / (2 : Int32)) + (1 : Int32)) v5 v6 else X2_placedAt_80 en k14 v1 v4 (((v4 + v5) / (2 : Int32)) - (1 : Int32)) v6))) else some (-1 : Int32))
def X2_placedAt_14 (en : Ten)  (n : Nat) (st : Int64 × Int32 × Int32 × Int32) : Option (Int32) := lp (fun rec st => X2_placedAt_14b en  (fun a0 a1 a2 a3 => rec (a0, a1, a2, a3)) st.1 st.2.1 st.2.2.1 st.2.2.2) n st
set_option maxRecDepth 20000 in
theorem bX2_placedAt_14 (C : Cx p s m args meth c cX2_placedAt 9 (some .int) RX2 (.code yX2_placedAt cX2_placedAt 9 (some .int))) (hK : va_K D vwCl (tysX cy) s) (hN : NW s)  {q : Int32}  : ∀ (n : Nat)  {v1 : Int64} {v4 : Int32} {v5 : Int32} {v6 : Int32}, X2_placedAt_14 en  n (v1, v4, v5, v6) = some q → ∀ {ls : Array Slot}, lv_has ls 9 [(0, .ref (ad 34)), (1, .long v1), (4, .int v4), (5, .int v5), (6, .int v6)] → va_P D vwCl (GX cy ad tk sp nm tp kp cu se ur ab lo im sy un en ra li i2) s.heap → W p l e ({ frames := 2, cells := 0, slots := 0, locals := 42 } : Room) s m args below meth c s.heap [] 0 0 (MQ below (QP (some (.int q))) args s 0 0 (fun _ => False)) (F0 m 14 ls []) := by
  obtain ⟨hx, hb, hml, hown, hts, hr, hlk⟩ := id C
  intro n
  induction n with
  | zero =>
    intro v1 v4 v5 v6 h ls hl hP
    have h : (none : Option (Int32)) = some q := h
    cases h
  | succ n ih =>
    intro v1 v4 v5 v6 h ls hl hP
    have h : X2_placedAt_14b en  (fun a0 a1 a2 a3 => X2_placedAt_14 en  n (a0, a1, a2, a3)) v1 v4 v5 v6 = some q := h
    unfold X2_placedAt_14b at h
    refine lv_iload hx hb dX2_placedAt_14 (lv_at hl 4 rfl) ?_
    refine lv_sipush (v := (400 : Int32)) hx hb dX2_placedAt_16 (by decide) ?_
    refine b_icmp_ge (tgt := 86) hx hb dX2_placedAt_19 (by decide) (fun c1 => ?_) (fun c1 => ?_)
    · rw [if_neg c1] at h
      refine lv_iconst (v := (-1 : Int32)) hx hb dX2_placedAt_86 (by decide) ?_
      obtain rfl := Option.some.inj h
      exact W.iret hx hb hr (fun t ht _ => ⟨rfl, ht⟩) (fun _ h9 => by cases h9) dX2_placedAt_87 hlk
    · rw [if_pos c1] at h
      refine lv_iload hx hb dX2_placedAt_22 (lv_at hl 2 rfl) ?_
      refine lv_iload hx hb dX2_placedAt_24 (lv_at hl 3 rfl) ?_
      refine lv_icmp_gt (tgt := 86) hx hb dX2_placedAt_26 (by decide) (fun c2 => ?_) (fun c2 => ?_)
      · rw [if_pos c2] at h
        refine lv_iconst (v := (-1 : Int32)) hx hb dX2_placedAt_86 (by decide) ?_
        obtain rfl := Option.some.inj h
        exact W.iret hx hb hr (fun t ht _ => ⟨rfl, ht⟩) (fun _ h9 => by cases h9) dX2_placedAt_87 hlk
      · rw [if_neg c2] at h
        refine lv_iload hx hb dX2_placedAt_29 (lv_at hl 2 rfl) ?_
        refine lv_iload hx hb dX2_placedAt_31 (lv_at hl 3 rfl) ?_
        refine lv_iadd hx hb dX2_placedAt_33 ?_
        refine lv_iconst (v := (2 : Int32)) hx hb dX2_placedAt_34 (by decide) ?_
        refine lv_idiv hx hb dX2_placedAt_35 (by decide) ?_
        refine lv_istore (lv' := [(7, .int ((v4 + v5) / (2 : Int32))), (0, .ref (ad 34)), (1, .long v1), (4, .int v4), (5, .int v5), (6, .int v6)]) hx hb dX2_placedAt_36 hl (by decide) rfl (fun ls hl => ?_)
        refine lv_aload_n hx hb dX2_placedAt_38 rfl (lv_at hl 1 rfl) ?_
        refine lv_iload hx hb dX2_placedAt_39 (lv_at hl 0 rfl) ?_
        refine cPi (run_V (rest := []) C (kX2_placeOf rfl) caX2_placeOf w921 ⟨rfl, rfl, Nat.le_of_ble_eq_true rfl, Nat.le_of_ble_eq_true rfl⟩ hK hN hP (rX34 hK hP) rfl hl.1 rfl (Nat.le_of_ble_eq_true rfl) dX2_placedAt_41 ⟨Nat.zero_le _, Nat.zero_le _⟩) ?_
        refine lv_istore (lv' := [(8, .int (X2_placeOf en ((v4 + v5) / (2 : Int32)))), (7, .int ((v4 + v5) / (2 : Int32))), (0, .ref (ad 34)), (1, .long v1), (4, .int v4), (5, .int v5), (6, .int v6)]) hx hb dX2_placedAt_44 hl (by decide) rfl (fun ls hl => ?_)
        refine lv_iload hx hb dX2_placedAt_46 (lv_at hl 0 rfl) ?_
        refine lv_i2l (v := (((X2_placeOf en ((v4 + v5) / (2 : Int32)))).toInt64)) hx hb dX2_placedAt_48 rfl ?_
        refine lv_lload_n hx hb dX2_placedAt_49 rfl (lv_at hl 3 rfl) ?_
        refine lc_ne (tgt := 57) hx hb dX2_placedAt_50 dX2_placedAt_51 (by decide) (fun c3 => ?_) (fun c3 => ?_)
        · rw [if_neg c3] at h
          refine lv_iload hx hb dX2_placedAt_57 (lv_at hl 0 rfl) ?_
          refine lv_i2l (v := (((X2_placeOf en ((v4 + v5) / (2 : Int32)))).toInt64)) hx hb dX2_placedAt_59 rfl ?_
          refine lv_lload_n hx hb dX2_placedAt_60 rfl (lv_at hl 3 rfl) ?_
          refine lc_ge (tgt := 74) hx hb dX2_placedAt_61 dX2_placedAt_62 (by decide) (fun c4 => ?_) (fun c4 => ?_)
          · rw [if_neg c4] at h
            refine lv_iload hx hb dX2_placedAt_74 (lv_at hl 1 rfl) ?_
            refine lv_iconst (v := (1 : Int32)) hx hb dX2_placedAt_76 (by decide) ?_
            refine lv_isub hx hb dX2_placedAt_77 ?_
            refine lv_istore (lv' := [(5, .int (((v4 + v5) / (2 : Int32)) - (1 : Int32))), (8, .int (X2_placeOf en ((v4 + v5) / (2 : Int32)))), (7, .int ((v4 + v5) / (2 : Int32))), (0, .ref (ad 34)), (1, .long v1), (4, .int v4), (6, .int v6)]) hx hb dX2_placedAt_78 hl (by decide) rfl (fun ls hl => ?_)
            exact bX2_placedAt_80 C hK hN @ih h (lv_sub hl [3, 4, 5, 0, 6] rfl) hP
          · rw [if_pos c4] at h
            refine lv_iload hx hb dX2_placedAt_65 (lv_at hl 1 rfl) ?_
            refine lv_iconst (v := (1 : Int32)) hx hb dX2_placedAt_67 (by decide) ?_
            refine lv_iadd hx hb dX2_placedAt_68 ?_
            refine lv_istore (lv' := [(4, .int (((v4 + v5) / (2 : Int32)) + (1 : Int32))), (8, .int (X2_placeOf en ((v4 + v5) / (2 : Int32)))), (7, .int ((v4 + v5) / (2 : Int32))), (0, .ref (ad 34)), (1, .long v1), (5, .int v5), (6, .int v6)]) hx hb dX2_placedAt_69 hl (by decide) rfl (fun ls hl => ?_)
            refine lv_goto (tgt := 80) hx hb dX2_placedAt_71 (by decide) ?_
            exact bX2_placedAt_80 C hK hN @ih h (lv_sub hl [3, 4, 0, 5, 6] rfl) hP
        · rw [if_pos c3] at h
          refine lv_iload hx hb dX2_placedAt_54 (lv_at hl 1 rfl) ?_
          obtain rfl := Option.some.inj h
          exact W.iret hx hb hr (fun t ht _ => ⟨rfl, ht⟩) (fun _ h9 => by cases h9) dX2_placedAt_56 hlk
def X2_placedAt (en : Ten) (v1 : Int64) (v3 : Int32) : Option (Int32) := X2_placedAt_14 en FU (v1, v3, (en.2.2.2.2.2.2.2.2.2.2 - (1 : Int32)), (0 : Int32))
set_option maxRecDepth 20000 in
theorem bX2_placedAt_0 (C : Cx p s m args meth c cX2_placedAt 9 (some .int) RX2 (.code yX2_placedAt cX2_placedAt 9 (some .int))) (hK : va_K D vwCl (tysX cy) s) (hN : NW s)  {q : Int32}  {v1 : Int64} {v3 : Int32} (h : X2_placedAt en v1 v3 = some q) {ls : Array Slot} (hl : lv_has ls 9 [(0, .ref (ad 34)), (1, .long v1), (3, .int v3)]) (hP : va_P D vwCl (GX cy ad tk sp nm tp kp cu se ur ab lo im sy un en ra li i2) s.heap) : W p l e ({ frames := 2, cells := 0, slots := 0, locals := 42 } : Room) s m args below meth c s.heap [] 0 0 (MQ below (QP (some (.int q))) args s 0 0 (fun _ => False)) (F0 m 0 ls []) := by
  obtain ⟨hx, hb, hml, hown, hts, hr, hlk⟩ := id C
  unfold X2_placedAt at h
  refine lv_iload_n hx hb dX2_placedAt_0 rfl (lv_at hl 2 rfl) ?_
  refine lv_istore (lv' := [(4, .int v3), (0, .ref (ad 34)), (1, .long v1), (3, .int v3)]) hx hb dX2_placedAt_1 hl (by decide) rfl (fun ls hl => ?_)
  refine lv_aload_n hx hb dX2_placedAt_3 rfl (lv_at hl 1 rfl) ?_
  refine gX34_10 (v := en.2.2.2.2.2.2.2.2.2.2) C hK hP rfl w341 dX2_placedAt_4 ?_
  refine lv_iconst (v := (1 : Int32)) hx hb dX2_placedAt_7 (by decide) ?_
  refine lv_isub hx hb dX2_placedAt_8 ?_
  refine lv_istore (lv' := [(5, .int (en.2.2.2.2.2.2.2.2.2.2 - (1 : Int32))), (4, .int v3), (0, .ref (ad 34)), (1, .long v1), (3, .int v3)]) hx hb dX2_placedAt_9 hl (by decide) rfl (fun ls hl => ?_)
  refine lv_iconst (v := (0 : Int32)) hx hb dX2_placedAt_11 (by decide) ?_
  refine lv_istore (lv' := [(6, .int (0 : Int32)), (5, .int (en.2.2.2.2.2.2.2.2.2.2 - (1 : Int32))), (4, .int v3), (0, .ref (ad 34)), (1, .long v1), (3, .int v3)]) hx hb dX2_placedAt_12 hl (by decide) rfl (fun ls hl => ?_)
  exact bX2_placedAt_14 C hK hN FU h (lv_sub hl [3, 4, 2, 1, 0] rfl) hP
theorem kX2_placedAt  {v1 : Int64} {v3 : Int32} {q : Int32} (h : X2_placedAt en v1 v3 = some q) : Met l yX2_placedAt (.code yX2_placedAt cX2_placedAt 9 (some .int) :: WA) ({ frames := 2, cells := 0, slots := 0, locals := 42 } : Room) (va_Pc [.ref (ad 34), .long v1, .int v3] (PR D cy (GX cy ad tk sp nm tp kp cu se ur ab lo im sy un en ra li i2))) (QP (some (.int q))) 0 0 (fun _ => False) :=
  met_of (by decide) (Nat.le_of_ble_eq_true rfl) (fun p e s m below meth c ls C hP hK hN hl => bX2_placedAt_0 C hK hN h hl hP)
def X2_isTold (en : Ten) (v1 : Int32) (v2 : Int32) : Int32 := (if (X2_has en v1) = 0 then (0 : Int32) else (if ((at_i 400 en.2.2.2.2.2.2.2.2.1 v1) &&& ((1 : Int32) <<< (v2 &&& 31))) = 0 then (0 : Int32) else (1 : Int32)))
set_option maxRecDepth 20000 in
theorem bX2_isTold_0 (C : Cx p s m args meth c cX2_isTold 3 (some .boolean) RX2 (.code yX2_isTold cX2_isTold 3 (some .boolean))) (hK : va_K D vwCl (tysX cy) s) (hN : NW s)  {q : Int32}  {v1 : Int32} {v2 : Int32} (h : X2_isTold en v1 v2 = q) {ls : Array Slot} (hl : lv_has ls 3 [(0, .ref (ad 34)), (1, .int v1), (2, .int v2)]) (hP : va_P D vwCl (GX cy ad tk sp nm tp kp cu se ur ab lo im sy un en ra li i2) s.heap) : W p l e ({ frames := 1, cells := 0, slots := 0, locals := 21 } : Room) s m args below meth c s.heap [] 0 0 (MQ below (QP (some (.int q))) args s 0 0 (fun _ => False)) (F0 m 0 ls []) := by
  obtain ⟨hx, hb, hml, hown, hts, hr, hlk⟩ := id C
  unfold X2_isTold at h
  refine lv_aload_n hx hb dX2_isTold_0 rfl (lv_at hl 0 rfl) ?_
  refine lv_iload_n hx hb dX2_isTold_1 rfl (lv_at hl 1 rfl) ?_
  refine cPi (run_V (rest := []) C (kX2_has rfl) caX2_has w881 ⟨rfl, rfl, Nat.le_of_ble_eq_true rfl, Nat.le_of_ble_eq_true rfl⟩ hK hN hP (rX34 hK hP) rfl hl.1 rfl (Nat.le_of_ble_eq_true rfl) dX2_isTold_2 ⟨Nat.zero_le _, Nat.zero_le _⟩) ?_
  refine lv_if_eq (tgt := 27) hx hb dX2_isTold_5 (by decide) (fun c1 => ?_) (fun c1 => ?_)
  · rw [if_pos c1] at h
    refine lv_iconst (v := (0 : Int32)) hx hb dX2_isTold_27 (by decide) ?_
    obtain rfl := h
    exact W.zret (ty := .boolean) hx hb hr (by decide) (fun t ht _ => ⟨rfl, ht⟩) (fun _ h9 => by cases h9) dX2_isTold_28 hlk
  · rw [if_neg c1] at h
    refine lv_aload_n hx hb dX2_isTold_8 rfl (lv_at hl 0 rfl) ?_
    refine gX34_8 C hK hP w339 dX2_isTold_9 ?_
    refine lv_iload_n hx hb dX2_isTold_12 rfl (lv_at hl 1 rfl) ?_
    refine xat_i (rest := []) C hK hN hP eX43 (Nat.le_of_ble_eq_true rfl) w880 hl.1 (Nat.le_of_ble_eq_true rfl) dX2_isTold_13 ⟨Nat.le_of_ble_eq_true rfl, Nat.le_of_ble_eq_true rfl⟩ ⟨Nat.zero_le _, Nat.zero_le _⟩ ?_
    refine lv_iconst (v := (1 : Int32)) hx hb dX2_isTold_16 (by decide) ?_
    refine lv_iload_n hx hb dX2_isTold_17 rfl (lv_at hl 2 rfl) ?_
    refine lv_ishl hx hb dX2_isTold_18 ?_
    refine lv_iand hx hb dX2_isTold_19 ?_
    refine lv_if_eq (tgt := 27) hx hb dX2_isTold_20 (by decide) (fun c2 => ?_) (fun c2 => ?_)
    · rw [if_pos c2] at h
      refine lv_iconst (v := (0 : Int32)) hx hb dX2_isTold_27 (by decide) ?_
      obtain rfl := h
      exact W.zret (ty := .boolean) hx hb hr (by decide) (fun t ht _ => ⟨rfl, ht⟩) (fun _ h9 => by cases h9) dX2_isTold_28 hlk
    · rw [if_neg c2] at h
      refine lv_iconst (v := (1 : Int32)) hx hb dX2_isTold_23 (by decide) ?_
      refine lv_goto (tgt := 28) hx hb dX2_isTold_24 (by decide) ?_
      obtain rfl := h
      exact W.zret (ty := .boolean) hx hb hr (by decide) (fun t ht _ => ⟨rfl, ht⟩) (fun _ h9 => by cases h9) dX2_isTold_28 hlk
theorem kX2_isTold  {v1 : Int32} {v2 : Int32} {q : Int32} (h : X2_isTold en v1 v2 = q) : Met l yX2_isTold (.code yX2_isTold cX2_isTold 3 (some .boolean) :: WA) ({ frames := 1, cells := 0, slots := 0, locals := 21 } : Room) (va_Pc [.ref (ad 34), .int v1, .int v2] (PR D cy (GX cy ad tk sp nm tp kp cu se ur ab lo im sy un en ra li i2))) (QP (some (.int q))) 0 0 (fun _ => False) :=
  met_of (by decide) (Nat.le_of_ble_eq_true rfl) (fun p e s m below meth c ls C hP hK hN hl => bX2_isTold_0 C hK hN h hl hP)
def X2_valueOr (en : Ten) (v1 : Int32) (v2 : Int32) (v3 : Int64) : Int64 := (if (X2_isTold en v1 v2) = 0 then v3 else (at_l 4000 en.2.2.2.2.2.2.2.2.2.1 ((v1 * (10 : Int32)) + v2)))
set_option maxRecDepth 20000 in
theorem bX2_valueOr_0 (C : Cx p s m args meth c cX2_valueOr 5 (some .long) RX2 (.code yX2_valueOr cX2_valueOr 5 (some .long))) (hK : va_K D vwCl (tysX cy) s) (hN : NW s)  {q : Int64}  {v1 : Int32} {v2 : Int32} {v3 : Int64} (h : X2_valueOr en v1 v2 v3 = q) {ls : Array Slot} (hl : lv_has ls 5 [(0, .ref (ad 34)), (1, .int v1), (2, .int v2), (3, .long v3)]) (hP : va_P D vwCl (GX cy ad tk sp nm tp kp cu se ur ab lo im sy un en ra li i2) s.heap) : W p l e ({ frames := 2, cells := 0, slots := 0, locals := 43 } : Room) s m args below meth c s.heap [] 0 0 (MQ below (QP (some (.long q))) args s 0 0 (fun _ => False)) (F0 m 0 ls []) := by
  obtain ⟨hx, hb, hml, hown, hts, hr, hlk⟩ := id C
  unfold X2_valueOr at h
  refine lv_aload_n hx hb dX2_valueOr_0 rfl (lv_at hl 0 rfl) ?_
  refine lv_iload_n hx hb dX2_valueOr_1 rfl (lv_at hl 1 rfl) ?_
  refine lv_iload_n hx hb dX2_valueOr_2 rfl (lv_at hl 2 rfl) ?_
  refine cPi (run_V (rest := []) C (kX2_isTold rfl) caX2_isTold w934 ⟨rfl, rfl, Nat.le_of_ble_eq_true rfl, Nat.le_of_ble_eq_true rfl⟩ hK hN hP (rX34 hK hP) rfl hl.1 rfl (Nat.le_of_ble_eq_true rfl) dX2_valueOr_3 ⟨Nat.zero_le _, Nat.zero_le _⟩) ?_
  refine lv_if_eq (tgt := 25) hx hb dX2_valueOr_6 (by decide) (fun c1 => ?_) (fun c1 => ?_)
  · rw [if_pos c1] at h
    refine lv_lload_n hx hb dX2_valueOr_25 rfl (lv_at hl 3 rfl) ?_
    obtain rfl := h
    exact W.lret hx hb hr (fun t ht _ => ⟨rfl, ht⟩) (fun _ h9 => by cases h9) dX2_valueOr_26 hlk
  · rw [if_neg c1] at h
    refine lv_aload_n hx hb dX2_valueOr_9 rfl (lv_at hl 0 rfl) ?_
    refine gX34_9 C hK hP w340 dX2_valueOr_10 ?_
    refine lv_iload_n hx hb dX2_valueOr_13 rfl (lv_at hl 1 rfl) ?_
    refine lv_bipush (v := (10 : Int32)) hx hb dX2_valueOr_14 (by decide) ?_
    refine lv_imul hx hb dX2_valueOr_16 ?_
    refine lv_iload_n hx hb dX2_valueOr_17 rfl (lv_at hl 2 rfl) ?_
    refine lv_iadd hx hb dX2_valueOr_18 ?_
    refine xat_l (rest := []) C hK hN hP eX44 (Nat.le_of_ble_eq_true rfl) w935 hl.1 (Nat.le_of_ble_eq_true rfl) dX2_valueOr_19 ⟨Nat.le_of_ble_eq_true rfl, Nat.le_of_ble_eq_true rfl⟩ ⟨Nat.zero_le _, Nat.zero_le _⟩ ?_
    refine lv_goto (tgt := 26) hx hb dX2_valueOr_22 (by decide) ?_
    obtain rfl := h
    exact W.lret hx hb hr (fun t ht _ => ⟨rfl, ht⟩) (fun _ h9 => by cases h9) dX2_valueOr_26 hlk
theorem kX2_valueOr  {v1 : Int32} {v2 : Int32} {v3 : Int64} {q : Int64} (h : X2_valueOr en v1 v2 v3 = q) : Met l yX2_valueOr (.code yX2_valueOr cX2_valueOr 5 (some .long) :: WA) ({ frames := 2, cells := 0, slots := 0, locals := 43 } : Room) (va_Pc [.ref (ad 34), .int v1, .int v2, .long v3] (PR D cy (GX cy ad tk sp nm tp kp cu se ur ab lo im sy un en ra li i2))) (QP (some (.long q))) 0 0 (fun _ => False) :=
  met_of (by decide) (Nat.le_of_ble_eq_true rfl) (fun p e s m below meth c ls C hP hK hN hl => bX2_valueOr_0 C hK hN h hl hP)
def X2_settleOrigin_40   (en : Ten) (z0 : Int32) (z1 : Int32) : Option (Ten) := some (en.1, en.2.1, en.2.2.1, en.2.2.2.1, (put_i 400 en.2.2.2.2.1 z1 z0), en.2.2.2.2.2.1, en.2.2.2.2.2.2.1, en.2.2.2.2.2.2.2.1, en.2.2.2.2.2.2.2.2.1, en.2.2.2.2.2.2.2.2.2.1, en.2.2.2.2.2.2.2.2.2.2)
set_option maxRecDepth 20000 in
theorem bX2_settleOrigin_40 (C : Cx p s m args meth c cX2_settleOrigin 5 none RX2 (.code yX2_settleOrigin cX2_settleOrigin 5 none)) (hI : Apart ad 89) (hK : va_K D vwCl (tysX cy) s) (hN : NW s)  {q : Ten}  {z0 : Int32} {z1 : Int32} (h : X2_settleOrigin_40 en z0 z1 = some q) {ls : Array Slot} (hl : lv_has ls 5 []) {H : Heap} {locs : List Loc} (hP : va_P D vwCl (GX cy ad tk sp nm tp kp cu se ur ab lo im sy un en ra li i2) H) (hS : va_S (Ac ad 89) s.heap H locs) : W p l e ({ frames := 3, cells := 0, slots := 0, locals := 70 } : Room) s m args below meth c H locs 0 0 (MQ below (QR none D (GX cy ad tk sp nm tp kp cu se ur ab lo im sy un q ra li i2) (Ac ad 89)) args s 0 0 (Ac ad 89)) (F0 m 40 ls [.int z0, .int z1, .ref (ad 39)]) := by
  obtain ⟨hx, hb, hml, hown, hts, hr, hlk⟩ := id C
  unfold X2_settleOrigin_40 at h
  refine xput_i (rest := []) C hK hN hP (GX_D hI) hS eX39 (Nat.le_of_ble_eq_true rfl) w822 hl.1 (Nat.le_of_ble_eq_true rfl) dX2_settleOrigin_40 ⟨Nat.le_of_ble_eq_true rfl, Nat.le_of_ble_eq_true rfl⟩ ⟨Nat.zero_le _, Nat.zero_le _⟩ (fun H locs hP hS => ?_)
  have hP : va_P D vwCl (GX cy ad tk sp nm tp kp cu se ur ab lo im sy un (en.1, en.2.1, en.2.2.1, en.2.2.2.1, (put_i 400 en.2.2.2.2.1 z1 z0), en.2.2.2.2.2.1, en.2.2.2.2.2.2.1, en.2.2.2.2.2.2.2.1, en.2.2.2.2.2.2.2.2.1, en.2.2.2.2.2.2.2.2.2.1, en.2.2.2.2.2.2.2.2.2.2) ra li i2) H := hP
  obtain rfl := Option.some.inj h
  exact W.vret hx hb hr (fun t ht _ => ⟨rfl, by rw [ht]; exact hP, hS.F ht⟩) hS.2.2 dX2_settleOrigin_43 hlk
def X2_settleOrigin (en : Ten) (v1 : Int32) (v2 : Int32) : Option (Ten) := (if (X2_valueOr en v1 (5 : Int32) (X2_valueOr en v1 (6 : Int32) (-1 : Int64))) = (-1 : Int64) then X2_settleOrigin_40 en (-1 : Int32) v1 else ((X2_placedAt en (X2_valueOr en v1 (5 : Int32) (X2_valueOr en v1 (6 : Int32) (-1 : Int64))) v2).bind fun q2 => X2_settleOrigin_40 en q2 v1))
set_option maxRecDepth 20000 in
theorem bX2_settleOrigin_0 (C : Cx p s m args meth c cX2_settleOrigin 5 none RX2 (.code yX2_settleOrigin cX2_settleOrigin 5 none)) (hI : Apart ad 89) (hK : va_K D vwCl (tysX cy) s) (hN : NW s)  {q : Ten}  {v1 : Int32} {v2 : Int32} (h : X2_settleOrigin en v1 v2 = some q) {ls : Array Slot} (hl : lv_has ls 5 [(0, .ref (ad 34)), (1, .int v1), (2, .int v2)]) {H : Heap} {locs : List Loc} (hP : va_P D vwCl (GX cy ad tk sp nm tp kp cu se ur ab lo im sy un en ra li i2) H) (hS : va_S (Ac ad 89) s.heap H locs) : W p l e ({ frames := 3, cells := 0, slots := 0, locals := 70 } : Room) s m args below meth c H locs 0 0 (MQ below (QR none D (GX cy ad tk sp nm tp kp cu se ur ab lo im sy un q ra li i2) (Ac ad 89)) args s 0 0 (Ac ad 89)) (F0 m 0 ls []) := by
  obtain ⟨hx, hb, hml, hown, hts, hr, hlk⟩ := id C
  unfold X2_settleOrigin at h
  refine lv_aload_n hx hb dX2_settleOrigin_0 rfl (lv_at hl 0 rfl) ?_
  refine lv_iload_n hx hb dX2_settleOrigin_1 rfl (lv_at hl 1 rfl) ?_
  refine lv_iconst (v := (5 : Int32)) hx hb dX2_settleOrigin_2 (by decide) ?_
  refine lv_aload_n hx hb dX2_settleOrigin_3 rfl (lv_at hl 0 rfl) ?_
  refine lv_iload_n hx hb dX2_settleOrigin_4 rfl (lv_at hl 1 rfl) ?_
  refine lv_bipush (v := (6 : Int32)) hx hb dX2_settleOrigin_5 (by decide) ?_
  refine lv_ldc2 (v := (-1 : Int64)) hx hb hown (hts _ (List.mem_cons_of_mem _ w929)) dX2_settleOrigin_7 ?_
  refine cPl (run_V (rest := [.int (5 : Int32), .int v1, .ref (ad 34)]) C (kX2_valueOr rfl) caX2_valueOr w930 ⟨rfl, rfl, Nat.le_of_ble_eq_true rfl, Nat.le_of_ble_eq_true rfl⟩ hK hN hP (rX34 hK hP) rfl hl.1 rfl (Nat.le_of_ble_eq_true rfl) dX2_settleOrigin_10 ⟨Nat.zero_le _, Nat.zero_le _⟩) ?_
  refine cPl (run_V (rest := []) C (kX2_valueOr rfl) caX2_valueOr w930 ⟨rfl, rfl, Nat.le_of_ble_eq_true rfl, Nat.le_of_ble_eq_true rfl⟩ hK hN hP (rX34 hK hP) rfl hl.1 rfl (Nat.le_of_ble_eq_true rfl) dX2_settleOrigin_13 ⟨Nat.zero_le _, Nat.zero_le _⟩) ?_
  refine lv_lstore_n (lv' := [(3, .long (X2_valueOr en v1 (5 : Int32) (X2_valueOr en v1 (6 : Int32) (-1 : Int64)))), (0, .ref (ad 34)), (1, .int v1), (2, .int v2)]) hx hb dX2_settleOrigin_16 rfl hl (by decide) rfl (fun ls hl => ?_)
  refine lv_aload_n hx hb dX2_settleOrigin_17 rfl (lv_at hl 1 rfl) ?_
  refine gX34_4 C hK hP w335 dX2_settleOrigin_18 ?_
  refine lv_iload_n hx hb dX2_settleOrigin_21 rfl (lv_at hl 2 rfl) ?_
  refine lv_lload_n hx hb dX2_settleOrigin_22 rfl (lv_at hl 0 rfl) ?_
  refine lv_ldc2 (v := (-1 : Int64)) hx hb hown (hts _ (List.mem_cons_of_mem _ w929)) dX2_settleOrigin_23 ?_
  refine lc_ne (tgt := 34) hx hb dX2_settleOrigin_26 dX2_settleOrigin_27 (by decide) (fun c1 => ?_) (fun c1 => ?_)
  · rw [if_neg c1] at h
    refine lv_aload_n hx hb dX2_settleOrigin_34 rfl (lv_at hl 1 rfl) ?_
    refine lv_lload_n hx hb dX2_settleOrigin_35 rfl (lv_at hl 0 rfl) ?_
    refine lv_iload_n hx hb dX2_settleOrigin_36 rfl (lv_at hl 3 rfl) ?_
    obtain ⟨q2, h3, h⟩ := bnd h
    refine cPi (run_V (rest := [.int v1, .ref (ad 39)]) C (kX2_placedAt h3) caX2_placedAt w936 ⟨rfl, rfl, Nat.le_of_ble_eq_true rfl, Nat.le_of_ble_eq_true rfl⟩ hK hN hP (rX34 hK hP) rfl hl.1 rfl (Nat.le_of_ble_eq_true rfl) dX2_settleOrigin_37 ⟨Nat.zero_le _, Nat.zero_le _⟩) ?_
    exact bX2_settleOrigin_40 C hI hK hN h (lv_sub hl [] rfl) hP hS
  · rw [if_pos c1] at h
    refine lv_iconst (v := (-1 : Int32)) hx hb dX2_settleOrigin_30 (by decide) ?_
    refine lv_goto (tgt := 40) hx hb dX2_settleOrigin_31 (by decide) ?_
    exact bX2_settleOrigin_40 C hI hK hN h (lv_sub hl [] rfl) hP hS
theorem kX2_settleOrigin (hI : Apart ad 89) {v1 : Int32} {v2 : Int32} {q : Ten} (h : X2_settleOrigin en v1 v2 = some q) : Met l yX2_settleOrigin (.code yX2_settleOrigin cX2_settleOrigin 5 none :: WA) ({ frames := 3, cells := 0, slots := 0, locals := 70 } : Room) (va_Pc [.ref (ad 34), .int v1, .int v2] (PR D cy (GX cy ad tk sp nm tp kp cu se ur ab lo im sy un en ra li i2))) (QR none D (GX cy ad tk sp nm tp kp cu se ur ab lo im sy un q ra li i2) (Ac ad 89)) 0 0 (Ac ad 89) :=
  met_of (by decide) (Nat.le_of_ble_eq_true rfl) (fun p e s m below meth c ls C hP hK hN hl => bX2_settleOrigin_0 C hI hK hN h hl hP va_S.rf)
def X2_total (en : Ten)  : Int32 := en.2.2.2.2.2.2.2.2.2.2
set_option maxRecDepth 20000 in
theorem bX2_total_0 (C : Cx p s m args meth c cX2_total 1 (some .int) RX2 (.code yX2_total cX2_total 1 (some .int))) (hK : va_K D vwCl (tysX cy) s) (hN : NW s)  {q : Int32}   (h : X2_total en = q) {ls : Array Slot} (hl : lv_has ls 1 [(0, .ref (ad 34))]) (hP : va_P D vwCl (GX cy ad tk sp nm tp kp cu se ur ab lo im sy un en ra li i2) s.heap) : W p l e ({ frames := 0, cells := 0, slots := 0, locals := 0 } : Room) s m args below meth c s.heap [] 0 0 (MQ below (QP (some (.int q))) args s 0 0 (fun _ => False)) (F0 m 0 ls []) := by
  obtain ⟨hx, hb, hml, hown, hts, hr, hlk⟩ := id C
  unfold X2_total at h
  refine lv_aload_n hx hb dX2_total_0 rfl (lv_at hl 0 rfl) ?_
  refine gX34_10 (v := en.2.2.2.2.2.2.2.2.2.2) C hK hP rfl w341 dX2_total_1 ?_
  obtain rfl := h
  exact W.iret hx hb hr (fun t ht _ => ⟨rfl, ht⟩) (fun _ h9 => by cases h9) dX2_total_4 hlk
theorem kX2_total   {q : Int32} (h : X2_total en = q) : Met l yX2_total (.code yX2_total cX2_total 1 (some .int) :: WA) ({ frames := 0, cells := 0, slots := 0, locals := 0 } : Room) (va_Pc [.ref (ad 34)] (PR D cy (GX cy ad tk sp nm tp kp cu se ur ab lo im sy un en ra li i2))) (QP (some (.int q))) 0 0 (fun _ => False) :=
  met_of (by decide) (Nat.le_of_ble_eq_true rfl) (fun p e s m below meth c ls C hP hK hN hl => bX2_total_0 C hK hN h hl hP)
def X2_tagOf (en : Ten) (v1 : Int32) : Int64 := (at_l 400 en.1 v1)
set_option maxRecDepth 20000 in
theorem bX2_tagOf_0 (C : Cx p s m args meth c cX2_tagOf 2 (some .long) RX2 (.code yX2_tagOf cX2_tagOf 2 (some .long))) (hK : va_K D vwCl (tysX cy) s) (hN : NW s)  {q : Int64}  {v1 : Int32} (h : X2_tagOf en v1 = q) {ls : Array Slot} (hl : lv_has ls 2 [(0, .ref (ad 34)), (1, .int v1)]) (hP : va_P D vwCl (GX cy ad tk sp nm tp kp cu se ur ab lo im sy un en ra li i2) s.heap) : W p l e ({ frames := 1, cells := 0, slots := 0, locals := 21 } : Room) s m args below meth c s.heap [] 0 0 (MQ below (QP (some (.long q))) args s 0 0 (fun _ => False)) (F0 m 0 ls []) := by
  obtain ⟨hx, hb, hml, hown, hts, hr, hlk⟩ := id C
  unfold X2_tagOf at h
  refine lv_aload_n hx hb dX2_tagOf_0 rfl (lv_at hl 0 rfl) ?_
  refine gX34_0 C hK hP w331 dX2_tagOf_1 ?_
  refine lv_iload_n hx hb dX2_tagOf_4 rfl (lv_at hl 1 rfl) ?_
  refine xat_l (rest := []) C hK hN hP eX35 (Nat.le_of_ble_eq_true rfl) w935 hl.1 (Nat.le_of_ble_eq_true rfl) dX2_tagOf_5 ⟨Nat.le_of_ble_eq_true rfl, Nat.le_of_ble_eq_true rfl⟩ ⟨Nat.zero_le _, Nat.zero_le _⟩ ?_
  obtain rfl := h
  exact W.lret hx hb hr (fun t ht _ => ⟨rfl, ht⟩) (fun _ h9 => by cases h9) dX2_tagOf_8 hlk
theorem kX2_tagOf  {v1 : Int32} {q : Int64} (h : X2_tagOf en v1 = q) : Met l yX2_tagOf (.code yX2_tagOf cX2_tagOf 2 (some .long) :: WA) ({ frames := 1, cells := 0, slots := 0, locals := 21 } : Room) (va_Pc [.ref (ad 34), .int v1] (PR D cy (GX cy ad tk sp nm tp kp cu se ur ab lo im sy un en ra li i2))) (QP (some (.long q))) 0 0 (fun _ => False) :=
  met_of (by decide) (Nat.le_of_ble_eq_true rfl) (fun p e s m below meth c ls C hP hK hN hl => bX2_tagOf_0 C hK hN h hl hP)
def X2_parentOf (en : Ten) (v1 : Int32) : Int32 := (at_i 400 en.2.1 v1)
set_option maxRecDepth 20000 in
theorem bX2_parentOf_0 (C : Cx p s m args meth c cX2_parentOf 2 (some .int) RX2 (.code yX2_parentOf cX2_parentOf 2 (some .int))) (hK : va_K D vwCl (tysX cy) s) (hN : NW s)  {q : Int32}  {v1 : Int32} (h : X2_parentOf en v1 = q) {ls : Array Slot} (hl : lv_has ls 2 [(0, .ref (ad 34)), (1, .int v1)]) (hP : va_P D vwCl (GX cy ad tk sp nm tp kp cu se ur ab lo im sy un en ra li i2) s.heap) : W p l e ({ frames := 1, cells := 0, slots := 0, locals := 21 } : Room) s m args below meth c s.heap [] 0 0 (MQ below (QP (some (.int q))) args s 0 0 (fun _ => False)) (F0 m 0 ls []) := by
  obtain ⟨hx, hb, hml, hown, hts, hr, hlk⟩ := id C
  unfold X2_parentOf at h
  refine lv_aload_n hx hb dX2_parentOf_0 rfl (lv_at hl 0 rfl) ?_
  refine gX34_1 C hK hP w332 dX2_parentOf_1 ?_
  refine lv_iload_n hx hb dX2_parentOf_4 rfl (lv_at hl 1 rfl) ?_
  refine xat_i (rest := []) C hK hN hP eX36 (Nat.le_of_ble_eq_true rfl) w880 hl.1 (Nat.le_of_ble_eq_true rfl) dX2_parentOf_5 ⟨Nat.le_of_ble_eq_true rfl, Nat.le_of_ble_eq_true rfl⟩ ⟨Nat.zero_le _, Nat.zero_le _⟩ ?_
  obtain rfl := h
  exact W.iret hx hb hr (fun t ht _ => ⟨rfl, ht⟩) (fun _ h9 => by cases h9) dX2_parentOf_8 hlk
theorem kX2_parentOf  {v1 : Int32} {q : Int32} (h : X2_parentOf en v1 = q) : Met l yX2_parentOf (.code yX2_parentOf cX2_parentOf 2 (some .int) :: WA) ({ frames := 1, cells := 0, slots := 0, locals := 21 } : Room) (va_Pc [.ref (ad 34), .int v1] (PR D cy (GX cy ad tk sp nm tp kp cu se ur ab lo im sy un en ra li i2))) (QP (some (.int q))) 0 0 (fun _ => False) :=
  met_of (by decide) (Nat.le_of_ble_eq_true rfl) (fun p e s m below meth c ls C hP hK hN hl => bX2_parentOf_0 C hK hN h hl hP)
def X2_unitOf (en : Ten) (v1 : Int32) : Int32 := (at_i 400 en.2.2.1 v1)
set_option maxRecDepth 20000 in
theorem bX2_unitOf_0 (C : Cx p s m args meth c cX2_unitOf 2 (some .int) RX2 (.code yX2_unitOf cX2_unitOf 2 (some .int))) (hK : va_K D vwCl (tysX cy) s) (hN : NW s)  {q : Int32}  {v1 : Int32} (h : X2_unitOf en v1 = q) {ls : Array Slot} (hl : lv_has ls 2 [(0, .ref (ad 34)), (1, .int v1)]) (hP : va_P D vwCl (GX cy ad tk sp nm tp kp cu se ur ab lo im sy un en ra li i2) s.heap) : W p l e ({ frames := 1, cells := 0, slots := 0, locals := 21 } : Room) s m args below meth c s.heap [] 0 0 (MQ below (QP (some (.int q))) args s 0 0 (fun _ => False)) (F0 m 0 ls []) := by
  obtain ⟨hx, hb, hml, hown, hts, hr, hlk⟩ := id C
  unfold X2_unitOf at h
  refine lv_aload_n hx hb dX2_unitOf_0 rfl (lv_at hl 0 rfl) ?_
  refine gX34_2 C hK hP w333 dX2_unitOf_1 ?_
  refine lv_iload_n hx hb dX2_unitOf_4 rfl (lv_at hl 1 rfl) ?_
  refine xat_i (rest := []) C hK hN hP eX37 (Nat.le_of_ble_eq_true rfl) w880 hl.1 (Nat.le_of_ble_eq_true rfl) dX2_unitOf_5 ⟨Nat.le_of_ble_eq_true rfl, Nat.le_of_ble_eq_true rfl⟩ ⟨Nat.zero_le _, Nat.zero_le _⟩ ?_
  obtain rfl := h
  exact W.iret hx hb hr (fun t ht _ => ⟨rfl, ht⟩) (fun _ h9 => by cases h9) dX2_unitOf_8 hlk
theorem kX2_unitOf  {v1 : Int32} {q : Int32} (h : X2_unitOf en v1 = q) : Met l yX2_unitOf (.code yX2_unitOf cX2_unitOf 2 (some .int) :: WA) ({ frames := 1, cells := 0, slots := 0, locals := 21 } : Room) (va_Pc [.ref (ad 34), .int v1] (PR D cy (GX cy ad tk sp nm tp kp cu se ur ab lo im sy un en ra li i2))) (QP (some (.int q))) 0 0 (fun _ => False) :=
  met_of (by decide) (Nat.le_of_ble_eq_true rfl) (fun p e s m below meth c ls C hP hK hN hl => bX2_unitOf_0 C hK hN h hl hP)
def X2_originOf (en : Ten) (v1 : Int32) : Int32 := (at_i 400 en.2.2.2.2.1 v1)
set_option maxRecDepth 20000 in
theorem bX2_originOf_0 (C : Cx p s m args meth c cX2_originOf 2 (some .int) RX2 (.code yX2_originOf cX2_originOf 2 (some .int))) (hK : va_K D vwCl (tysX cy) s) (hN : NW s)  {q : Int32}  {v1 : Int32} (h : X2_originOf en v1 = q) {ls : Array Slot} (hl : lv_has ls 2 [(0, .ref (ad 34)), (1, .int v1)]) (hP : va_P D vwCl (GX cy ad tk sp nm tp kp cu se ur ab lo im sy un en ra li i2) s.heap) : W p l e ({ frames := 1, cells := 0, slots := 0, locals := 21 } : Room) s m args below meth c s.heap [] 0 0 (MQ below (QP (some (.int q))) args s 0 0 (fun _ => False)) (F0 m 0 ls []) := by
  obtain ⟨hx, hb, hml, hown, hts, hr, hlk⟩ := id C
  unfold X2_originOf at h
  refine lv_aload_n hx hb dX2_originOf_0 rfl (lv_at hl 0 rfl) ?_
  refine gX34_4 C hK hP w335 dX2_originOf_1 ?_
  refine lv_iload_n hx hb dX2_originOf_4 rfl (lv_at hl 1 rfl) ?_
  refine xat_i (rest := []) C hK hN hP eX39 (Nat.le_of_ble_eq_true rfl) w880 hl.1 (Nat.le_of_ble_eq_true rfl) dX2_originOf_5 ⟨Nat.le_of_ble_eq_true rfl, Nat.le_of_ble_eq_true rfl⟩ ⟨Nat.zero_le _, Nat.zero_le _⟩ ?_
  obtain rfl := h
  exact W.iret hx hb hr (fun t ht _ => ⟨rfl, ht⟩) (fun _ h9 => by cases h9) dX2_originOf_8 hlk
theorem kX2_originOf  {v1 : Int32} {q : Int32} (h : X2_originOf en v1 = q) : Met l yX2_originOf (.code yX2_originOf cX2_originOf 2 (some .int) :: WA) ({ frames := 1, cells := 0, slots := 0, locals := 21 } : Room) (va_Pc [.ref (ad 34), .int v1] (PR D cy (GX cy ad tk sp nm tp kp cu se ur ab lo im sy un en ra li i2))) (QP (some (.int q))) 0 0 (fun _ => False) :=
  met_of (by decide) (Nat.le_of_ble_eq_true rfl) (fun p e s m below meth c ls C hP hK hN hl => bX2_originOf_0 C hK hN h hl hP)
def X2_firstRangeOf (en : Ten) (v1 : Int32) : Int32 := (at_i 400 en.2.2.2.2.2.2.1 v1)
set_option maxRecDepth 20000 in
theorem bX2_firstRangeOf_0 (C : Cx p s m args meth c cX2_firstRangeOf 2 (some .int) RX2 (.code yX2_firstRangeOf cX2_firstRangeOf 2 (some .int))) (hK : va_K D vwCl (tysX cy) s) (hN : NW s)  {q : Int32}  {v1 : Int32} (h : X2_firstRangeOf en v1 = q) {ls : Array Slot} (hl : lv_has ls 2 [(0, .ref (ad 34)), (1, .int v1)]) (hP : va_P D vwCl (GX cy ad tk sp nm tp kp cu se ur ab lo im sy un en ra li i2) s.heap) : W p l e ({ frames := 1, cells := 0, slots := 0, locals := 21 } : Room) s m args below meth c s.heap [] 0 0 (MQ below (QP (some (.int q))) args s 0 0 (fun _ => False)) (F0 m 0 ls []) := by
  obtain ⟨hx, hb, hml, hown, hts, hr, hlk⟩ := id C
  unfold X2_firstRangeOf at h
  refine lv_aload_n hx hb dX2_firstRangeOf_0 rfl (lv_at hl 0 rfl) ?_
  refine gX34_6 C hK hP w337 dX2_firstRangeOf_1 ?_
  refine lv_iload_n hx hb dX2_firstRangeOf_4 rfl (lv_at hl 1 rfl) ?_
  refine xat_i (rest := []) C hK hN hP eX41 (Nat.le_of_ble_eq_true rfl) w880 hl.1 (Nat.le_of_ble_eq_true rfl) dX2_firstRangeOf_5 ⟨Nat.le_of_ble_eq_true rfl, Nat.le_of_ble_eq_true rfl⟩ ⟨Nat.zero_le _, Nat.zero_le _⟩ ?_
  obtain rfl := h
  exact W.iret hx hb hr (fun t ht _ => ⟨rfl, ht⟩) (fun _ h9 => by cases h9) dX2_firstRangeOf_8 hlk
theorem kX2_firstRangeOf  {v1 : Int32} {q : Int32} (h : X2_firstRangeOf en v1 = q) : Met l yX2_firstRangeOf (.code yX2_firstRangeOf cX2_firstRangeOf 2 (some .int) :: WA) ({ frames := 1, cells := 0, slots := 0, locals := 21 } : Room) (va_Pc [.ref (ad 34), .int v1] (PR D cy (GX cy ad tk sp nm tp kp cu se ur ab lo im sy un en ra li i2))) (QP (some (.int q))) 0 0 (fun _ => False) :=
  met_of (by decide) (Nat.le_of_ble_eq_true rfl) (fun p e s m below meth c ls C hP hK hN hl => bX2_firstRangeOf_0 C hK hN h hl hP)
def X2_rangeTotalOf (en : Ten) (v1 : Int32) : Int32 := (at_i 400 en.2.2.2.2.2.2.2.1 v1)
set_option maxRecDepth 20000 in
theorem bX2_rangeTotalOf_0 (C : Cx p s m args meth c cX2_rangeTotalOf 2 (some .int) RX2 (.code yX2_rangeTotalOf cX2_rangeTotalOf 2 (some .int))) (hK : va_K D vwCl (tysX cy) s) (hN : NW s)  {q : Int32}  {v1 : Int32} (h : X2_rangeTotalOf en v1 = q) {ls : Array Slot} (hl : lv_has ls 2 [(0, .ref (ad 34)), (1, .int v1)]) (hP : va_P D vwCl (GX cy ad tk sp nm tp kp cu se ur ab lo im sy un en ra li i2) s.heap) : W p l e ({ frames := 1, cells := 0, slots := 0, locals := 21 } : Room) s m args below meth c s.heap [] 0 0 (MQ below (QP (some (.int q))) args s 0 0 (fun _ => False)) (F0 m 0 ls []) := by
  obtain ⟨hx, hb, hml, hown, hts, hr, hlk⟩ := id C
  unfold X2_rangeTotalOf at h
  refine lv_aload_n hx hb dX2_rangeTotalOf_0 rfl (lv_at hl 0 rfl) ?_
  refine gX34_7 C hK hP w338 dX2_rangeTotalOf_1 ?_
  refine lv_iload_n hx hb dX2_rangeTotalOf_4 rfl (lv_at hl 1 rfl) ?_
  refine xat_i (rest := []) C hK hN hP eX42 (Nat.le_of_ble_eq_true rfl) w880 hl.1 (Nat.le_of_ble_eq_true rfl) dX2_rangeTotalOf_5 ⟨Nat.le_of_ble_eq_true rfl, Nat.le_of_ble_eq_true rfl⟩ ⟨Nat.zero_le _, Nat.zero_le _⟩ ?_
  obtain rfl := h
  exact W.iret hx hb hr (fun t ht _ => ⟨rfl, ht⟩) (fun _ h9 => by cases h9) dX2_rangeTotalOf_8 hlk
theorem kX2_rangeTotalOf  {v1 : Int32} {q : Int32} (h : X2_rangeTotalOf en v1 = q) : Met l yX2_rangeTotalOf (.code yX2_rangeTotalOf cX2_rangeTotalOf 2 (some .int) :: WA) ({ frames := 1, cells := 0, slots := 0, locals := 21 } : Room) (va_Pc [.ref (ad 34), .int v1] (PR D cy (GX cy ad tk sp nm tp kp cu se ur ab lo im sy un en ra li i2))) (QP (some (.int q))) 0 0 (fun _ => False) :=
  met_of (by decide) (Nat.le_of_ble_eq_true rfl) (fun p e s m below meth c ls C hP hK hN hl => bX2_rangeTotalOf_0 C hK hN h hl hP)
def X2_namedFor_4b (en : Ten)  (k4 : Int32 → Int32 → Option (Int32))  (v2 : Int32) (v3 : Int32) : Option (Int32) := (if (8 : Int32) < v3 then some (-1 : Int32) else (if (X2_has en v2) = 0 then some (-1 : Int32) else (if (X2_isTold en v2 (0 : Int32)) = 0 then k4 (X2_originOf en v2) (v3 + (1 : Int32)) else some v2)))
def X2_namedFor_4 (en : Ten)  (n : Nat) (st : Int32 × Int32) : Option (Int32) := lp (fun rec st => X2_namedFor_4b en  (fun a0 a1 => rec (a0, a1)) st.1 st.2) n st
set_option maxRecDepth 20000 in
theorem bX2_namedFor_4 (C : Cx p s m args meth c cX2_namedFor 4 (some .int) RX2 (.code yX2_namedFor cX2_namedFor 4 (some .int))) (hK : va_K D vwCl (tysX cy) s) (hN : NW s)  {q : Int32}  : ∀ (n : Nat)  {v2 : Int32} {v3 : Int32}, X2_namedFor_4 en  n (v2, v3) = some q → ∀ {ls : Array Slot}, lv_has ls 4 [(0, .ref (ad 34)), (2, .int v2), (3, .int v3)] → va_P D vwCl (GX cy ad tk sp nm tp kp cu se ur ab lo im sy un en ra li i2) s.heap → W p l e ({ frames := 2, cells := 0, slots := 0, locals := 43 } : Room) s m args below meth c s.heap [] 0 0 (MQ below (QP (some (.int q))) args s 0 0 (fun _ => False)) (F0 m 4 ls []) := by
  obtain ⟨hx, hb, hml, hown, hts, hr, hlk⟩ := id C
  intro n
  induction n with
  | zero =>
    intro v2 v3 h ls hl hP
    have h : (none : Option (Int32)) = some q := h
    cases h
  | succ n ih =>
    intro v2 v3 h ls hl hP
    have h : X2_namedFor_4b en  (fun a0 a1 => X2_namedFor_4 en  n (a0, a1)) v2 v3 = some q := h
    unfold X2_namedFor_4b at h
    refine lv_iload_n hx hb dX2_namedFor_4 rfl (lv_at hl 2 rfl) ?_
    refine lv_bipush (v := (8 : Int32)) hx hb dX2_namedFor_5 (by decide) ?_
    refine lv_icmp_gt (tgt := 41) hx hb dX2_namedFor_7 (by decide) (fun c1 => ?_) (fun c1 => ?_)
    · rw [if_pos c1] at h
      refine lv_iconst (v := (-1 : Int32)) hx hb dX2_namedFor_41 (by decide) ?_
      obtain rfl := Option.some.inj h
      exact W.iret hx hb hr (fun t ht _ => ⟨rfl, ht⟩) (fun _ h9 => by cases h9) dX2_namedFor_42 hlk
    · rw [if_neg c1] at h
      refine lv_aload_n hx hb dX2_namedFor_10 rfl (lv_at hl 0 rfl) ?_
      refine lv_iload_n hx hb dX2_namedFor_11 rfl (lv_at hl 1 rfl) ?_
      refine cPi (run_V (rest := []) C (kX2_has rfl) caX2_has w881 ⟨rfl, rfl, Nat.le_of_ble_eq_true rfl, Nat.le_of_ble_eq_true rfl⟩ hK hN hP (rX34 hK hP) rfl hl.1 rfl (Nat.le_of_ble_eq_true rfl) dX2_namedFor_12 ⟨Nat.zero_le _, Nat.zero_le _⟩) ?_
      refine lv_if_eq (tgt := 41) hx hb dX2_namedFor_15 (by decide) (fun c2 => ?_) (fun c2 => ?_)
      · rw [if_pos c2] at h
        refine lv_iconst (v := (-1 : Int32)) hx hb dX2_namedFor_41 (by decide) ?_
        obtain rfl := Option.some.inj h
        exact W.iret hx hb hr (fun t ht _ => ⟨rfl, ht⟩) (fun _ h9 => by cases h9) dX2_namedFor_42 hlk
      · rw [if_neg c2] at h
        refine lv_aload_n hx hb dX2_namedFor_18 rfl (lv_at hl 0 rfl) ?_
        refine lv_iload_n hx hb dX2_namedFor_19 rfl (lv_at hl 1 rfl) ?_
        refine lv_iconst (v := (0 : Int32)) hx hb dX2_namedFor_20 (by decide) ?_
        refine cPi (run_V (rest := []) C (kX2_isTold rfl) caX2_isTold w934 ⟨rfl, rfl, Nat.le_of_ble_eq_true rfl, Nat.le_of_ble_eq_true rfl⟩ hK hN hP (rX34 hK hP) rfl hl.1 rfl (Nat.le_of_ble_eq_true rfl) dX2_namedFor_21 ⟨Nat.zero_le _, Nat.zero_le _⟩) ?_
        refine lv_if_eq (tgt := 29) hx hb dX2_namedFor_24 (by decide) (fun c3 => ?_) (fun c3 => ?_)
        · rw [if_pos c3] at h
          refine lv_aload_n hx hb dX2_namedFor_29 rfl (lv_at hl 0 rfl) ?_
          refine lv_iload_n hx hb dX2_namedFor_30 rfl (lv_at hl 1 rfl) ?_
          refine cPi (run_V (rest := []) C (kX2_originOf rfl) caX2_originOf w1163 ⟨rfl, rfl, Nat.le_of_ble_eq_true rfl, Nat.le_of_ble_eq_true rfl⟩ hK hN hP (rX34 hK hP) rfl hl.1 rfl (Nat.le_of_ble_eq_true rfl) dX2_namedFor_31 ⟨Nat.zero_le _, Nat.zero_le _⟩) ?_
          refine lv_istore_n (lv' := [(2, .int (X2_originOf en v2)), (0, .ref (ad 34)), (3, .int v3)]) hx hb dX2_namedFor_34 rfl hl (by decide) rfl (fun ls hl => ?_)
          refine lv_iinc (v := (v3 + (1 : Int32))) (lv' := [(3, .int (v3 + (1 : Int32))), (2, .int (X2_originOf en v2)), (0, .ref (ad 34))]) hx hb dX2_namedFor_35 hl (k := 2) rfl rfl (by decide) rfl (fun ls hl => ?_)
          refine lv_goto (tgt := 4) hx hb dX2_namedFor_38 (by decide) ?_
          exact ih h (lv_sub hl [2, 1, 0] rfl) hP
        · rw [if_neg c3] at h
          refine lv_iload_n hx hb dX2_namedFor_27 rfl (lv_at hl 1 rfl) ?_
          obtain rfl := Option.some.inj h
          exact W.iret hx hb hr (fun t ht _ => ⟨rfl, ht⟩) (fun _ h9 => by cases h9) dX2_namedFor_28 hlk
def X2_namedFor (en : Ten) (v1 : Int32) : Option (Int32) := X2_namedFor_4 en FU (v1, (0 : Int32))
set_option maxRecDepth 20000 in
theorem bX2_namedFor_0 (C : Cx p s m args meth c cX2_namedFor 4 (some .int) RX2 (.code yX2_namedFor cX2_namedFor 4 (some .int))) (hK : va_K D vwCl (tysX cy) s) (hN : NW s)  {q : Int32}  {v1 : Int32} (h : X2_namedFor en v1 = some q) {ls : Array Slot} (hl : lv_has ls 4 [(0, .ref (ad 34)), (1, .int v1)]) (hP : va_P D vwCl (GX cy ad tk sp nm tp kp cu se ur ab lo im sy un en ra li i2) s.heap) : W p l e ({ frames := 2, cells := 0, slots := 0, locals := 43 } : Room) s m args below meth c s.heap [] 0 0 (MQ below (QP (some (.int q))) args s 0 0 (fun _ => False)) (F0 m 0 ls []) := by
  obtain ⟨hx, hb, hml, hown, hts, hr, hlk⟩ := id C
  unfold X2_namedFor at h
  refine lv_iload_n hx hb dX2_namedFor_0 rfl (lv_at hl 1 rfl) ?_
  refine lv_istore_n (lv' := [(2, .int v1), (0, .ref (ad 34)), (1, .int v1)]) hx hb dX2_namedFor_1 rfl hl (by decide) rfl (fun ls hl => ?_)
  refine lv_iconst (v := (0 : Int32)) hx hb dX2_namedFor_2 (by decide) ?_
  refine lv_istore_n (lv' := [(3, .int (0 : Int32)), (2, .int v1), (0, .ref (ad 34)), (1, .int v1)]) hx hb dX2_namedFor_3 rfl hl (by decide) rfl (fun ls hl => ?_)
  exact bX2_namedFor_4 C hK hN FU h (lv_sub hl [2, 1, 0] rfl) hP
theorem kX2_namedFor  {v1 : Int32} {q : Int32} (h : X2_namedFor en v1 = some q) : Met l yX2_namedFor (.code yX2_namedFor cX2_namedFor 4 (some .int) :: WA) ({ frames := 2, cells := 0, slots := 0, locals := 43 } : Room) (va_Pc [.ref (ad 34), .int v1] (PR D cy (GX cy ad tk sp nm tp kp cu se ur ab lo im sy un en ra li i2))) (QP (some (.int q))) 0 0 (fun _ => False) :=
  met_of (by decide) (Nat.le_of_ble_eq_true rfl) (fun p e s m below meth c ls C hP hK hN hl => bX2_namedFor_0 C hK hN h hl hP)
def X2_namePlaceOf (en : Ten) (v1 : Int32) : Int32 := (((X2_valueOr en v1 (0 : Int32) (-1 : Int64))).toInt32)
set_option maxRecDepth 20000 in
theorem bX2_namePlaceOf_0 (C : Cx p s m args meth c cX2_namePlaceOf 2 (some .int) RX2 (.code yX2_namePlaceOf cX2_namePlaceOf 2 (some .int))) (hK : va_K D vwCl (tysX cy) s) (hN : NW s)  {q : Int32}  {v1 : Int32} (h : X2_namePlaceOf en v1 = q) {ls : Array Slot} (hl : lv_has ls 2 [(0, .ref (ad 34)), (1, .int v1)]) (hP : va_P D vwCl (GX cy ad tk sp nm tp kp cu se ur ab lo im sy un en ra li i2) s.heap) : W p l e ({ frames := 3, cells := 0, slots := 0, locals := 67 } : Room) s m args below meth c s.heap [] 0 0 (MQ below (QP (some (.int q))) args s 0 0 (fun _ => False)) (F0 m 0 ls []) := by
  obtain ⟨hx, hb, hml, hown, hts, hr, hlk⟩ := id C
  unfold X2_namePlaceOf at h
  refine lv_aload_n hx hb dX2_namePlaceOf_0 rfl (lv_at hl 0 rfl) ?_
  refine lv_iload_n hx hb dX2_namePlaceOf_1 rfl (lv_at hl 1 rfl) ?_
  refine lv_iconst (v := (0 : Int32)) hx hb dX2_namePlaceOf_2 (by decide) ?_
  refine lv_ldc2 (v := (-1 : Int64)) hx hb hown (hts _ (List.mem_cons_of_mem _ w929)) dX2_namePlaceOf_3 ?_
  refine cPl (run_V (rest := []) C (kX2_valueOr rfl) caX2_valueOr w930 ⟨rfl, rfl, Nat.le_of_ble_eq_true rfl, Nat.le_of_ble_eq_true rfl⟩ hK hN hP (rX34 hK hP) rfl hl.1 rfl (Nat.le_of_ble_eq_true rfl) dX2_namePlaceOf_6 ⟨Nat.zero_le _, Nat.zero_le _⟩) ?_
  refine lv_l2i (v := (((X2_valueOr en v1 (0 : Int32) (-1 : Int64))).toInt32)) hx hb dX2_namePlaceOf_9 rfl ?_
  obtain rfl := h
  exact W.iret hx hb hr (fun t ht _ => ⟨rfl, ht⟩) (fun _ h9 => by cases h9) dX2_namePlaceOf_10 hlk
theorem kX2_namePlaceOf  {v1 : Int32} {q : Int32} (h : X2_namePlaceOf en v1 = q) : Met l yX2_namePlaceOf (.code yX2_namePlaceOf cX2_namePlaceOf 2 (some .int) :: WA) ({ frames := 3, cells := 0, slots := 0, locals := 67 } : Room) (va_Pc [.ref (ad 34), .int v1] (PR D cy (GX cy ad tk sp nm tp kp cu se ur ab lo im sy un en ra li i2))) (QP (some (.int q))) 0 0 (fun _ => False) :=
  met_of (by decide) (Nat.le_of_ble_eq_true rfl) (fun p e s m below meth c ls C hP hK hN hl => bX2_namePlaceOf_0 C hK hN h hl hP)
def X2_nameLengthOf (en : Ten) (v1 : Int32) : Int32 := (if (X2_has en v1) = 0 then (-1 : Int32) else (at_i 400 en.2.2.2.2.2.1 v1))
set_option maxRecDepth 20000 in
theorem bX2_nameLengthOf_0 (C : Cx p s m args meth c cX2_nameLengthOf 2 (some .int) RX2 (.code yX2_nameLengthOf cX2_nameLengthOf 2 (some .int))) (hK : va_K D vwCl (tysX cy) s) (hN : NW s)  {q : Int32}  {v1 : Int32} (h : X2_nameLengthOf en v1 = q) {ls : Array Slot} (hl : lv_has ls 2 [(0, .ref (ad 34)), (1, .int v1)]) (hP : va_P D vwCl (GX cy ad tk sp nm tp kp cu se ur ab lo im sy un en ra li i2) s.heap) : W p l e ({ frames := 1, cells := 0, slots := 0, locals := 21 } : Room) s m args below meth c s.heap [] 0 0 (MQ below (QP (some (.int q))) args s 0 0 (fun _ => False)) (F0 m 0 ls []) := by
  obtain ⟨hx, hb, hml, hown, hts, hr, hlk⟩ := id C
  unfold X2_nameLengthOf at h
  refine lv_aload_n hx hb dX2_nameLengthOf_0 rfl (lv_at hl 0 rfl) ?_
  refine lv_iload_n hx hb dX2_nameLengthOf_1 rfl (lv_at hl 1 rfl) ?_
  refine cPi (run_V (rest := []) C (kX2_has rfl) caX2_has w881 ⟨rfl, rfl, Nat.le_of_ble_eq_true rfl, Nat.le_of_ble_eq_true rfl⟩ hK hN hP (rX34 hK hP) rfl hl.1 rfl (Nat.le_of_ble_eq_true rfl) dX2_nameLengthOf_2 ⟨Nat.zero_le _, Nat.zero_le _⟩) ?_
  refine lv_if_eq (tgt := 19) hx hb dX2_nameLengthOf_5 (by decide) (fun c1 => ?_) (fun c1 => ?_)
  · rw [if_pos c1] at h
    refine lv_iconst (v := (-1 : Int32)) hx hb dX2_nameLengthOf_19 (by decide) ?_
    obtain rfl := h
    exact W.iret hx hb hr (fun t ht _ => ⟨rfl, ht⟩) (fun _ h9 => by cases h9) dX2_nameLengthOf_20 hlk
  · rw [if_neg c1] at h
    refine lv_aload_n hx hb dX2_nameLengthOf_8 rfl (lv_at hl 0 rfl) ?_
    refine gX34_5 C hK hP w336 dX2_nameLengthOf_9 ?_
    refine lv_iload_n hx hb dX2_nameLengthOf_12 rfl (lv_at hl 1 rfl) ?_
    refine xat_i (rest := []) C hK hN hP eX40 (Nat.le_of_ble_eq_true rfl) w880 hl.1 (Nat.le_of_ble_eq_true rfl) dX2_nameLengthOf_13 ⟨Nat.le_of_ble_eq_true rfl, Nat.le_of_ble_eq_true rfl⟩ ⟨Nat.zero_le _, Nat.zero_le _⟩ ?_
    refine lv_goto (tgt := 20) hx hb dX2_nameLengthOf_16 (by decide) ?_
    obtain rfl := h
    exact W.iret hx hb hr (fun t ht _ => ⟨rfl, ht⟩) (fun _ h9 => by cases h9) dX2_nameLengthOf_20 hlk
theorem kX2_nameLengthOf  {v1 : Int32} {q : Int32} (h : X2_nameLengthOf en v1 = q) : Met l yX2_nameLengthOf (.code yX2_nameLengthOf cX2_nameLengthOf 2 (some .int) :: WA) ({ frames := 1, cells := 0, slots := 0, locals := 21 } : Room) (va_Pc [.ref (ad 34), .int v1] (PR D cy (GX cy ad tk sp nm tp kp cu se ur ab lo im sy un en ra li i2))) (QP (some (.int q))) 0 0 (fun _ => False) :=
  met_of (by decide) (Nat.le_of_ble_eq_true rfl) (fun p e s m below meth c ls C hP hK hN hl => bX2_nameLengthOf_0 C hK hN h hl hP)
def X6_oneHolds_50 (ra : Tra) (k3 : Int32 → Int32 → Int64 → Int32 → Option (Int32))  (v1 : Int32) (v2 : Int32) (v3 : Int64) (v5 : Int32) : Option (Int32) := k3 v1 v2 v3 (v5 + (1 : Int32))
set_option maxRecDepth 20000 in
theorem bX6_oneHolds_50 (C : Cx p s m args meth c cX6_oneHolds 6 (some .boolean) RX6 (.code yX6_oneHolds cX6_oneHolds 6 (some .boolean))) (hK : va_K D vwCl (tysX cy) s) (hN : NW s) {k3 : Int32 → Int32 → Int64 → Int32 → Option (Int32)} {q : Int32} (hk3 : ∀  {v1 : Int32} {v2 : Int32} {v3 : Int64} {v5 : Int32}, k3 v1 v2 v3 v5 = some q → ∀ {ls : Array Slot}, lv_has ls 6 [(0, .ref (ad 45)), (1, .int v1), (2, .int v2), (3, .long v3), (5, .int v5)] → va_P D vwCl (GX cy ad tk sp nm tp kp cu se ur ab lo im sy un en ra li i2) s.heap → W p l e ({ frames := 1, cells := 0, slots := 0, locals := 21 } : Room) s m args below meth c s.heap [] 0 0 (MQ below (QP (some (.int q))) args s 0 0 (fun _ => False)) (F0 m 3 ls [])) {v1 : Int32} {v2 : Int32} {v3 : Int64} {v5 : Int32} (h : X6_oneHolds_50 ra k3 v1 v2 v3 v5 = some q) {ls : Array Slot} (hl : lv_has ls 6 [(0, .ref (ad 45)), (1, .int v1), (2, .int v2), (3, .long v3), (5, .int v5)]) (hP : va_P D vwCl (GX cy ad tk sp nm tp kp cu se ur ab lo im sy un en ra li i2) s.heap) : W p l e ({ frames := 1, cells := 0, slots := 0, locals := 21 } : Room) s m args below meth c s.heap [] 0 0 (MQ below (QP (some (.int q))) args s 0 0 (fun _ => False)) (F0 m 50 ls []) := by
  obtain ⟨hx, hb, hml, hown, hts, hr, hlk⟩ := id C
  unfold X6_oneHolds_50 at h
  refine lv_iinc (v := (v5 + (1 : Int32))) (lv' := [(5, .int (v5 + (1 : Int32))), (0, .ref (ad 45)), (1, .int v1), (2, .int v2), (3, .long v3)]) hx hb dX6_oneHolds_50 hl (k := 4) rfl rfl (by decide) rfl (fun ls hl => ?_)
  refine lv_goto (tgt := 3) hx hb dX6_oneHolds_53 (by decide) ?_
  exact hk3 h (lv_sub hl [1, 2, 3, 4, 0] rfl) hP
def X6_oneHolds_3b (ra : Tra)  (k3 : Int32 → Int32 → Int64 → Int32 → Option (Int32))  (v1 : Int32) (v2 : Int32) (v3 : Int64) (v5 : Int32) : Option (Int32) := (if v5 < (v1 + v2) then (if v5 < ra.2.2.1 then (if v3 < (at_l 200 ra.1 v5) then X6_oneHolds_50 ra k3 v1 v2 v3 v5 else (if v3 < (at_l 200 ra.2.1 v5) then some (1 : Int32) else X6_oneHolds_50 ra k3 v1 v2 v3 v5)) else some (0 : Int32)) else some (0 : Int32))
def X6_oneHolds_3 (ra : Tra)  (n : Nat) (st : Int32 × Int32 × Int64 × Int32) : Option (Int32) := lp (fun rec st => X6_oneHolds_3b ra  (fun a0 a1 a2 a3 => rec (a0, a1, a2, a3)) st.1 st.2.1 st.2.2.1 st.2.2.2) n st
set_option maxRecDepth 20000 in
theorem bX6_oneHolds_3 (C : Cx p s m args meth c cX6_oneHolds 6 (some .boolean) RX6 (.code yX6_oneHolds cX6_oneHolds 6 (some .boolean))) (hK : va_K D vwCl (tysX cy) s) (hN : NW s)  {q : Int32}  : ∀ (n : Nat)  {v1 : Int32} {v2 : Int32} {v3 : Int64} {v5 : Int32}, X6_oneHolds_3 ra  n (v1, v2, v3, v5) = some q → ∀ {ls : Array Slot}, lv_has ls 6 [(0, .ref (ad 45)), (1, .int v1), (2, .int v2), (3, .long v3), (5, .int v5)] → va_P D vwCl (GX cy ad tk sp nm tp kp cu se ur ab lo im sy un en ra li i2) s.heap → W p l e ({ frames := 1, cells := 0, slots := 0, locals := 21 } : Room) s m args below meth c s.heap [] 0 0 (MQ below (QP (some (.int q))) args s 0 0 (fun _ => False)) (F0 m 3 ls []) := by
  obtain ⟨hx, hb, hml, hown, hts, hr, hlk⟩ := id C
  intro n
  induction n with
  | zero =>
    intro v1 v2 v3 v5 h ls hl hP
    have h : (none : Option (Int32)) = some q := h
    cases h
  | succ n ih =>
    intro v1 v2 v3 v5 h ls hl hP
    have h : X6_oneHolds_3b ra  (fun a0 a1 a2 a3 => X6_oneHolds_3 ra  n (a0, a1, a2, a3)) v1 v2 v3 v5 = some q := h
    unfold X6_oneHolds_3b at h
    refine lv_iload hx hb dX6_oneHolds_3 (lv_at hl 4 rfl) ?_
    refine lv_iload_n hx hb dX6_oneHolds_5 rfl (lv_at hl 1 rfl) ?_
    refine lv_iload_n hx hb dX6_oneHolds_6 rfl (lv_at hl 2 rfl) ?_
    refine lv_iadd hx hb dX6_oneHolds_7 ?_
    refine b_icmp_ge (tgt := 56) hx hb dX6_oneHolds_8 (by decide) (fun c1 => ?_) (fun c1 => ?_)
    · rw [if_neg c1] at h
      refine lv_iconst (v := (0 : Int32)) hx hb dX6_oneHolds_56 (by decide) ?_
      obtain rfl := Option.some.inj h
      exact W.zret (ty := .boolean) hx hb hr (by decide) (fun t ht _ => ⟨rfl, ht⟩) (fun _ h9 => by cases h9) dX6_oneHolds_57 hlk
    · rw [if_pos c1] at h
      refine lv_iload hx hb dX6_oneHolds_11 (lv_at hl 4 rfl) ?_
      refine lv_aload_n hx hb dX6_oneHolds_13 rfl (lv_at hl 0 rfl) ?_
      refine gX45_2 (v := ra.2.2.1) C hK hP rfl w373 dX6_oneHolds_14 ?_
      refine b_icmp_ge (tgt := 56) hx hb dX6_oneHolds_17 (by decide) (fun c2 => ?_) (fun c2 => ?_)
      · rw [if_neg c2] at h
        refine lv_iconst (v := (0 : Int32)) hx hb dX6_oneHolds_56 (by decide) ?_
        obtain rfl := Option.some.inj h
        exact W.zret (ty := .boolean) hx hb hr (by decide) (fun t ht _ => ⟨rfl, ht⟩) (fun _ h9 => by cases h9) dX6_oneHolds_57 hlk
      · rw [if_pos c2] at h
        refine lv_lload_n hx hb dX6_oneHolds_20 rfl (lv_at hl 3 rfl) ?_
        refine lv_aload_n hx hb dX6_oneHolds_21 rfl (lv_at hl 0 rfl) ?_
        refine gX45_0 C hK hP w371 dX6_oneHolds_22 ?_
        refine lv_iload hx hb dX6_oneHolds_25 (lv_at hl 4 rfl) ?_
        refine xat_l (rest := [.long v3]) C hK hN hP eX46 (Nat.le_of_ble_eq_true rfl) w1187 hl.1 (Nat.le_of_ble_eq_true rfl) dX6_oneHolds_27 ⟨Nat.le_of_ble_eq_true rfl, Nat.le_of_ble_eq_true rfl⟩ ⟨Nat.zero_le _, Nat.zero_le _⟩ ?_
        refine lc_lt (tgt := 50) hx hb dX6_oneHolds_30 dX6_oneHolds_31 (by decide) (fun c3 => ?_) (fun c3 => ?_)
        · rw [if_pos c3] at h
          exact bX6_oneHolds_50 C hK hN @ih h (lv_sub hl [0, 1, 2, 3, 4] rfl) hP
        · rw [if_neg c3] at h
          refine lv_lload_n hx hb dX6_oneHolds_34 rfl (lv_at hl 3 rfl) ?_
          refine lv_aload_n hx hb dX6_oneHolds_35 rfl (lv_at hl 0 rfl) ?_
          refine gX45_1 C hK hP w372 dX6_oneHolds_36 ?_
          refine lv_iload hx hb dX6_oneHolds_39 (lv_at hl 4 rfl) ?_
          refine xat_l (rest := [.long v3]) C hK hN hP eX47 (Nat.le_of_ble_eq_true rfl) w1187 hl.1 (Nat.le_of_ble_eq_true rfl) dX6_oneHolds_41 ⟨Nat.le_of_ble_eq_true rfl, Nat.le_of_ble_eq_true rfl⟩ ⟨Nat.zero_le _, Nat.zero_le _⟩ ?_
          refine lc_ge (tgt := 50) hx hb dX6_oneHolds_44 dX6_oneHolds_45 (by decide) (fun c4 => ?_) (fun c4 => ?_)
          · rw [if_neg c4] at h
            exact bX6_oneHolds_50 C hK hN @ih h (lv_sub hl [0, 1, 2, 3, 4] rfl) hP
          · rw [if_pos c4] at h
            refine lv_iconst (v := (1 : Int32)) hx hb dX6_oneHolds_48 (by decide) ?_
            obtain rfl := Option.some.inj h
            exact W.zret (ty := .boolean) hx hb hr (by decide) (fun t ht _ => ⟨rfl, ht⟩) (fun _ h9 => by cases h9) dX6_oneHolds_49 hlk
def X6_oneHolds (ra : Tra) (v1 : Int32) (v2 : Int32) (v3 : Int64) : Option (Int32) := X6_oneHolds_3 ra FU (v1, v2, v3, v1)
set_option maxRecDepth 20000 in
theorem bX6_oneHolds_0 (C : Cx p s m args meth c cX6_oneHolds 6 (some .boolean) RX6 (.code yX6_oneHolds cX6_oneHolds 6 (some .boolean))) (hK : va_K D vwCl (tysX cy) s) (hN : NW s)  {q : Int32}  {v1 : Int32} {v2 : Int32} {v3 : Int64} (h : X6_oneHolds ra v1 v2 v3 = some q) {ls : Array Slot} (hl : lv_has ls 6 [(0, .ref (ad 45)), (1, .int v1), (2, .int v2), (3, .long v3)]) (hP : va_P D vwCl (GX cy ad tk sp nm tp kp cu se ur ab lo im sy un en ra li i2) s.heap) : W p l e ({ frames := 1, cells := 0, slots := 0, locals := 21 } : Room) s m args below meth c s.heap [] 0 0 (MQ below (QP (some (.int q))) args s 0 0 (fun _ => False)) (F0 m 0 ls []) := by
  obtain ⟨hx, hb, hml, hown, hts, hr, hlk⟩ := id C
  unfold X6_oneHolds at h
  refine lv_iload_n hx hb dX6_oneHolds_0 rfl (lv_at hl 1 rfl) ?_
  refine lv_istore (lv' := [(5, .int v1), (0, .ref (ad 45)), (1, .int v1), (2, .int v2), (3, .long v3)]) hx hb dX6_oneHolds_1 hl (by decide) rfl (fun ls hl => ?_)
  exact bX6_oneHolds_3 C hK hN FU h (lv_sub hl [1, 2, 3, 4, 0] rfl) hP
theorem kX6_oneHolds  {v1 : Int32} {v2 : Int32} {v3 : Int64} {q : Int32} (h : X6_oneHolds ra v1 v2 v3 = some q) : Met l yX6_oneHolds (.code yX6_oneHolds cX6_oneHolds 6 (some .boolean) :: WA) ({ frames := 1, cells := 0, slots := 0, locals := 21 } : Room) (va_Pc [.ref (ad 45), .int v1, .int v2, .long v3] (PR D cy (GX cy ad tk sp nm tp kp cu se ur ab lo im sy un en ra li i2))) (QP (some (.int q))) 0 0 (fun _ => False) :=
  met_of (by decide) (Nat.le_of_ble_eq_true rfl) (fun p e s m below meth c ls C hP hK hN hl => bX6_oneHolds_0 C hK hN h hl hP)
def X3_entryHolds (en : Ten) (ra : Tra) (v1 : Int32) (v2 : Int64) : Option (Int32) := (if (X2_has en v1) = 0 then some (0 : Int32) else ((X6_oneHolds ra (X2_firstRangeOf en v1) (X2_rangeTotalOf en v1) v2).bind fun q2 => (if bz q2 = true then some q2 else none)))
set_option maxRecDepth 20000 in
theorem bX3_entryHolds_0 (C : Cx p s m args meth c cX3_entryHolds 4 (some .boolean) RX3 (.code yX3_entryHolds cX3_entryHolds 4 (some .boolean))) (hK : va_K D vwCl (tysX cy) s) (hN : NW s)  {q : Int32}  {v1 : Int32} {v2 : Int64} (h : X3_entryHolds en ra v1 v2 = some q) {ls : Array Slot} (hl : lv_has ls 4 [(0, .ref (ad 21)), (1, .int v1), (2, .long v2)]) (hP : va_P D vwCl (GX cy ad tk sp nm tp kp cu se ur ab lo im sy un en ra li i2) s.heap) : W p l e ({ frames := 2, cells := 0, slots := 0, locals := 46 } : Room) s m args below meth c s.heap [] 0 0 (MQ below (QP (some (.int q))) args s 0 0 (fun _ => False)) (F0 m 0 ls []) := by
  obtain ⟨hx, hb, hml, hown, hts, hr, hlk⟩ := id C
  unfold X3_entryHolds at h
  refine lv_aload_n hx hb dX3_entryHolds_0 rfl (lv_at hl 0 rfl) ?_
  refine gX21_2 C hK hP w457 dX3_entryHolds_1 ?_
  refine lv_iload_n hx hb dX3_entryHolds_4 rfl (lv_at hl 1 rfl) ?_
  refine cPi (run_V (rest := []) C (kX2_has rfl) caX2_has w1177 ⟨rfl, rfl, Nat.le_of_ble_eq_true rfl, Nat.le_of_ble_eq_true rfl⟩ hK hN hP (rX34 hK hP) rfl hl.1 rfl (Nat.le_of_ble_eq_true rfl) dX3_entryHolds_5 ⟨Nat.zero_le _, Nat.zero_le _⟩) ?_
  refine lv_if_ne (tgt := 13) hx hb dX3_entryHolds_8 (by decide) (fun c1 => ?_) (fun c1 => ?_)
  · rw [if_neg c1] at h
    refine lv_aload_n hx hb dX3_entryHolds_13 rfl (lv_at hl 0 rfl) ?_
    refine gX21_3 C hK hP w463 dX3_entryHolds_14 ?_
    refine lv_aload_n hx hb dX3_entryHolds_17 rfl (lv_at hl 0 rfl) ?_
    refine gX21_2 C hK hP w457 dX3_entryHolds_18 ?_
    refine lv_iload_n hx hb dX3_entryHolds_21 rfl (lv_at hl 1 rfl) ?_
    refine cPi (run_V (rest := [.ref (ad 45)]) C (kX2_firstRangeOf rfl) caX2_firstRangeOf w1178 ⟨rfl, rfl, Nat.le_of_ble_eq_true rfl, Nat.le_of_ble_eq_true rfl⟩ hK hN hP (rX34 hK hP) rfl hl.1 rfl (Nat.le_of_ble_eq_true rfl) dX3_entryHolds_22 ⟨Nat.zero_le _, Nat.zero_le _⟩) ?_
    refine lv_aload_n hx hb dX3_entryHolds_25 rfl (lv_at hl 0 rfl) ?_
    refine gX21_2 C hK hP w457 dX3_entryHolds_26 ?_
    refine lv_iload_n hx hb dX3_entryHolds_29 rfl (lv_at hl 1 rfl) ?_
    refine cPi (run_V (rest := [.int (X2_firstRangeOf en v1), .ref (ad 45)]) C (kX2_rangeTotalOf rfl) caX2_rangeTotalOf w1182 ⟨rfl, rfl, Nat.le_of_ble_eq_true rfl, Nat.le_of_ble_eq_true rfl⟩ hK hN hP (rX34 hK hP) rfl hl.1 rfl (Nat.le_of_ble_eq_true rfl) dX3_entryHolds_30 ⟨Nat.zero_le _, Nat.zero_le _⟩) ?_
    refine lv_lload_n hx hb dX3_entryHolds_33 rfl (lv_at hl 2 rfl) ?_
    obtain ⟨q2, h3, h⟩ := bnd h
    refine cPi (run_V (rest := []) C (kX6_oneHolds h3) caX6_oneHolds w1183 ⟨rfl, rfl, Nat.le_of_ble_eq_true rfl, Nat.le_of_ble_eq_true rfl⟩ hK hN hP (rX45 hK hP) rfl hl.1 rfl (Nat.le_of_ble_eq_true rfl) dX3_entryHolds_34 ⟨Nat.zero_le _, Nat.zero_le _⟩) ?_
    obtain ⟨n4, h⟩ := grd h
    obtain rfl := Option.some.inj h
    exact W.zret (ty := .boolean) hx hb hr (bz_n n4) (fun t ht _ => ⟨rfl, ht⟩) (fun _ h9 => by cases h9) dX3_entryHolds_37 hlk
  · rw [if_pos c1] at h
    refine lv_iconst (v := (0 : Int32)) hx hb dX3_entryHolds_11 (by decide) ?_
    obtain rfl := Option.some.inj h
    exact W.zret (ty := .boolean) hx hb hr (by decide) (fun t ht _ => ⟨rfl, ht⟩) (fun _ h9 => by cases h9) dX3_entryHolds_12 hlk
theorem kX3_entryHolds  {v1 : Int32} {v2 : Int64} {q : Int32} (h : X3_entryHolds en ra v1 v2 = some q) : Met l yX3_entryHolds (.code yX3_entryHolds cX3_entryHolds 4 (some .boolean) :: WA) ({ frames := 2, cells := 0, slots := 0, locals := 46 } : Room) (va_Pc [.ref (ad 21), .int v1, .long v2] (PR D cy (GX cy ad tk sp nm tp kp cu se ur ab lo im sy un en ra li i2))) (QP (some (.int q))) 0 0 (fun _ => False) :=
  met_of (by decide) (Nat.le_of_ble_eq_true rfl) (fun p e s m below meth c ls C hP hK hN hl => bX3_entryHolds_0 C hK hN h hl hP)
def X3_functionHolding_46 (en : Ten) (ra : Tra) (k2 : Int64 → Int32 → Option (Int32))  (v1 : Int64) (v3 : Int32) : Option (Int32) := k2 v1 (v3 + (1 : Int32))
set_option maxRecDepth 20000 in
theorem bX3_functionHolding_46 (C : Cx p s m args meth c cX3_functionHolding 4 (some .int) RX3 (.code yX3_functionHolding cX3_functionHolding 4 (some .int))) (hK : va_K D vwCl (tysX cy) s) (hN : NW s) {k2 : Int64 → Int32 → Option (Int32)} {q : Int32} (hk2 : ∀  {v1 : Int64} {v3 : Int32}, k2 v1 v3 = some q → ∀ {ls : Array Slot}, lv_has ls 4 [(0, .ref (ad 21)), (1, .long v1), (3, .int v3)] → va_P D vwCl (GX cy ad tk sp nm tp kp cu se ur ab lo im sy un en ra li i2) s.heap → W p l e ({ frames := 3, cells := 0, slots := 0, locals := 69 } : Room) s m args below meth c s.heap [] 0 0 (MQ below (QP (some (.int q))) args s 0 0 (fun _ => False)) (F0 m 2 ls [])) {v1 : Int64} {v3 : Int32} (h : X3_functionHolding_46 en ra k2 v1 v3 = some q) {ls : Array Slot} (hl : lv_has ls 4 [(0, .ref (ad 21)), (1, .long v1), (3, .int v3)]) (hP : va_P D vwCl (GX cy ad tk sp nm tp kp cu se ur ab lo im sy un en ra li i2) s.heap) : W p l e ({ frames := 3, cells := 0, slots := 0, locals := 69 } : Room) s m args below meth c s.heap [] 0 0 (MQ below (QP (some (.int q))) args s 0 0 (fun _ => False)) (F0 m 46 ls []) := by
  obtain ⟨hx, hb, hml, hown, hts, hr, hlk⟩ := id C
  unfold X3_functionHolding_46 at h
  refine lv_iinc (v := (v3 + (1 : Int32))) (lv' := [(3, .int (v3 + (1 : Int32))), (0, .ref (ad 21)), (1, .long v1)]) hx hb dX3_functionHolding_46 hl (k := 2) rfl rfl (by decide) rfl (fun ls hl => ?_)
  refine lv_goto (tgt := 2) hx hb dX3_functionHolding_49 (by decide) ?_
  exact hk2 h (lv_sub hl [1, 2, 0] rfl) hP
def X3_functionHolding_2b (en : Ten) (ra : Tra)  (k2 : Int64 → Int32 → Option (Int32))  (v1 : Int64) (v3 : Int32) : Option (Int32) := (if v3 < (400 : Int32) then (if v3 < (X2_total en) then (if (X2_tagOf en v3) = (46 : Int64) then ((X3_entryHolds en ra v3 v1).bind fun q4 => (if q4 = 0 then X3_functionHolding_46 en ra k2 v1 v3 else some v3)) else X3_functionHolding_46 en ra k2 v1 v3) else some (-1 : Int32)) else some (-1 : Int32))
def X3_functionHolding_2 (en : Ten) (ra : Tra)  (n : Nat) (st : Int64 × Int32) : Option (Int32) := lp (fun rec st => X3_functionHolding_2b en ra  (fun a0 a1 => rec (a0, a1)) st.1 st.2) n st
set_option maxRecDepth 20000 in
theorem bX3_functionHolding_2 (C : Cx p s m args meth c cX3_functionHolding 4 (some .int) RX3 (.code yX3_functionHolding cX3_functionHolding 4 (some .int))) (hK : va_K D vwCl (tysX cy) s) (hN : NW s)  {q : Int32}  : ∀ (n : Nat)  {v1 : Int64} {v3 : Int32}, X3_functionHolding_2 en ra  n (v1, v3) = some q → ∀ {ls : Array Slot}, lv_has ls 4 [(0, .ref (ad 21)), (1, .long v1), (3, .int v3)] → va_P D vwCl (GX cy ad tk sp nm tp kp cu se ur ab lo im sy un en ra li i2) s.heap → W p l e ({ frames := 3, cells := 0, slots := 0, locals := 69 } : Room) s m args below meth c s.heap [] 0 0 (MQ below (QP (some (.int q))) args s 0 0 (fun _ => False)) (F0 m 2 ls []) := by
  obtain ⟨hx, hb, hml, hown, hts, hr, hlk⟩ := id C
  intro n
  induction n with
  | zero =>
    intro v1 v3 h ls hl hP
    have h : (none : Option (Int32)) = some q := h
    cases h
  | succ n ih =>
    intro v1 v3 h ls hl hP
    have h : X3_functionHolding_2b en ra  (fun a0 a1 => X3_functionHolding_2 en ra  n (a0, a1)) v1 v3 = some q := h
    unfold X3_functionHolding_2b at h
    refine lv_iload_n hx hb dX3_functionHolding_2 rfl (lv_at hl 2 rfl) ?_
    refine lv_sipush (v := (400 : Int32)) hx hb dX3_functionHolding_3 (by decide) ?_
    refine b_icmp_ge (tgt := 52) hx hb dX3_functionHolding_6 (by decide) (fun c1 => ?_) (fun c1 => ?_)
    · rw [if_neg c1] at h
      refine lv_iconst (v := (-1 : Int32)) hx hb dX3_functionHolding_52 (by decide) ?_
      obtain rfl := Option.some.inj h
      exact W.iret hx hb hr (fun t ht _ => ⟨rfl, ht⟩) (fun _ h9 => by cases h9) dX3_functionHolding_53 hlk
    · rw [if_pos c1] at h
      refine lv_iload_n hx hb dX3_functionHolding_9 rfl (lv_at hl 2 rfl) ?_
      refine lv_aload_n hx hb dX3_functionHolding_10 rfl (lv_at hl 0 rfl) ?_
      refine gX21_2 C hK hP w457 dX3_functionHolding_11 ?_
      refine cPi (run_V (rest := [.int v3]) C (kX2_total rfl) caX2_total w1233 ⟨rfl, rfl, Nat.le_of_ble_eq_true rfl, Nat.le_of_ble_eq_true rfl⟩ hK hN hP (rX34 hK hP) rfl hl.1 rfl (Nat.le_of_ble_eq_true rfl) dX3_functionHolding_14 ⟨Nat.zero_le _, Nat.zero_le _⟩) ?_
      refine b_icmp_ge (tgt := 52) hx hb dX3_functionHolding_17 (by decide) (fun c2 => ?_) (fun c2 => ?_)
      · rw [if_neg c2] at h
        refine lv_iconst (v := (-1 : Int32)) hx hb dX3_functionHolding_52 (by decide) ?_
        obtain rfl := Option.some.inj h
        exact W.iret hx hb hr (fun t ht _ => ⟨rfl, ht⟩) (fun _ h9 => by cases h9) dX3_functionHolding_53 hlk
      · rw [if_pos c2] at h
        refine lv_aload_n hx hb dX3_functionHolding_20 rfl (lv_at hl 0 rfl) ?_
        refine gX21_2 C hK hP w457 dX3_functionHolding_21 ?_
        refine lv_iload_n hx hb dX3_functionHolding_24 rfl (lv_at hl 2 rfl) ?_
        refine cPl (run_V (rest := []) C (kX2_tagOf rfl) caX2_tagOf w1234 ⟨rfl, rfl, Nat.le_of_ble_eq_true rfl, Nat.le_of_ble_eq_true rfl⟩ hK hN hP (rX34 hK hP) rfl hl.1 rfl (Nat.le_of_ble_eq_true rfl) dX3_functionHolding_25 ⟨Nat.zero_le _, Nat.zero_le _⟩) ?_
        refine lv_ldc2 (v := (46 : Int64)) hx hb hown (hts _ (List.mem_cons_of_mem _ w1235)) dX3_functionHolding_28 ?_
        refine lc_ne (tgt := 46) hx hb dX3_functionHolding_31 dX3_functionHolding_32 (by decide) (fun c3 => ?_) (fun c3 => ?_)
        · rw [if_neg c3] at h
          exact bX3_functionHolding_46 C hK hN @ih h (lv_sub hl [0, 1, 2] rfl) hP
        · rw [if_pos c3] at h
          refine lv_aload_n hx hb dX3_functionHolding_35 rfl (lv_at hl 0 rfl) ?_
          refine lv_iload_n hx hb dX3_functionHolding_36 rfl (lv_at hl 2 rfl) ?_
          refine lv_lload_n hx hb dX3_functionHolding_37 rfl (lv_at hl 1 rfl) ?_
          obtain ⟨q4, h5, h⟩ := bnd h
          refine cPi (run_V (rest := []) C (kX3_entryHolds h5) caX3_entryHolds w1236 ⟨rfl, rfl, Nat.le_of_ble_eq_true rfl, Nat.le_of_ble_eq_true rfl⟩ hK hN hP (rX21 hK hP) rfl hl.1 rfl (Nat.le_of_ble_eq_true rfl) dX3_functionHolding_38 ⟨Nat.zero_le _, Nat.zero_le _⟩) ?_
          refine lv_if_eq (tgt := 46) hx hb dX3_functionHolding_41 (by decide) (fun c6 => ?_) (fun c6 => ?_)
          · rw [if_pos c6] at h
            exact bX3_functionHolding_46 C hK hN @ih h (lv_sub hl [0, 1, 2] rfl) hP
          · rw [if_neg c6] at h
            refine lv_iload_n hx hb dX3_functionHolding_44 rfl (lv_at hl 2 rfl) ?_
            obtain rfl := Option.some.inj h
            exact W.iret hx hb hr (fun t ht _ => ⟨rfl, ht⟩) (fun _ h9 => by cases h9) dX3_functionHolding_45 hlk
def X3_functionHolding (en : Ten) (ra : Tra) (v1 : Int64) : Option (Int32) := X3_functionHolding_2 en ra FU (v1, (0 : Int32))
set_option maxRecDepth 20000 in
theorem bX3_functionHolding_0 (C : Cx p s m args meth c cX3_functionHolding 4 (some .int) RX3 (.code yX3_functionHolding cX3_functionHolding 4 (some .int))) (hK : va_K D vwCl (tysX cy) s) (hN : NW s)  {q : Int32}  {v1 : Int64} (h : X3_functionHolding en ra v1 = some q) {ls : Array Slot} (hl : lv_has ls 4 [(0, .ref (ad 21)), (1, .long v1)]) (hP : va_P D vwCl (GX cy ad tk sp nm tp kp cu se ur ab lo im sy un en ra li i2) s.heap) : W p l e ({ frames := 3, cells := 0, slots := 0, locals := 69 } : Room) s m args below meth c s.heap [] 0 0 (MQ below (QP (some (.int q))) args s 0 0 (fun _ => False)) (F0 m 0 ls []) := by
  obtain ⟨hx, hb, hml, hown, hts, hr, hlk⟩ := id C
  unfold X3_functionHolding at h
  refine lv_iconst (v := (0 : Int32)) hx hb dX3_functionHolding_0 (by decide) ?_
  refine lv_istore_n (lv' := [(3, .int (0 : Int32)), (0, .ref (ad 21)), (1, .long v1)]) hx hb dX3_functionHolding_1 rfl hl (by decide) rfl (fun ls hl => ?_)
  exact bX3_functionHolding_2 C hK hN FU h (lv_sub hl [1, 2, 0] rfl) hP
theorem kX3_functionHolding  {v1 : Int64} {q : Int32} (h : X3_functionHolding en ra v1 = some q) : Met l yX3_functionHolding (.code yX3_functionHolding cX3_functionHolding 4 (some .int) :: WA) ({ frames := 3, cells := 0, slots := 0, locals := 69 } : Room) (va_Pc [.ref (ad 21), .long v1] (PR D cy (GX cy ad tk sp nm tp kp cu se ur ab lo im sy un en ra li i2))) (QP (some (.int q))) 0 0 (fun _ => False) :=
  met_of (by decide) (Nat.le_of_ble_eq_true rfl) (fun p e s m below meth c ls C hP hK hN hl => bX3_functionHolding_0 C hK hN h hl hP)
def X3_childHolding_92 (en : Ten) (ra : Tra) (k5 : Int32 → Int64 → Int32 → Option (Int32))  (v1 : Int32) (v2 : Int64) (v4 : Int32) : Option (Int32) := k5 v1 v2 (v4 + (1 : Int32))
set_option maxRecDepth 20000 in
theorem bX3_childHolding_92 (C : Cx p s m args meth c cX3_childHolding 8 (some .int) RX3 (.code yX3_childHolding cX3_childHolding 8 (some .int))) (hK : va_K D vwCl (tysX cy) s) (hN : NW s) {k5 : Int32 → Int64 → Int32 → Option (Int32)} {q : Int32} (hk5 : ∀  {v1 : Int32} {v2 : Int64} {v4 : Int32}, k5 v1 v2 v4 = some q → ∀ {ls : Array Slot}, lv_has ls 8 [(0, .ref (ad 21)), (1, .int v1), (2, .long v2), (4, .int v4)] → va_P D vwCl (GX cy ad tk sp nm tp kp cu se ur ab lo im sy un en ra li i2) s.heap → W p l e ({ frames := 3, cells := 0, slots := 0, locals := 69 } : Room) s m args below meth c s.heap [] 0 0 (MQ below (QP (some (.int q))) args s 0 0 (fun _ => False)) (F0 m 5 ls [])) {v1 : Int32} {v2 : Int64} {v4 : Int32} (h : X3_childHolding_92 en ra k5 v1 v2 v4 = some q) {ls : Array Slot} (hl : lv_has ls 8 [(0, .ref (ad 21)), (1, .int v1), (2, .long v2), (4, .int v4)]) (hP : va_P D vwCl (GX cy ad tk sp nm tp kp cu se ur ab lo im sy un en ra li i2) s.heap) : W p l e ({ frames := 3, cells := 0, slots := 0, locals := 69 } : Room) s m args below meth c s.heap [] 0 0 (MQ below (QP (some (.int q))) args s 0 0 (fun _ => False)) (F0 m 92 ls []) := by
  obtain ⟨hx, hb, hml, hown, hts, hr, hlk⟩ := id C
  unfold X3_childHolding_92 at h
  refine lv_iinc (v := (v4 + (1 : Int32))) (lv' := [(4, .int (v4 + (1 : Int32))), (0, .ref (ad 21)), (1, .int v1), (2, .long v2)]) hx hb dX3_childHolding_92 hl (k := 3) rfl rfl (by decide) rfl (fun ls hl => ?_)
  refine lv_goto (tgt := 5) hx hb dX3_childHolding_95 (by decide) ?_
  exact hk5 h (lv_sub hl [1, 2, 3, 0] rfl) hP
def X3_childHolding_59 (en : Ten) (ra : Tra) (k5 : Int32 → Int64 → Int32 → Option (Int32))  (v1 : Int32) (v2 : Int64) (v4 : Int32) (z0 : Int32) : Option (Int32) := (if z0 = 0 then X3_childHolding_92 en ra k5 v1 v2 v4 else (if (X2_parentOf en v4) = v1 then ((X3_entryHolds en ra v4 v2).bind fun q3 => (if q3 = 0 then X3_childHolding_92 en ra k5 v1 v2 v4 else some v4)) else X3_childHolding_92 en ra k5 v1 v2 v4))
set_option maxRecDepth 20000 in
theorem bX3_childHolding_59 (C : Cx p s m args meth c cX3_childHolding 8 (some .int) RX3 (.code yX3_childHolding cX3_childHolding 8 (some .int))) (hK : va_K D vwCl (tysX cy) s) (hN : NW s) {k5 : Int32 → Int64 → Int32 → Option (Int32)} {q : Int32} (hk5 : ∀  {v1 : Int32} {v2 : Int64} {v4 : Int32}, k5 v1 v2 v4 = some q → ∀ {ls : Array Slot}, lv_has ls 8 [(0, .ref (ad 21)), (1, .int v1), (2, .long v2), (4, .int v4)] → va_P D vwCl (GX cy ad tk sp nm tp kp cu se ur ab lo im sy un en ra li i2) s.heap → W p l e ({ frames := 3, cells := 0, slots := 0, locals := 69 } : Room) s m args below meth c s.heap [] 0 0 (MQ below (QP (some (.int q))) args s 0 0 (fun _ => False)) (F0 m 5 ls [])) {v1 : Int32} {v2 : Int64} {v4 : Int32} {z0 : Int32} (h : X3_childHolding_59 en ra k5 v1 v2 v4 z0 = some q) {ls : Array Slot} (hl : lv_has ls 8 [(0, .ref (ad 21)), (1, .int v1), (2, .long v2), (4, .int v4)]) (hP : va_P D vwCl (GX cy ad tk sp nm tp kp cu se ur ab lo im sy un en ra li i2) s.heap) : W p l e ({ frames := 3, cells := 0, slots := 0, locals := 69 } : Room) s m args below meth c s.heap [] 0 0 (MQ below (QP (some (.int q))) args s 0 0 (fun _ => False)) (F0 m 59 ls [.int z0]) := by
  obtain ⟨hx, hb, hml, hown, hts, hr, hlk⟩ := id C
  unfold X3_childHolding_59 at h
  refine lv_istore (lv' := [(7, .int z0), (0, .ref (ad 21)), (1, .int v1), (2, .long v2), (4, .int v4)]) hx hb dX3_childHolding_59 hl (by decide) rfl (fun ls hl => ?_)
  refine lv_iload hx hb dX3_childHolding_61 (lv_at hl 0 rfl) ?_
  refine lv_if_eq (tgt := 92) hx hb dX3_childHolding_63 (by decide) (fun c1 => ?_) (fun c1 => ?_)
  · rw [if_pos c1] at h
    exact bX3_childHolding_92 C hK hN @hk5 h (lv_sub hl [1, 2, 3, 4] rfl) hP
  · rw [if_neg c1] at h
    refine lv_aload_n hx hb dX3_childHolding_66 rfl (lv_at hl 1 rfl) ?_
    refine gX21_2 C hK hP w457 dX3_childHolding_67 ?_
    refine lv_iload hx hb dX3_childHolding_70 (lv_at hl 4 rfl) ?_
    refine cPi (run_V (rest := []) C (kX2_parentOf rfl) caX2_parentOf w1246 ⟨rfl, rfl, Nat.le_of_ble_eq_true rfl, Nat.le_of_ble_eq_true rfl⟩ hK hN hP (rX34 hK hP) rfl hl.1 rfl (Nat.le_of_ble_eq_true rfl) dX3_childHolding_72 ⟨Nat.zero_le _, Nat.zero_le _⟩) ?_
    refine lv_iload_n hx hb dX3_childHolding_75 rfl (lv_at hl 2 rfl) ?_
    refine lv_icmp_ne (tgt := 92) hx hb dX3_childHolding_76 (by decide) (fun c2 => ?_) (fun c2 => ?_)
    · rw [if_neg c2] at h
      exact bX3_childHolding_92 C hK hN @hk5 h (lv_sub hl [1, 2, 3, 4] rfl) hP
    · rw [if_pos c2] at h
      refine lv_aload_n hx hb dX3_childHolding_79 rfl (lv_at hl 1 rfl) ?_
      refine lv_iload hx hb dX3_childHolding_80 (lv_at hl 4 rfl) ?_
      refine lv_lload_n hx hb dX3_childHolding_82 rfl (lv_at hl 3 rfl) ?_
      obtain ⟨q3, h4, h⟩ := bnd h
      refine cPi (run_V (rest := []) C (kX3_entryHolds h4) caX3_entryHolds w1236 ⟨rfl, rfl, Nat.le_of_ble_eq_true rfl, Nat.le_of_ble_eq_true rfl⟩ hK hN hP (rX21 hK hP) rfl hl.1 rfl (Nat.le_of_ble_eq_true rfl) dX3_childHolding_83 ⟨Nat.zero_le _, Nat.zero_le _⟩) ?_
      refine lv_if_eq (tgt := 92) hx hb dX3_childHolding_86 (by decide) (fun c5 => ?_) (fun c5 => ?_)
      · rw [if_pos c5] at h
        exact bX3_childHolding_92 C hK hN @hk5 h (lv_sub hl [1, 2, 3, 4] rfl) hP
      · rw [if_neg c5] at h
        refine lv_iload hx hb dX3_childHolding_89 (lv_at hl 4 rfl) ?_
        obtain rfl := Option.some.inj h
        exact W.iret hx hb hr (fun t ht _ => ⟨rfl, ht⟩) (fun _ h9 => by cases h9) dX3_childHolding_91 hlk
def X3_childHolding_54 (en : Ten) (ra : Tra) (k5 : Int32 → Int64 → Int32 → Option (Int32))  (v1 : Int32) (v2 : Int64) (v4 : Int32) : Option (Int32) := X3_childHolding_59 en ra k5 v1 v2 v4 (1 : Int32)
set_option maxRecDepth 20000 in
theorem bX3_childHolding_54 (C : Cx p s m args meth c cX3_childHolding 8 (some .int) RX3 (.code yX3_childHolding cX3_childHolding 8 (some .int))) (hK : va_K D vwCl (tysX cy) s) (hN : NW s) {k5 : Int32 → Int64 → Int32 → Option (Int32)} {q : Int32} (hk5 : ∀  {v1 : Int32} {v2 : Int64} {v4 : Int32}, k5 v1 v2 v4 = some q → ∀ {ls : Array Slot}, lv_has ls 8 [(0, .ref (ad 21)), (1, .int v1), (2, .long v2), (4, .int v4)] → va_P D vwCl (GX cy ad tk sp nm tp kp cu se ur ab lo im sy un en ra li i2) s.heap → W p l e ({ frames := 3, cells := 0, slots := 0, locals := 69 } : Room) s m args below meth c s.heap [] 0 0 (MQ below (QP (some (.int q))) args s 0 0 (fun _ => False)) (F0 m 5 ls [])) {v1 : Int32} {v2 : Int64} {v4 : Int32} (h : X3_childHolding_54 en ra k5 v1 v2 v4 = some q) {ls : Array Slot} (hl : lv_has ls 8 [(0, .ref (ad 21)), (1, .int v1), (2, .long v2), (4, .int v4)]) (hP : va_P D vwCl (GX cy ad tk sp nm tp kp cu se ur ab lo im sy un en ra li i2) s.heap) : W p l e ({ frames := 3, cells := 0, slots := 0, locals := 69 } : Room) s m args below meth c s.heap [] 0 0 (MQ below (QP (some (.int q))) args s 0 0 (fun _ => False)) (F0 m 54 ls []) := by
  obtain ⟨hx, hb, hml, hown, hts, hr, hlk⟩ := id C
  unfold X3_childHolding_54 at h
  refine lv_iconst (v := (1 : Int32)) hx hb dX3_childHolding_54 (by decide) ?_
  refine lv_goto (tgt := 59) hx hb dX3_childHolding_55 (by decide) ?_
  exact bX3_childHolding_59 C hK hN @hk5 h (lv_sub hl [0, 1, 2, 3] rfl) hP
def X3_childHolding_5b (en : Ten) (ra : Tra)  (k5 : Int32 → Int64 → Int32 → Option (Int32))  (v1 : Int32) (v2 : Int64) (v4 : Int32) : Option (Int32) := (if v4 < (400 : Int32) then (if v4 < (X2_total en) then (if (X2_tagOf en v4) = (11 : Int64) then X3_childHolding_54 en ra k5 v1 v2 v4 else (if (X2_tagOf en v4) = (29 : Int64) then X3_childHolding_54 en ra k5 v1 v2 v4 else X3_childHolding_59 en ra k5 v1 v2 v4 (0 : Int32))) else some (-1 : Int32)) else some (-1 : Int32))
def X3_childHolding_5 (en : Ten) (ra : Tra)  (n : Nat) (st : Int32 × Int64 × Int32) : Option (Int32) := lp (fun rec st => X3_childHolding_5b en ra  (fun a0 a1 a2 => rec (a0, a1, a2)) st.1 st.2.1 st.2.2) n st
set_option maxRecDepth 20000 in
theorem bX3_childHolding_5 (C : Cx p s m args meth c cX3_childHolding 8 (some .int) RX3 (.code yX3_childHolding cX3_childHolding 8 (some .int))) (hK : va_K D vwCl (tysX cy) s) (hN : NW s)  {q : Int32}  : ∀ (n : Nat)  {v1 : Int32} {v2 : Int64} {v4 : Int32}, X3_childHolding_5 en ra  n (v1, v2, v4) = some q → ∀ {ls : Array Slot}, lv_has ls 8 [(0, .ref (ad 21)), (1, .int v1), (2, .long v2), (4, .int v4)] → va_P D vwCl (GX cy ad tk sp nm tp kp cu se ur ab lo im sy un en ra li i2) s.heap → W p l e ({ frames := 3, cells := 0, slots := 0, locals := 69 } : Room) s m args below meth c s.heap [] 0 0 (MQ below (QP (some (.int q))) args s 0 0 (fun _ => False)) (F0 m 5 ls []) := by
  obtain ⟨hx, hb, hml, hown, hts, hr, hlk⟩ := id C
  intro n
  induction n with
  | zero =>
    intro v1 v2 v4 h ls hl hP
    have h : (none : Option (Int32)) = some q := h
    cases h
  | succ n ih =>
    intro v1 v2 v4 h ls hl hP
    have h : X3_childHolding_5b en ra  (fun a0 a1 a2 => X3_childHolding_5 en ra  n (a0, a1, a2)) v1 v2 v4 = some q := h
    unfold X3_childHolding_5b at h
    refine lv_iload hx hb dX3_childHolding_5 (lv_at hl 3 rfl) ?_
    refine lv_sipush (v := (400 : Int32)) hx hb dX3_childHolding_7 (by decide) ?_
    refine b_icmp_ge (tgt := 98) hx hb dX3_childHolding_10 (by decide) (fun c1 => ?_) (fun c1 => ?_)
    · rw [if_neg c1] at h
      refine lv_iconst (v := (-1 : Int32)) hx hb dX3_childHolding_98 (by decide) ?_
      obtain rfl := Option.some.inj h
      exact W.iret hx hb hr (fun t ht _ => ⟨rfl, ht⟩) (fun _ h9 => by cases h9) dX3_childHolding_99 hlk
    · rw [if_pos c1] at h
      refine lv_iload hx hb dX3_childHolding_13 (lv_at hl 3 rfl) ?_
      refine lv_aload_n hx hb dX3_childHolding_15 rfl (lv_at hl 0 rfl) ?_
      refine gX21_2 C hK hP w457 dX3_childHolding_16 ?_
      refine cPi (run_V (rest := [.int v4]) C (kX2_total rfl) caX2_total w1233 ⟨rfl, rfl, Nat.le_of_ble_eq_true rfl, Nat.le_of_ble_eq_true rfl⟩ hK hN hP (rX34 hK hP) rfl hl.1 rfl (Nat.le_of_ble_eq_true rfl) dX3_childHolding_19 ⟨Nat.zero_le _, Nat.zero_le _⟩) ?_
      refine b_icmp_ge (tgt := 98) hx hb dX3_childHolding_22 (by decide) (fun c2 => ?_) (fun c2 => ?_)
      · rw [if_neg c2] at h
        refine lv_iconst (v := (-1 : Int32)) hx hb dX3_childHolding_98 (by decide) ?_
        obtain rfl := Option.some.inj h
        exact W.iret hx hb hr (fun t ht _ => ⟨rfl, ht⟩) (fun _ h9 => by cases h9) dX3_childHolding_99 hlk
      · rw [if_pos c2] at h
        refine lv_aload_n hx hb dX3_childHolding_25 rfl (lv_at hl 0 rfl) ?_
        refine gX21_2 C hK hP w457 dX3_childHolding_26 ?_
        refine lv_iload hx hb dX3_childHolding_29 (lv_at hl 3 rfl) ?_
        refine cPl (run_V (rest := []) C (kX2_tagOf rfl) caX2_tagOf w1234 ⟨rfl, rfl, Nat.le_of_ble_eq_true rfl, Nat.le_of_ble_eq_true rfl⟩ hK hN hP (rX34 hK hP) rfl hl.1 rfl (Nat.le_of_ble_eq_true rfl) dX3_childHolding_31 ⟨Nat.zero_le _, Nat.zero_le _⟩) ?_
        refine lv_lstore (lv' := [(5, .long (X2_tagOf en v4)), (0, .ref (ad 21)), (1, .int v1), (2, .long v2), (4, .int v4)]) hx hb dX3_childHolding_34 hl (by decide) rfl (fun ls hl => ?_)
        refine lv_lload hx hb dX3_childHolding_36 (lv_at hl 0 rfl) ?_
        refine lv_ldc2 (v := (11 : Int64)) hx hb hown (hts _ (List.mem_cons_of_mem _ w1244)) dX3_childHolding_38 ?_
        refine lc_eq (tgt := 54) hx hb dX3_childHolding_41 dX3_childHolding_42 (by decide) (fun c3 => ?_) (fun c3 => ?_)
        · rw [if_pos c3] at h
          exact bX3_childHolding_54 C hK hN @ih h (lv_sub hl [1, 2, 3, 4] rfl) hP
        · rw [if_neg c3] at h
          refine lv_lload hx hb dX3_childHolding_45 (lv_at hl 0 rfl) ?_
          refine lv_ldc2 (v := (29 : Int64)) hx hb hown (hts _ (List.mem_cons_of_mem _ w1245)) dX3_childHolding_47 ?_
          refine lc_ne (tgt := 58) hx hb dX3_childHolding_50 dX3_childHolding_51 (by decide) (fun c4 => ?_) (fun c4 => ?_)
          · rw [if_neg c4] at h
            refine lv_iconst (v := (0 : Int32)) hx hb dX3_childHolding_58 (by decide) ?_
            exact bX3_childHolding_59 C hK hN @ih h (lv_sub hl [1, 2, 3, 4] rfl) hP
          · rw [if_pos c4] at h
            exact bX3_childHolding_54 C hK hN @ih h (lv_sub hl [1, 2, 3, 4] rfl) hP
def X3_childHolding (en : Ten) (ra : Tra) (v1 : Int32) (v2 : Int64) : Option (Int32) := X3_childHolding_5 en ra FU (v1, v2, (v1 + (1 : Int32)))
set_option maxRecDepth 20000 in
theorem bX3_childHolding_0 (C : Cx p s m args meth c cX3_childHolding 8 (some .int) RX3 (.code yX3_childHolding cX3_childHolding 8 (some .int))) (hK : va_K D vwCl (tysX cy) s) (hN : NW s)  {q : Int32}  {v1 : Int32} {v2 : Int64} (h : X3_childHolding en ra v1 v2 = some q) {ls : Array Slot} (hl : lv_has ls 8 [(0, .ref (ad 21)), (1, .int v1), (2, .long v2)]) (hP : va_P D vwCl (GX cy ad tk sp nm tp kp cu se ur ab lo im sy un en ra li i2) s.heap) : W p l e ({ frames := 3, cells := 0, slots := 0, locals := 69 } : Room) s m args below meth c s.heap [] 0 0 (MQ below (QP (some (.int q))) args s 0 0 (fun _ => False)) (F0 m 0 ls []) := by
  obtain ⟨hx, hb, hml, hown, hts, hr, hlk⟩ := id C
  unfold X3_childHolding at h
  refine lv_iload_n hx hb dX3_childHolding_0 rfl (lv_at hl 1 rfl) ?_
  refine lv_iconst (v := (1 : Int32)) hx hb dX3_childHolding_1 (by decide) ?_
  refine lv_iadd hx hb dX3_childHolding_2 ?_
  refine lv_istore (lv' := [(4, .int (v1 + (1 : Int32))), (0, .ref (ad 21)), (1, .int v1), (2, .long v2)]) hx hb dX3_childHolding_3 hl (by decide) rfl (fun ls hl => ?_)
  exact bX3_childHolding_5 C hK hN FU h (lv_sub hl [1, 2, 3, 0] rfl) hP
theorem kX3_childHolding  {v1 : Int32} {v2 : Int64} {q : Int32} (h : X3_childHolding en ra v1 v2 = some q) : Met l yX3_childHolding (.code yX3_childHolding cX3_childHolding 8 (some .int) :: WA) ({ frames := 3, cells := 0, slots := 0, locals := 69 } : Room) (va_Pc [.ref (ad 21), .int v1, .long v2] (PR D cy (GX cy ad tk sp nm tp kp cu se ur ab lo im sy un en ra li i2))) (QP (some (.int q))) 0 0 (fun _ => False) :=
  met_of (by decide) (Nat.le_of_ble_eq_true rfl) (fun p e s m below meth c ls C hP hK hN hl => bX3_childHolding_0 C hK hN h hl hP)
def X10_firstEntryOf (un : Tun) (v1 : Int32) : Int32 := (at_i 20 un.2.1 v1)
set_option maxRecDepth 20000 in
theorem bX10_firstEntryOf_0 (C : Cx p s m args meth c cX10_firstEntryOf 2 (some .int) RX10 (.code yX10_firstEntryOf cX10_firstEntryOf 2 (some .int))) (hK : va_K D vwCl (tysX cy) s) (hN : NW s)  {q : Int32}  {v1 : Int32} (h : X10_firstEntryOf un v1 = q) {ls : Array Slot} (hl : lv_has ls 2 [(0, .ref (ad 27)), (1, .int v1)]) (hP : va_P D vwCl (GX cy ad tk sp nm tp kp cu se ur ab lo im sy un en ra li i2) s.heap) : W p l e ({ frames := 1, cells := 0, slots := 0, locals := 21 } : Room) s m args below meth c s.heap [] 0 0 (MQ below (QP (some (.int q))) args s 0 0 (fun _ => False)) (F0 m 0 ls []) := by
  obtain ⟨hx, hb, hml, hown, hts, hr, hlk⟩ := id C
  unfold X10_firstEntryOf at h
  refine lv_aload_n hx hb dX10_firstEntryOf_0 rfl (lv_at hl 0 rfl) ?_
  refine gX27_1 C hK hP w301 dX10_firstEntryOf_1 ?_
  refine lv_iload_n hx hb dX10_firstEntryOf_4 rfl (lv_at hl 1 rfl) ?_
  refine xat_i (rest := []) C hK hN hP eX29 (Nat.le_of_ble_eq_true rfl) w963 hl.1 (Nat.le_of_ble_eq_true rfl) dX10_firstEntryOf_5 ⟨Nat.le_of_ble_eq_true rfl, Nat.le_of_ble_eq_true rfl⟩ ⟨Nat.zero_le _, Nat.zero_le _⟩ ?_
  obtain rfl := h
  exact W.iret hx hb hr (fun t ht _ => ⟨rfl, ht⟩) (fun _ h9 => by cases h9) dX10_firstEntryOf_8 hlk
theorem kX10_firstEntryOf  {v1 : Int32} {q : Int32} (h : X10_firstEntryOf un v1 = q) : Met l yX10_firstEntryOf (.code yX10_firstEntryOf cX10_firstEntryOf 2 (some .int) :: WA) ({ frames := 1, cells := 0, slots := 0, locals := 21 } : Room) (va_Pc [.ref (ad 27), .int v1] (PR D cy (GX cy ad tk sp nm tp kp cu se ur ab lo im sy un en ra li i2))) (QP (some (.int q))) 0 0 (fun _ => False) :=
  met_of (by decide) (Nat.le_of_ble_eq_true rfl) (fun p e s m below meth c ls C hP hK hN hl => bX10_firstEntryOf_0 C hK hN h hl hP)
end
