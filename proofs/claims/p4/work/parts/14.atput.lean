theorem set_self {α : Type} {ws : List α} {k : Nat} {x : α} (h : ws[k]? = some x) : ws.set k x = ws := by
  obtain ⟨hl, he⟩ := List.getElem?_eq_some_iff.mp h
  rw [← he]
  exact List.set_getElem_self hl
theorem in_of {i : Int32} {n : Nat} (h0 : ¬ i < 0) (h1 : ¬ Int32.ofNat n ≤ i) (hn : n < 2 ^ 31) : vp_in i n := by
  obtain ⟨j, hj, -, -, hc, -⟩ := pk_mu (x := i) (L := n) h0 h1 hn
  intro q
  rcases q with q | q
  · exact h0 q
  · omega
section
variable {l : Launch} {D : va_G} {cy : Nat → ClassId} {ws : va_W} {A : Nat → Prop}
theorem kX11_at {q0 a n : Nat} {f : Nat → Int32} {i : Int32} (he : ws[q0]? = some (a, .inl (cy 1, n, .inl f))) (hn : n < 2 ^ 31) : Met l yX11_at (.code yX11_at cX11_at 2 (some .int) :: WA) ({ frames := 0, cells := 0, slots := 0, locals := 0 } : Room) (va_Pc [.ref a, .int i] (PR D cy ws)) (QP (some (.int (at_i n f i)))) 0 0 (fun _ => False) :=
  met_of (by decide) (Nat.le_of_ble_eq_true rfl) (fun p e s m below meth c ls C hP hK hN hl => by
    obtain ⟨hx, hb, hml, hown, hts, hr, hlk⟩ := id C
    have hl : lv_has ls 2 [(0, .ref a), (1, .int i)] := hl
    refine lv_iload_n hx hb dX11_at_0 rfl (lv_at hl 1 rfl) ?_
    refine lv_if_lt (tgt := 16) hx hb dX11_at_1 (by decide) (fun c1 => ?_) (fun c1 => ?_)
    · refine lv_iconst (v := -1) hx hb dX11_at_16 (by decide) ?_
      exact W.iret hx hb hr (fun t ht _ => ⟨by rw [at_i, if_pos c1], ht⟩) (fun _ h9 => by cases h9) dX11_at_17 hlk
    · refine lv_iload_n hx hb dX11_at_4 rfl (lv_at hl 1 rfl) ?_
      refine lv_aload_n hx hb dX11_at_5 rfl (lv_at hl 0 rfl) ?_
      refine va_alen hx hb hK hP q0 1 he (ty := .int) rfl (v := Int32.ofNat n) rfl dX11_at_6 ?_
      refine lv_icmp_ge (tgt := 16) hx hb dX11_at_7 (by decide) (fun c2 => ?_) (fun c2 => ?_)
      · refine lv_iconst (v := -1) hx hb dX11_at_16 (by decide) ?_
        exact W.iret hx hb hr (fun t ht _ => ⟨by rw [at_i, if_neg c1, if_pos c2], ht⟩) (fun _ h9 => by cases h9) dX11_at_17 hlk
      · refine lv_aload_n hx hb dX11_at_10 rfl (lv_at hl 0 rfl) ?_
        refine lv_iload_n hx hb dX11_at_11 rfl (lv_at hl 1 rfl) ?_
        refine va_iald hx hb hK hP q0 1 he rfl (in_of c1 c2 hn) dX11_at_12 ?_
        refine lv_goto (tgt := 17) hx hb dX11_at_13 (by decide) ?_
        exact W.iret hx hb hr (fun t ht _ => ⟨by rw [at_i, if_neg c1, if_neg c2], ht⟩) (fun _ h9 => by cases h9) dX11_at_17 hlk)
theorem kX11_at_ {q0 a n : Nat} {f : Nat → Int64} {i : Int32} (he : ws[q0]? = some (a, .inl (cy 2, n, .inr (.inl f)))) (hn : n < 2 ^ 31) : Met l yX11_at_ (.code yX11_at_ cX11_at_ 2 (some .long) :: WA) ({ frames := 0, cells := 0, slots := 0, locals := 0 } : Room) (va_Pc [.ref a, .int i] (PR D cy ws)) (QP (some (.long (at_l n f i)))) 0 0 (fun _ => False) :=
  met_of (by decide) (Nat.le_of_ble_eq_true rfl) (fun p e s m below meth c ls C hP hK hN hl => by
    obtain ⟨hx, hb, hml, hown, hts, hr, hlk⟩ := id C
    have hl : lv_has ls 2 [(0, .ref a), (1, .int i)] := hl
    refine lv_iload_n hx hb dX11_at__0 rfl (lv_at hl 1 rfl) ?_
    refine lv_if_lt (tgt := 16) hx hb dX11_at__1 (by decide) (fun c1 => ?_) (fun c1 => ?_)
    · refine lv_ldc2 (v := -1) hx hb hown (hts _ (List.mem_cons_of_mem _ w782)) dX11_at__16 ?_
      exact W.lret hx hb hr (fun t ht _ => ⟨by rw [at_l, if_pos c1], ht⟩) (fun _ h9 => by cases h9) dX11_at__19 hlk
    · refine lv_iload_n hx hb dX11_at__4 rfl (lv_at hl 1 rfl) ?_
      refine lv_aload_n hx hb dX11_at__5 rfl (lv_at hl 0 rfl) ?_
      refine va_alen hx hb hK hP q0 2 he (ty := .long) rfl (v := Int32.ofNat n) rfl dX11_at__6 ?_
      refine lv_icmp_ge (tgt := 16) hx hb dX11_at__7 (by decide) (fun c2 => ?_) (fun c2 => ?_)
      · refine lv_ldc2 (v := -1) hx hb hown (hts _ (List.mem_cons_of_mem _ w782)) dX11_at__16 ?_
        exact W.lret hx hb hr (fun t ht _ => ⟨by rw [at_l, if_neg c1, if_pos c2], ht⟩) (fun _ h9 => by cases h9) dX11_at__19 hlk
      · refine lv_aload_n hx hb dX11_at__10 rfl (lv_at hl 0 rfl) ?_
        refine lv_iload_n hx hb dX11_at__11 rfl (lv_at hl 1 rfl) ?_
        refine va_lald hx hb hK hP q0 2 he rfl (in_of c1 c2 hn) dX11_at__12 ?_
        refine lv_goto (tgt := 19) hx hb dX11_at__13 (by decide) ?_
        exact W.lret hx hb hr (fun t ht _ => ⟨by rw [at_l, if_neg c1, if_neg c2], ht⟩) (fun _ h9 => by cases h9) dX11_at__19 hlk)
theorem kX11_put {q0 a n : Nat} {f : Nat → Int32} {i v : Int32} (he : ws[q0]? = some (a, .inl (cy 1, n, .inl f))) (hn : n < 2 ^ 31) (hD : va_D A ws) : Met l yX11_put (.code yX11_put cX11_put 3 none :: WA) ({ frames := 0, cells := 0, slots := 0, locals := 0 } : Room) (va_Pc [.ref a, .int i, .int v] (PR D cy ws)) (QR none D (ws.set q0 (a, .inl (cy 1, n, .inl (put_i n f i v)))) A) 0 0 A :=
  met_of (by decide) (Nat.le_of_ble_eq_true rfl) (fun p e s m below meth c ls C hP hK hN hl => by
    obtain ⟨hx, hb, hml, hown, hts, hr, hlk⟩ := id C
    have hl : lv_has ls 3 [(0, .ref a), (1, .int i), (2, .int v)] := hl
    have hS : va_S A s.heap s.heap [] := va_S.rf
    refine lv_iload_n hx hb dX11_put_0 rfl (lv_at hl 1 rfl) ?_
    refine lv_if_lt (tgt := 14) hx hb dX11_put_1 (by decide) (fun c1 => ?_) (fun c1 => ?_)
    · exact W.vret hx hb hr (fun t ht _ => ⟨rfl, by rw [ht, put_i, if_pos c1, set_self he]; exact hP, hS.F ht⟩) hS.2.2 dX11_put_14 hlk
    · refine lv_iload_n hx hb dX11_put_4 rfl (lv_at hl 1 rfl) ?_
      refine lv_aload_n hx hb dX11_put_5 rfl (lv_at hl 0 rfl) ?_
      refine va_alen hx hb hK hP q0 1 he (ty := .int) rfl (v := Int32.ofNat n) rfl dX11_put_6 ?_
      refine lv_icmp_ge (tgt := 14) hx hb dX11_put_7 (by decide) (fun c2 => ?_) (fun c2 => ?_)
      · exact W.vret hx hb hr (fun t ht _ => ⟨rfl, by rw [ht, put_i, if_neg c1, if_pos c2, set_self he]; exact hP, hS.F ht⟩) hS.2.2 dX11_put_14 hlk
      · refine lv_aload_n hx hb dX11_put_10 rfl (lv_at hl 0 rfl) ?_
        refine lv_iload_n hx hb dX11_put_11 rfl (lv_at hl 1 rfl) ?_
        refine lv_iload_n hx hb dX11_put_12 rfl (lv_at hl 2 rfl) ?_
        refine va_iast hx hb hK hP hD hS q0 1 he rfl (in_of c1 c2 hn) dX11_put_13 (fun H locs hP _ hS => ?_)
        exact W.vret hx hb hr (fun t ht _ => ⟨rfl, by rw [ht, put_i, if_neg c1, if_neg c2]; exact hP, hS.F ht⟩) hS.2.2 dX11_put_14 hlk)
theorem kX11_put_ {q0 a n : Nat} {f : Nat → Int64} {i : Int32} {v : Int64} (he : ws[q0]? = some (a, .inl (cy 2, n, .inr (.inl f)))) (hn : n < 2 ^ 31) (hD : va_D A ws) : Met l yX11_put_ (.code yX11_put_ cX11_put_ 4 none :: WA) ({ frames := 0, cells := 0, slots := 0, locals := 0 } : Room) (va_Pc [.ref a, .int i, .long v] (PR D cy ws)) (QR none D (ws.set q0 (a, .inl (cy 2, n, .inr (.inl (put_l n f i v))))) A) 0 0 A :=
  met_of (by decide) (Nat.le_of_ble_eq_true rfl) (fun p e s m below meth c ls C hP hK hN hl => by
    obtain ⟨hx, hb, hml, hown, hts, hr, hlk⟩ := id C
    have hl : lv_has ls 4 [(0, .ref a), (1, .int i), (2, .long v)] := hl
    have hS : va_S A s.heap s.heap [] := va_S.rf
    refine lv_iload_n hx hb dX11_put__0 rfl (lv_at hl 1 rfl) ?_
    refine lv_if_lt (tgt := 14) hx hb dX11_put__1 (by decide) (fun c1 => ?_) (fun c1 => ?_)
    · exact W.vret hx hb hr (fun t ht _ => ⟨rfl, by rw [ht, put_l, if_pos c1, set_self he]; exact hP, hS.F ht⟩) hS.2.2 dX11_put__14 hlk
    · refine lv_iload_n hx hb dX11_put__4 rfl (lv_at hl 1 rfl) ?_
      refine lv_aload_n hx hb dX11_put__5 rfl (lv_at hl 0 rfl) ?_
      refine va_alen hx hb hK hP q0 2 he (ty := .long) rfl (v := Int32.ofNat n) rfl dX11_put__6 ?_
      refine lv_icmp_ge (tgt := 14) hx hb dX11_put__7 (by decide) (fun c2 => ?_) (fun c2 => ?_)
      · exact W.vret hx hb hr (fun t ht _ => ⟨rfl, by rw [ht, put_l, if_neg c1, if_pos c2, set_self he]; exact hP, hS.F ht⟩) hS.2.2 dX11_put__14 hlk
      · refine lv_aload_n hx hb dX11_put__10 rfl (lv_at hl 0 rfl) ?_
        refine lv_iload_n hx hb dX11_put__11 rfl (lv_at hl 1 rfl) ?_
        refine lv_lload_n hx hb dX11_put__12 rfl (lv_at hl 2 rfl) ?_
        refine va_last hx hb hK hP hD hS q0 2 he rfl (in_of c1 c2 hn) dX11_put__13 (fun H locs hP _ hS => ?_)
        exact W.vret hx hb hr (fun t ht _ => ⟨rfl, by rw [ht, put_l, if_neg c1, if_neg c2]; exact hP, hS.F ht⟩) hS.2.2 dX11_put__14 hlk)
end
section
variable {p : Program} {l : Launch} {e : Env} {R : Room} {s : State} {m : MethodId} {args : Array Value} {below : List Frame} {meth : Method} {c : Code} {H : Heap} {locs : List Loc} {cells slots : Nat} {Q : State → Prop}
variable {cc : ByteArray} {pc nL idx : Nat} {host : String} {ls : Array Slot} {rest : List Value} {ret : Option FieldType} {own : String} {x : Cond} {D : va_G} {cy : Nat → ClassId} {ws : va_W} {A : Nat → Prop} {H0 : Heap}
theorem xat_i (C : Cx p s m args meth c cc nL ret own x) (hK : va_K D vwCl (tysX cy) s) (hN : NW s) (hP : va_P D vwCl ws H) {q0 a n : Nat} {f : Nat → Int32} {i : Int32} (he : ws[q0]? = some (a, .inl (cy 1, n, .inl f))) (hn : n < 2 ^ 31) (hl : Cond.methodLinkNest own idx yX11_at host ∈ lw_tbl) (hsize : ls.size = nL) (hW : (rest.map fun v => v.category).sum ≤ 8) (hdg : decode cc pc = .ok (.invokestatic idx, 3)) (hR : 1 ≤ R.frames ∧ 21 ≤ R.locals) (hcs : cells ≤ R.cells ∧ slots ≤ R.slots)
    (kk : W p l e R s m args below meth c H locs cells slots Q (F0 m (pc + 3) ls (.int (at_i n f i) :: rest))) : W p l e R s m args below meth c H locs cells slots Q (F0 m pc ls (.int i :: .ref a :: rest)) :=
  cPi (run_SN (host := host) (As := [.ref a, .int i]) C (kX11_at he hn) caX11_at (hN.use hl rfl) ⟨rfl, rfl, hR.1, hR.2⟩ hK hN hP rfl hsize rfl hW hdg hcs) kk
theorem xat_l (C : Cx p s m args meth c cc nL ret own x) (hK : va_K D vwCl (tysX cy) s) (hN : NW s) (hP : va_P D vwCl ws H) {q0 a n : Nat} {f : Nat → Int64} {i : Int32} (he : ws[q0]? = some (a, .inl (cy 2, n, .inr (.inl f)))) (hn : n < 2 ^ 31) (hl : Cond.methodLinkNest own idx yX11_at_ host ∈ lw_tbl) (hsize : ls.size = nL) (hW : (rest.map fun v => v.category).sum ≤ 8) (hdg : decode cc pc = .ok (.invokestatic idx, 3)) (hR : 1 ≤ R.frames ∧ 21 ≤ R.locals) (hcs : cells ≤ R.cells ∧ slots ≤ R.slots)
    (kk : W p l e R s m args below meth c H locs cells slots Q (F0 m (pc + 3) ls (.long (at_l n f i) :: rest))) : W p l e R s m args below meth c H locs cells slots Q (F0 m pc ls (.int i :: .ref a :: rest)) :=
  cPl (run_SN (host := host) (As := [.ref a, .int i]) C (kX11_at_ he hn) caX11_at_ (hN.use hl rfl) ⟨rfl, rfl, hR.1, hR.2⟩ hK hN hP rfl hsize rfl hW hdg hcs) kk
theorem xput_i (C : Cx p s m args meth c cc nL ret own x) (hK : va_K D vwCl (tysX cy) s) (hN : NW s) (hP : va_P D vwCl ws H) (hD : va_D A ws) (hS : va_S A H0 H locs) {q0 a n : Nat} {f : Nat → Int32} {i v : Int32} (he : ws[q0]? = some (a, .inl (cy 1, n, .inl f))) (hn : n < 2 ^ 31) (hl : Cond.methodLinkNest own idx yX11_put host ∈ lw_tbl) (hsize : ls.size = nL) (hW : (rest.map fun v => v.category).sum ≤ 8) (hdg : decode cc pc = .ok (.invokestatic idx, 3)) (hR : 1 ≤ R.frames ∧ 22 ≤ R.locals) (hcs : cells ≤ R.cells ∧ slots ≤ R.slots)
    (kk : ∀ (H1 : Heap) (locs1 : List Loc), va_P D vwCl (ws.set q0 (a, .inl (cy 1, n, .inl (put_i n f i v)))) H1 → va_S A H0 H1 locs1 → W p l e R s m args below meth c H1 locs1 cells slots Q (F0 m (pc + 3) ls rest)) : W p l e R s m args below meth c H locs cells slots Q (F0 m pc ls (.int v :: .int i :: .ref a :: rest)) :=
  cRv (run_SN (host := host) (As := [.ref a, .int i, .int v]) C (kX11_put he hn hD) caX11_put (hN.use hl rfl) ⟨rfl, rfl, hR.1, hR.2⟩ hK hN hP rfl hsize rfl hW hdg hcs) hS kk
theorem xput_l (C : Cx p s m args meth c cc nL ret own x) (hK : va_K D vwCl (tysX cy) s) (hN : NW s) (hP : va_P D vwCl ws H) (hD : va_D A ws) (hS : va_S A H0 H locs) {q0 a n : Nat} {f : Nat → Int64} {i : Int32} {v : Int64} (he : ws[q0]? = some (a, .inl (cy 2, n, .inr (.inl f)))) (hn : n < 2 ^ 31) (hl : Cond.methodLinkNest own idx yX11_put_ host ∈ lw_tbl) (hsize : ls.size = nL) (hW : (rest.map fun v => v.category).sum ≤ 8) (hdg : decode cc pc = .ok (.invokestatic idx, 3)) (hR : 1 ≤ R.frames ∧ 23 ≤ R.locals) (hcs : cells ≤ R.cells ∧ slots ≤ R.slots)
    (kk : ∀ (H1 : Heap) (locs1 : List Loc), va_P D vwCl (ws.set q0 (a, .inl (cy 2, n, .inr (.inl (put_l n f i v))))) H1 → va_S A H0 H1 locs1 → W p l e R s m args below meth c H1 locs1 cells slots Q (F0 m (pc + 3) ls rest)) : W p l e R s m args below meth c H locs cells slots Q (F0 m pc ls (.long v :: .int i :: .ref a :: rest)) :=
  cRv (run_SN (host := host) (As := [.ref a, .int i, .long v]) C (kX11_put_ he hn hD) caX11_put_ (hN.use hl rfl) ⟨rfl, rfl, hR.1, hR.2⟩ hK hN hP rfl hsize rfl hW hdg hcs) hS kk
end
