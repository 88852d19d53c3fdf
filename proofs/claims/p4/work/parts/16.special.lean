theorem kX7_nameMeant {l : Launch} {t adK adV : Nat → Nat} {A : Nat → Prop} {x : Int32} : Met l yX7_nameMeant (.code yX7_nameMeant cX7_nameMeant 1 (some (.object "java/lang/String")) :: WA) ({ frames := 0, cells := 0, slots := 0, locals := 0 } : Room) (va_Pc [.int x] (PF t adK adV A)) (QP (some (.ref (adK (nmk x))))) 0 0 (fun _ => False) := by
  refine met_g (by decide) (Nat.le_of_ble_eq_true rfl) (fun p e s m below meth c ls C hF hl => ?_)
  obtain ⟨hx, hb, hml, hown, hts, hr, hlk⟩ := id C
  have hl : lv_has ls 1 [(0, .int x)] := hl
  have hF : SF t adK adV A s s.heap := hF
  have hZ := hF.2.2.2.2.2
  refine lv_iload_n hx hb dX7_nameMeant_0 rfl (lv_at hl 0 rfl) ?_
  by_cases c0 : x = 0
  · subst c0
    refine lv_tableIn (off := 39) (tgt := 40) hx hb dX7_nameMeant_1 (by decide) (by decide) (by decide) (by decide) ?_
    refine va_ldcS hx hb hown (hZ 0 (by decide)) dX7_nameMeant_40 ?_
    exact W.aret hx hb hr (Or.inl ⟨_, rfl⟩) (Or.inr ⟨_, rfl⟩) (fun t ht _ => ⟨rfl, ht⟩) (fun _ h9 => by cases h9) dX7_nameMeant_42 hlk
  by_cases c1 : x = 1
  · subst c1
    refine lv_tableIn (off := 42) (tgt := 43) hx hb dX7_nameMeant_1 (by decide) (by decide) (by decide) (by decide) ?_
    refine va_ldcS hx hb hown (hZ 1 (by decide)) dX7_nameMeant_43 ?_
    exact W.aret hx hb hr (Or.inl ⟨_, rfl⟩) (Or.inr ⟨_, rfl⟩) (fun t ht _ => ⟨rfl, ht⟩) (fun _ h9 => by cases h9) dX7_nameMeant_45 hlk
  by_cases c2 : x = 2
  · subst c2
    refine lv_tableIn (off := 45) (tgt := 46) hx hb dX7_nameMeant_1 (by decide) (by decide) (by decide) (by decide) ?_
    refine va_ldcS hx hb hown (hZ 2 (by decide)) dX7_nameMeant_46 ?_
    exact W.aret hx hb hr (Or.inl ⟨_, rfl⟩) (Or.inr ⟨_, rfl⟩) (fun t ht _ => ⟨rfl, ht⟩) (fun _ h9 => by cases h9) dX7_nameMeant_48 hlk
  by_cases c3 : x = 3
  · subst c3
    refine lv_tableIn (off := 48) (tgt := 49) hx hb dX7_nameMeant_1 (by decide) (by decide) (by decide) (by decide) ?_
    refine va_ldcS hx hb hown (hZ 3 (by decide)) dX7_nameMeant_49 ?_
    exact W.aret hx hb hr (Or.inl ⟨_, rfl⟩) (Or.inr ⟨_, rfl⟩) (fun t ht _ => ⟨rfl, ht⟩) (fun _ h9 => by cases h9) dX7_nameMeant_51 hlk
  by_cases c4 : x = 4
  · subst c4
    refine lv_tableIn (off := 51) (tgt := 52) hx hb dX7_nameMeant_1 (by decide) (by decide) (by decide) (by decide) ?_
    refine va_ldcS hx hb hown (hZ 4 (by decide)) dX7_nameMeant_52 ?_
    exact W.aret hx hb hr (Or.inl ⟨_, rfl⟩) (Or.inr ⟨_, rfl⟩) (fun t ht _ => ⟨rfl, ht⟩) (fun _ h9 => by cases h9) dX7_nameMeant_54 hlk
  by_cases c5 : x = 5
  · subst c5
    refine lv_tableIn (off := 54) (tgt := 55) hx hb dX7_nameMeant_1 (by decide) (by decide) (by decide) (by decide) ?_
    refine va_ldcS hx hb hown (hZ 5 (by decide)) dX7_nameMeant_55 ?_
    exact W.aret hx hb hr (Or.inl ⟨_, rfl⟩) (Or.inr ⟨_, rfl⟩) (fun t ht _ => ⟨rfl, ht⟩) (fun _ h9 => by cases h9) dX7_nameMeant_57 hlk
  have e6 : nmk x = 6 := by unfold nmk; rw [if_neg c0, if_neg c1, if_neg c2, if_neg c3, if_neg c4, if_neg c5]
  rw [e6]
  refine tsw_d (tgt := 58) hx hb dX7_nameMeant_1 [0, 1, 2, 3, 4, 5] (by simp only [List.mem_cons, List.not_mem_nil, or_false]; rintro _ (rfl | rfl | rfl | rfl | rfl | rfl) <;> assumption) (by decide +kernel) (by decide) ?_
  refine va_ldcS hx hb hown (hZ 6 (by decide)) dX7_nameMeant_58 ?_
  exact W.aret hx hb hr (Or.inl ⟨_, rfl⟩) (Or.inr ⟨_, rfl⟩) (fun t ht _ => ⟨rfl, ht⟩) (fun _ h9 => by cases h9) dX7_nameMeant_60 hlk
theorem kX11_atS {l : Launch} {t adK adV : Nat → Nat} {A : Nat → Prop} {i : Int32} : Met l yX11_at (.code yX11_at cX11_at 2 (some .int) :: WA) ({ frames := 0, cells := 0, slots := 0, locals := 0 } : Room) (va_Pc [.ref (t 1), .int i] (PF t adK adV A)) (QP (some (.int (at_i 9 opsF i)))) 0 0 (fun _ => False) := by
  refine met_g (by decide) (Nat.le_of_ble_eq_true rfl) (fun p e s m below meth c ls C hF hl => ?_)
  obtain ⟨hx, hb, hml, hown, hts, hr, hlk⟩ := id C
  have hl : lv_has ls 2 [(0, .ref (t 1)), (1, .int i)] := hl
  have hF : SF t adK adV A s s.heap := hF
  have hS : va_S A s.heap s.heap [] := va_S.rf
  refine lv_iload_n hx hb dX11_at_0 rfl (lv_at hl 1 rfl) ?_
  refine lv_if_lt (tgt := 16) hx hb dX11_at_1 (by decide) (fun c1 => ?_) (fun c1 => ?_)
  · refine lv_iconst (v := -1) hx hb dX11_at_16 (by decide) ?_
    exact W.iret hx hb hr (fun t ht _ => ⟨by rw [at_i, if_pos c1], ht⟩) (fun _ h9 => by cases h9) dX11_at_17 hlk
  · refine lv_iload_n hx hb dX11_at_4 rfl (lv_at hl 1 rfl) ?_
    refine lv_aload_n hx hb dX11_at_5 rfl (lv_at hl 0 rfl) ?_
    refine va_tlen hx hb hF.2.1.2 hS (v := Int32.ofNat 9) rfl dX11_at_6 ?_
    refine lv_icmp_ge (tgt := 16) hx hb dX11_at_7 (by decide) (fun c2 => ?_) (fun c2 => ?_)
    · refine lv_iconst (v := -1) hx hb dX11_at_16 (by decide) ?_
      exact W.iret hx hb hr (fun t ht _ => ⟨by rw [at_i, if_neg c1, if_pos c2], ht⟩) (fun _ h9 => by cases h9) dX11_at_17 hlk
    · refine lv_aload_n hx hb dX11_at_10 rfl (lv_at hl 0 rfl) ?_
      refine lv_iload_n hx hb dX11_at_11 rfl (lv_at hl 1 rfl) ?_
      refine va_ti hx hb hF.2.1.2 hS (in_of c1 c2 (by decide)) rfl dX11_at_12 ?_
      refine lv_goto (tgt := 17) hx hb dX11_at_13 (by decide) ?_
      exact W.iret hx hb hr (fun t ht _ => ⟨by rw [at_i, if_neg c1, if_neg c2], ht⟩) (fun _ h9 => by cases h9) dX11_at_17 hlk
def fillF (n : Nat) (v : Int32) (f : Nat → Int32) : Nat → Int32 := fun j => if j < n then v else f j
theorem kJ7_fill {l : Launch} {D : va_G} {cy : Nat → ClassId} {ws : va_W} {A : Nat → Prop} {q0 a n : Nat} {f : Nat → Int32} {v : Int32} (he : ws[q0]? = some (a, .inl (cy 1, n, .inl f))) (hn : n < 2 ^ 31) (hD : va_D A ws) : Met l yJ7_fill_53178 (.code yJ7_fill_53178 cJ7_fill_53178 4 none :: WA) ({ frames := 0, cells := 0, slots := 0, locals := 0 } : Room) (va_Pc [.ref a, .int v] (PR D cy ws)) (QR none D (ws.set q0 (a, .inl (cy 1, n, .inl (fillF n v f)))) A) 0 0 A :=
  met_of (by decide) (Nat.le_of_ble_eq_true rfl) (fun p e s m below meth c ls C hP hK hN hl => by
    obtain ⟨hx, hb, hml, hown, hts, hr, hlk⟩ := id C
    have hl : lv_has ls 4 [(0, .ref a), (1, .int v)] := hl
    have hS : va_S A s.heap s.heap [] := va_S.rf
    refine lv_iconst (v := 0) hx hb dJ7_fill_53178_0 (by decide) ?_
    refine lv_istore_n (lv' := [(2, .int 0), (0, .ref a), (1, .int v)]) hx hb dJ7_fill_53178_1 rfl hl (by decide) rfl (fun ls hl => ?_)
    refine lv_aload_n hx hb dJ7_fill_53178_2 rfl (lv_at hl 1 rfl) ?_
    refine va_alen hx hb hK hP q0 1 he (ty := .int) rfl (v := Int32.ofNat n) rfl dJ7_fill_53178_3 ?_
    refine lv_istore_n (lv' := [(3, .int (Int32.ofNat n)), (2, .int 0), (0, .ref a), (1, .int v)]) hx hb dJ7_fill_53178_4 rfl hl (by decide) rfl (fun ls hl => ?_)
    have hq : q0 < ws.length := (List.getElem?_eq_some_iff.mp he).1
    have loop : ∀ (k i : Nat), i + k = n → ∀ {ls : Array Slot} {H : Heap} {locs : List Loc}, lv_has ls 4 [(0, .ref a), (1, .int v), (2, .int (nI i)), (3, .int (Int32.ofNat n))] → va_P D vwCl (ws.set q0 (a, .inl (cy 1, n, .inl (fillF i v f)))) H → va_S A s.heap H locs → W p l e ({ frames := 0, cells := 0, slots := 0, locals := 0 } : Room) s m #[.ref a, .int v] below meth c H locs 0 0 (MQ below (QR none D (ws.set q0 (a, .inl (cy 1, n, .inl (fillF n v f)))) A) #[.ref a, .int v] s 0 0 A) (F0 m 5 ls []) := by
      intro k
      induction k with
      | zero =>
        intro i hi ls H locs hl hP hS
        have hi : i = n := by omega
        subst hi
        refine lv_iload_n hx hb dJ7_fill_53178_5 rfl (lv_at hl 2 rfl) ?_
        refine lv_iload_n hx hb dJ7_fill_53178_6 rfl (lv_at hl 3 rfl) ?_
        refine lv_icmp_ge (tgt := 20) hx hb dJ7_fill_53178_7 (by decide) (fun c1 => ?_) (fun c1 => absurd (Int32.le_refl _) c1)
        exact W.vret hx hb hr (fun t ht _ => ⟨rfl, by rw [ht]; exact hP, hS.F ht⟩) hS.2.2 dJ7_fill_53178_20 hlk
      | succ k ih =>
        intro i hi ls H locs hl hP hS
        have hlt : i < n := by omega
        refine lv_iload_n hx hb dJ7_fill_53178_5 rfl (lv_at hl 2 rfl) ?_
        refine lv_iload_n hx hb dJ7_fill_53178_6 rfl (lv_at hl 3 rfl) ?_
        refine lv_icmp_ge (tgt := 20) hx hb dJ7_fill_53178_7 (by decide) (fun c1 => absurd c1 (nI_ge hlt hn)) (fun c1 => ?_)
        refine lv_aload_n hx hb dJ7_fill_53178_10 rfl (lv_at hl 0 rfl) ?_
        refine lv_iload_n hx hb dJ7_fill_53178_11 rfl (lv_at hl 2 rfl) ?_
        refine lv_iload_n hx hb dJ7_fill_53178_12 rfl (lv_at hl 1 rfl) ?_
        refine va_iast hx hb hK hP (hD.set he) hS q0 1 (List.getElem?_set_self hq) rfl (vp_in_nI hlt hn) dJ7_fill_53178_13 (fun H locs hP _ hS => ?_)
        refine lv_iinc (v := nI (i + 1)) (lv' := [(2, .int (nI (i + 1))), (0, .ref a), (1, .int v), (3, .int (Int32.ofNat n))]) hx hb dJ7_fill_53178_14 hl (k := 2) rfl (nI_1 i) (by decide) rfl (fun ls hl => ?_)
        refine lv_goto (tgt := 5) hx hb dJ7_fill_53178_17 (by decide) ?_
        refine ih (i + 1) (by omega) (lv_sub hl [1, 2, 0, 3] rfl) ?_ hS
        have e1 : upd (fillF i v f) (nI i).toNatClampNeg v = fillF (i + 1) v f := by
          rw [nI_clamp (Nat.lt_trans hlt hn)]
          funext j
          simp only [upd, fillF]
          by_cases h1 : j = i
          · subst h1
            rw [if_pos rfl, if_pos (by omega)]
          · rw [if_neg h1]
            by_cases h2 : j < i
            · rw [if_pos h2, if_pos (by omega)]
            · rw [if_neg h2, if_neg (by omega)]
        rw [List.set_set, e1] at hP
        exact hP
    refine loop n 0 (by omega) (lv_sub hl [2, 3, 1, 0] rfl) ?_ hS
    have e0 : fillF 0 v f = f := by funext j; simp [fillF]
    rw [e0, set_self he]
    exact hP)
theorem cpOK_fit {f : Nat → Int32} {n : Nat} (h : (List.range n).all (fun i => fits .byte (.int (f i))) = true) : ∀ i, i < n → fits .byte (.int (f ((0 : Int32).toNatClampNeg + i))) = true := by
  intro i hi
  have := List.all_eq_true.mp h i (List.mem_range.mpr hi)
  have e : (0 : Int32).toNatClampNeg + i = i := by
    have : (0 : Int32).toNatClampNeg = 0 := by decide
    omega
  rw [e]
  exact this
def cpOK (f : Nat → Int32) (n : Int32) : Bool := (! decide (n < 0)) && decide (n.toNatClampNeg ≤ 8000) && (List.range n.toNatClampNeg).all (fun i => fits .byte (.int (f i)))
def cpy0 (f g : Nat → Int32) (n : Int32) : Nat → Int32 := va_cpy f g (0 : Int32).toNatClampNeg (0 : Int32).toNatClampNeg n.toNatClampNeg
theorem cpOK_of {f : Nat → Int32} {n : Int32} (h : cpOK f n = true) : ¬ n < 0 ∧ (0 : Int32).toNatClampNeg + n.toNatClampNeg ≤ 8000 ∧ ∀ i, i < n.toNatClampNeg → fits .byte (.int (f ((0 : Int32).toNatClampNeg + i))) = true := by
  simp only [cpOK, Bool.and_eq_true, Bool.not_eq_true', decide_eq_false_iff_not, decide_eq_true_eq] at h
  obtain ⟨⟨h1, h2⟩, h3⟩ := h
  refine ⟨h1, ?_, cpOK_fit h3⟩
  have : (0 : Int32).toNatClampNeg = 0 := by decide
  omega
def inS (k : Nat) (i : Int32) : Bool := decide (¬ i < 0 ∧ i < Int32.ofNat (lenS.getD k 0))
theorem inS_of {k : Nat} {i : Int32} (hk : k < 7) (h : inS k i = true) : ¬ i < 0 ∧ i < Int32.ofNat (lenS.getD k 0) ∧ vp_in i (lenS.getD k 0) := by
  have h := of_decide_eq_true h
  refine ⟨h.1, h.2, in_of h.1 (Int32.not_le.mpr h.2) ?_⟩
  have : ∀ k, k < 7 → lenS.getD k 0 < 2 ^ 31 := by decide
  exact this k hk
def tkL (ad : Nat → Nat) (f : Int32) : Nat := if f = 0 then ad 21 else ad 55
def spL (ad : Nat → Nat) (f : Int32) : Nat := if f = 0 then ad 55 else ad 21
