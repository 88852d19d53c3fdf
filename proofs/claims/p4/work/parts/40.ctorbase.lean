/-! constructors: worlds that grow -/
def An (h0 sz : Nat) : Nat → Prop := fun q => q = h0 ∨ sz ≤ q
def PN (D : va_G) (cy : Nat → ClassId) (sz : Nat) (ws : va_W) (U : State) : Prop := U.heap.size = sz ∧ va_P D vwCl ws U.heap ∧ va_K D vwCl (tysX cy) U ∧ NW U
def QN (D : va_G) (w : (Nat → Nat) → va_W) (A : Nat → Prop) : Array Value → State → Outcome → State → Prop := fun _ st oc t => oc = .returned none ∧ (∃ f : Nat → Nat, va_P D vwCl (w f) t.heap ∧ va_D A (w f)) ∧ va_F A st t
theorem PN.blind {D : va_G} {cy : Nat → ClassId} {sz : Nat} {ws : va_W} {as : List Value} : FrameBlind (va_Pc as (PN D cy sz ws)) := fun a U g mk q => by
  obtain ⟨q0, qz, qP, qK, qN⟩ := q
  exact ⟨q0, qz, qP, va_K.moved (u := U) (U := U.calling g mk a) (Vm.Alike.refl U.vm) qK, NW.same (u := U) rfl qN⟩
theorem met_ini {l : Launch} {y : MethodName} {cc : ByteArray} {nL : Nat} {rm : Room} {D : va_G} {cy : Nat → ClassId} {sz h0 : Nat} {e0 : va_E} {as : List Value} {w : (Nat → Nat) → va_W} {mc ms : Nat}
    (hpl : plainName y.cls = true) (hn : (lg_sl (.ref h0 :: as)).length ≤ nL) (hnm : y.name = "<init>")
    (body : ∀ (p : Program) (e : Env) (s : State) (m : MethodId) (below : List Frame) (meth : Method) (c : Code) (ls : Array Slot), Cx p s m (.ref h0 :: as).toArray meth c cc nL none y.cls (.code y cc nL none) → meth.name = "<init>" → va_P D vwCl [(h0, e0)] s.heap → va_D (An h0 s.heap.size) [(h0, e0)] → va_K D vwCl (tysX cy) s → NW s → lv_has ls nL (lv_args 0 (.ref h0 :: as)) →
      W p l e rm s m (.ref h0 :: as).toArray below meth c s.heap [] 0 0 (MQ below (QN D w (An h0 s.heap.size)) (.ref h0 :: as).toArray s mc ms (An h0 s.heap.size)) (F0 m 0 ls [])) : Met l y (.code y cc nL none :: WA) rm (va_Pc (.ref h0 :: as) (PN D cy sz [(h0, e0)])) (QN D w (An h0 sz)) mc ms (An h0 sz) := by
  refine Met.ofW (cc := cc) (maxL := nL) (ret := none) hpl rfl ?_
  intro p e s m args below meth c s₁ B hml hv
  obtain ⟨rfl, hz, hP, hK, hN⟩ := hv
  subst hz
  have hl := lv_entry (.ref h0 :: as) (n := nL) hn
  rw [lg_entry_eq]
  have hD : va_D (An h0 s.heap.size) [(h0, e0)] := by
    refine ⟨fun i j x y hi hj _ => ?_, fun k q hk => ?_⟩
    · have a1 := (List.getElem?_eq_some_iff.mp hi).1
      have a2 := (List.getElem?_eq_some_iff.mp hj).1
      simp at a1 a2
      omega
    · have a1 := (List.getElem?_eq_some_iff.mp hk).1
      simp at a1
      subst a1
      cases hk
      exact Or.inl rfl
  have hin : meth.name = "<init>" := ((name_of_methodNamed B.named B.method).1).trans hnm
  exact body p e s m below meth c _ ⟨B.exec, B.bytes, hml, findClass_of_methodNamed B.named, atoms_spec (ws := .code y cc nL none :: WA) B.pre, B.returns, B.notSynchronized⟩ hin hP hD hK hN hl
section
variable {p : Program} {l : Launch} {e : Env} {R : Room} {s : State} {m : MethodId} {args : Array Value} {below : List Frame} {meth : Method} {c : Code} {H : Heap} {locs : List Loc} {cells slots : Nat} {Q : State → Prop}
variable {cc : ByteArray} {pc nL : Nat} {ls : Array Slot} {rest : List Value} {ret : Option FieldType} {own : String} {x : Cond} {D : va_G} {cy : Nat → ClassId} {ws : va_W} {A : Nat → Prop} {H0 : Heap} {a : Nat} {e0 : va_E} {w : (Nat → Nat) → va_W} {mc ms : Nat}
theorem nwa (C : Cx p s m args meth c cc nL ret own x) {atype : ArrayType} {ty : FieldType} (hty : newarray.typeOf atype = ty) (harr : Cond.arrayClass (newarray.typeOf atype) ∈ WA) {cA0 : ClassId} (hRA : va_RA s cA0 ty) (hpr : ∀ cA : ClassId, va_RA s cA ty → cA = cA0) (hK : va_K D vwCl (tysX cy) s) (hP : va_P D vwCl ws H) (hD : va_D A ws) (hS : va_S A H0 H locs) (hA : ∀ q, H0.size ≤ q → A q)
    {n : Int32} {N : Nat} {a0 : vp_A} (ha : ∀ cA : ClassId, vp_cell cA a0 = arrV cA N (fun _ => defaultValue ty)) (hn : ¬ n < 0) (hN : n.toNatClampNeg = N) (hbytes : N * componentBytes ty ≤ 536870912) (hcells : cells + 1 ≤ R.cells) (hslots : slots + N ≤ R.slots) (hdg : decode cc pc = .ok (.newarray atype, 2))
    (kk : ∀ (q : Nat) (H1 : Heap), va_P D vwCl (ws ++ [(q, .inl (cA0, a0))]) H1 → va_D A (ws ++ [(q, .inl (cA0, a0))]) → va_S A H0 H1 locs →
      W p l e R s m args below meth c H1 locs (cells + 1) (slots + N) Q (F0 m (pc + 2) ls (.ref q :: rest))) : W p l e R s m args below meth c H locs cells slots Q (F0 m pc ls (.int n :: rest)) := by
  refine va_newa C.1 C.2.1 (C.2.2.2.2.1 _ (List.mem_cons_of_mem _ harr)) hty hK hP hD hS hA ha hn hN hbytes hcells hslots hdg (fun q cA H1 hK1 hP1 hD1 hS1 => ?_)
  have h1 := (hK1.2 (tysX cy).length (cA, ty) (by rw [List.getElem?_append_right (Nat.le_refl _)]; simp)).2
  have h2 := hpr cA h1
  subst h2
  exact kk q H1 hP1 hD1 hS1
theorem ra_b (h : va_K D vwCl (tysX cy) s) : va_RA s (cy 0) .byte ∧ ∀ cA : ClassId, va_RA s cA .byte → cA = cy 0 := by
  have h1 : s.vm.findClass ("[" ++ FieldType.byte.toString) = some (cy 0) := (h.2 0 _ rfl).2
  exact ⟨h1, fun cA h2 => by
    have h2 : s.vm.findClass ("[" ++ FieldType.byte.toString) = some cA := h2
    exact (Option.some.inj (h1.symm.trans h2)).symm⟩
theorem ra_i (h : va_K D vwCl (tysX cy) s) : va_RA s (cy 1) .int ∧ ∀ cA : ClassId, va_RA s cA .int → cA = cy 1 := by
  have h1 : s.vm.findClass ("[" ++ FieldType.int.toString) = some (cy 1) := (h.2 1 _ rfl).2
  exact ⟨h1, fun cA h2 => by
    have h2 : s.vm.findClass ("[" ++ FieldType.int.toString) = some cA := h2
    exact (Option.some.inj (h1.symm.trans h2)).symm⟩
theorem ra_l (h : va_K D vwCl (tysX cy) s) : va_RA s (cy 2) .long ∧ ∀ cA : ClassId, va_RA s cA .long → cA = cy 2 := by
  have h1 : s.vm.findClass ("[" ++ FieldType.long.toString) = some (cy 2) := (h.2 2 _ rfl).2
  exact ⟨h1, fun cA h2 => by
    have h2 : s.vm.findClass ("[" ++ FieldType.long.toString) = some cA := h2
    exact (Option.some.inj (h1.symm.trans h2)).symm⟩
theorem ra_z (h : va_K D vwCl (tysX cy) s) : va_RA s (cy 3) .boolean ∧ ∀ cA : ClassId, va_RA s cA .boolean → cA = cy 3 := by
  have h1 : s.vm.findClass ("[" ++ FieldType.boolean.toString) = some (cy 3) := (h.2 3 _ rfl).2
  exact ⟨h1, fun cA h2 => by
    have h2 : s.vm.findClass ("[" ++ FieldType.boolean.toString) = some cA := h2
    exact (Option.some.inj (h1.symm.trans h2)).symm⟩
theorem ct_W {aa : Array Value} {st0 : List Value} (hr : va_Run p l e R s m args below meth c H locs cells slots mc ms (F0 m pc ls st0) rest (QN D w (An a H.size) aa) (An a H.size)) (hP : va_P D vwCl (ws ++ [(a, e0)]) H) (hD : va_D A (ws ++ [(a, e0)])) (hS : va_S A H0 H locs) (hA : ∀ q, H0.size ≤ q → A q)
    (kk : ∀ (f : Nat → Nat) (H1 : Heap) (locs1 : List Loc), va_P D vwCl (ws ++ w f) H1 → va_D A (ws ++ w f) → va_S A H0 H1 locs1 → W p l e R s m args below meth c H1 locs1 (cells + mc) (slots + ms) Q (F0 m (pc + 3) ls rest)) : W p l e R s m args below meth c H locs cells slots Q (F0 m pc ls st0) := by
  intro T hT X
  obtain ⟨v', st₀, t, T', L, h0, X', hL, e1, e2, ⟨hv, ⟨f, hp, hd⟩, hz, hk⟩, st⟩ := hr T hT X
  cases hv
  rw [h0] at hz hk
  have hlast : (ws ++ [(a, e0)])[ws.length]? = some (a, e0) := by simp
  have hAa : A a := hD.2 _ _ hlast
  have hfr : ∀ q, An a H.size q → A q := fun q hq => by
    rcases hq with rfl | hq
    · exact hAa
    · exact hA q (Nat.le_trans hS.1 hq)
  have old : ∀ (k : Nat) (q : Nat × va_E), ws[k]? = some q → q.1 < H.size ∧ q.1 ≠ a ∧ (ws ++ [(a, e0)])[k]? = some q := by
    intro k q hq
    have hl := (List.getElem?_eq_some_iff.mp hq).1
    have hq' : (ws ++ [(a, e0)])[k]? = some q := by rw [List.getElem?_append_left hl]; exact hq
    refine ⟨(hP k q hq').lt, fun he => ?_, hq'⟩
    have := hD.1 k ws.length q (a, e0) hq' hlast he
    omega
  have hP1 : va_P D vwCl (ws ++ w f) T'.heap := va_P.app (fun k q hq => by
    obtain ⟨g1, g2, g3⟩ := old k q hq
    refine (hP k q g3).kept ?_
    rw [e1]
    exact hk q.1 g1 (fun z => by rcases z with z | z; exact g2 z; omega)) (by rw [e1]; exact hp)
  have hDw : va_D A ws := ⟨fun i j x y hi hj hxy => hD.1 i j x y (old i x hi).2.2 (old j y hj).2.2 hxy, fun k q hq => hD.2 k q (old k q hq).2.2⟩
  have hD1 : va_D A (ws ++ w f) := va_D.app hDw (hd.weaken (fun k q _ h => hfr q.1 h)) (fun i j x y hx hy hxy => by
    obtain ⟨g1, g2, -⟩ := old i x hx
    rcases hd.2 j y hy with z | z
    · exact g2 (hxy.trans z)
    · omega)
  obtain ⟨t2, a1, b1⟩ := kk f T'.heap (locs ++ L) hP1 hD1 ⟨Nat.le_trans hS.1 (by rw [e1]; exact hz), fun q h1 h2 => by rw [e1, hk q (Nat.lt_of_lt_of_le h1 hS.1) (fun z => h2 (hfr q z))]; exact hS.2.1 q h1 h2, fun q hq => by
      rcases List.mem_append.mp hq with h | h
      · exact hS.2.2 q h
      · exact hfr _ (hL q h)⟩ T' rfl X'
  exact ⟨t2, st t2 a1, b1⟩
theorem PN.at {as : List Value} (hK : va_K D vwCl (tysX cy) s) (hN : NW s) (hP : va_P D vwCl (ws ++ [(a, e0)]) H) : ∀ U : State, U.heap = H → s.WarmedH U.vm → va_Pc as (PN D cy H.size [(a, e0)]) as.toArray U :=
  fun U hU hW => ⟨rfl, by rw [hU], by
    rw [hU]
    intro k q hk
    have a1 := (List.getElem?_eq_some_iff.mp hk).1
    simp at a1
    subst a1
    cases hk
    exact hP ws.length (a, e0) (by simp), va_K.moved hW.alike hK, hN.warm hW⟩
variable {y : MethodName} {bytes : ByteArray} {maxL n idx : Nat} {rm : Room} {As : List Value}
theorem run_I (C : Cx p s m args meth c cc nL ret own x) (hM : Met l y (.code y bytes maxL none :: WA) rm (va_Pc (.ref a :: As) (PN D cy H.size [(a, e0)])) (QN D w (An a H.size)) mc ms (An a H.size)) (ca : CaI y (.code y bytes maxL none) n) (hl : Cond.methodLink own idx y ∈ WA) (hR : rm.cells = mc ∧ rm.slots = ms ∧ rm.frames + 1 ≤ R.frames ∧ 8 + (maxL + 11) + rm.locals ≤ R.locals)
    (hK : va_K D vwCl (tysX cy) s) (hN : NW s) (hP : va_P D vwCl (ws ++ [(a, e0)]) H)
    (hn : As.length = n) (hsize : ls.size = nL) {st0 : List Value} (hstack : st0 = As.reverse ++ .ref a :: rest) (hW : (rest.map fun v => v.category).sum ≤ 8) (hdg : decode cc pc = .ok (.invokespecial idx, 3)) (hcs : cells + mc ≤ R.cells ∧ slots + ms ≤ R.slots) :
    va_Run p l e R s m args below meth c H locs cells slots mc ms (F0 m pc ls st0) rest (QN D w (An a H.size) (Value.ref a :: As).toArray) (An a H.size) := by
  obtain ⟨hx, hb, hml, hown, hts, hr, hlk⟩ := C
  obtain ⟨⟨hk, hi, hd1, hd2, hd3⟩, him, hnm⟩ := ca
  obtain ⟨hR1, hR2, hR3, hR4⟩ := hR
  have hG : GoodIn (x :: WA) (.code y bytes maxL none :: WA) := wa_goodIn (by
    intro w hw
    rcases List.mem_cons.mp hw with rfl | h <;> assumption)
  have up : ∀ w ∈ WA, w.before args s = true := fun w h => hts w (List.mem_cons_of_mem _ h)
  exact va_runI (As := As) (rest := rest) ⟨hx, hb, hml, hown, hts⟩ hM (cwI n hts hG rfl hR1 hR2 (up _ hi) (up _ hl) (up _ him) hnm ⟨hd1, hd2, hd3⟩ ⟨hR3, hR4⟩) ⟨PN.blind, PN.at hK hN hP⟩ rfl hn hsize hstack (lv_room hW) hdg hcs
theorem run_IN {host : String} (C : Cx p s m args meth c cc nL ret own x) (hM : Met l y (.code y bytes maxL none :: WA) rm (va_Pc (.ref a :: As) (PN D cy H.size [(a, e0)])) (QN D w (An a H.size)) mc ms (An a H.size)) (ca : CaI y (.code y bytes maxL none) n) (hl : Cond.methodLinkNest own idx y host ∈ lw_tbl) (hR : rm.cells = mc ∧ rm.slots = ms ∧ rm.frames + 1 ≤ R.frames ∧ 8 + (maxL + 11) + rm.locals ≤ R.locals)
    (hK : va_K D vwCl (tysX cy) s) (hN : NW s) (hP : va_P D vwCl (ws ++ [(a, e0)]) H)
    (hn : As.length = n) (hsize : ls.size = nL) {st0 : List Value} (hstack : st0 = As.reverse ++ .ref a :: rest) (hW : (rest.map fun v => v.category).sum ≤ 8) (hdg : decode cc pc = .ok (.invokespecial idx, 3)) (hcs : cells + mc ≤ R.cells ∧ slots + ms ≤ R.slots) :
    va_Run p l e R s m args below meth c H locs cells slots mc ms (F0 m pc ls st0) rest (QN D w (An a H.size) (Value.ref a :: As).toArray) (An a H.size) := by
  obtain ⟨hx, hb, hml, hown, hts, hr, hlk⟩ := C
  obtain ⟨⟨hk, hi, hd1, hd2, hd3⟩, him, hnm⟩ := ca
  obtain ⟨hR1, hR2, hR3, hR4⟩ := hR
  have hG : GoodIn (x :: WA) (.code y bytes maxL none :: WA) := wa_goodIn (by
    intro w hw
    rcases List.mem_cons.mp hw with rfl | h <;> assumption)
  have up : ∀ w ∈ WA, w.before args s = true := fun w h => hts w (List.mem_cons_of_mem _ h)
  exact va_runIN (As := As) (rest := rest) ⟨hx, hb, hml, hown, hts⟩ hM ⟨va_cnB n hts hG rfl hR1 hR2 (hN.use hl rfl) (up _ hi) ⟨hd1, hd2, hd3⟩ ⟨hR3, hR4⟩, hnm, up _ him⟩ ⟨PN.blind, PN.at hK hN hP⟩ rfl hn hsize hstack (lv_room hW) hdg hcs
end
/-- a row of numbers written out, the rest 0 -/
def lstF (l : List Int32) : Nat → Int32 := fun j => l.getD j 0
theorem lst_0 : (fun _ => 0 : Nat → Int32) = lstF [] := by funext j; simp [lstF]
theorem lst_upd (l : List Int32) {k : Nat} (hk : l.length = k) (v : Int32) : upd (lstF l) k v = lstF (l ++ [v]) := by
  funext j
  simp only [upd, lstF, List.getD_eq_getElem?_getD]
  by_cases h : j = k
  · subst h
    rw [if_pos rfl, ← hk, List.getElem?_append_right (Nat.le_refl _)]
    simp
  · rw [if_neg h]
    by_cases h2 : j < l.length
    · rw [List.getElem?_append_left h2]
    · rw [List.getElem?_eq_none (by omega), List.getElem?_eq_none (by simp; omega)]
def adOf (h0 : Nat) (f : Nat → Nat) : Nat → Nat := fun k => if k = 0 then h0 else f (k - 1)
section
variable {p : Program} {l : Launch} {e : Env} {R : Room} {s : State} {m : MethodId} {args : Array Value} {below : List Frame} {meth : Method} {c : Code} {H : Heap} {locs : List Loc} {cells slots : Nat} {Q : State → Prop}
variable {cc : ByteArray} {pc nL : Nat} {ls : Array Slot} {rest : List Value} {ret : Option FieldType} {own : String} {x : Cond} {D : va_G} {cy : Nat → ClassId} {A : Nat → Prop} {H0 : Heap}
/-- a store into the row that came last -/
theorem stL (C : Cx p s m args meth c cc nL ret own x) (hK : va_K D vwCl (tysX cy) s) {w : va_W} {q n : Nat} {l0 l1 : List Int32} (hP : va_P D vwCl (w ++ [(q, .inl (cy 1, n, .inl (lstF l0)))]) H) (hD : va_D A (w ++ [(q, .inl (cy 1, n, .inl (lstF l0)))])) (hS : va_S A H0 H locs) {i v : Int32} (hi : i.toNatClampNeg = l0.length) (hin : vp_in i n) (hl1 : l0 ++ [v] = l1) (hdg : decode cc pc = .ok (.iastore, 1))
    (kk : ∀ (H1 : Heap) (locs1 : List Loc), va_P D vwCl (w ++ [(q, .inl (cy 1, n, .inl (lstF l1)))]) H1 → va_D A (w ++ [(q, .inl (cy 1, n, .inl (lstF l1)))]) → va_S A H0 H1 locs1 → W p l e R s m args below meth c H1 locs1 cells slots Q (F0 m (pc + 1) ls rest)) : W p l e R s m args below meth c H locs cells slots Q (F0 m pc ls (.int v :: .int i :: .ref q :: rest)) := by
  subst hl1
  refine va_iast (cA := cy 1) (n := n) (f := lstF l0) (a := q) C.1 C.2.1 hK hP hD hS w.length 1 (by simp) rfl hin hdg (fun H1 locs1 a b c => ?_)
  have e1 : upd (lstF l0) i.toNatClampNeg v = lstF (l0 ++ [v]) := lst_upd l0 hi.symm v
  rw [e1] at a b
  have e2 : ∀ (y z : Nat × va_E), (w ++ [y]).set w.length z = w ++ [z] := by intro y z; simp
  rw [e2] at a b
  exact kk H1 locs1 a b c
end
