/-! statics and string constants that the class reads: nobody writes them -/
def magF (j : Nat) : Int32 := ([127, 69, 76, 70, 2, 1, 1] : List Int32).getD j 0
def opsF (j : Nat) : Int32 := ([0, 1, 1, 1, 1, 0, 0, 0, 1] : List Int32).getD j 0
def bytS : List (List Int32) := [[46, 115, 121, 109, 116, 97, 98], [46, 115, 116, 114, 116, 97, 98], [46, 100, 101, 98, 117, 103, 95, 97, 98, 98, 114, 101, 118], [46, 100, 101, 98, 117, 103, 95, 105, 110, 102, 111], [46, 100, 101, 98, 117, 103, 95, 115, 116, 114], [46, 100, 101, 98, 117, 103, 95, 108, 105, 110, 101], [46, 100, 101, 98, 117, 103, 95, 114, 110, 103, 108, 105, 115, 116, 115]]
def lenS : List Nat := [7, 7, 13, 11, 10, 11, 15]
def kS : List Nat := [103, 105, 107, 109, 111, 113, 115]
def txS : List String := [".symtab", ".strtab", ".debug_abbrev", ".debug_info", ".debug_str", ".debug_line", ".debug_rnglists"]
def SF (t adK adV : Nat → Nat) (A : Nat → Prop) (U : State) (H : Heap) : Prop :=
  (va_Z "AddressNamer" "MAGIC" "[I" (.ref (t 0)) A U H ∧ va_T .int (t 0) 7 (fun j => .int (magF j)) A U H) ∧ (va_Z "AddressNamer" "STANDARD_OPERANDS" "[I" (.ref (t 1)) A U H ∧ va_T .int (t 1) 9 (fun j => .int (opsF j)) A U H) ∧ va_Z "java/lang/String" "COMPACT_STRINGS" "Z" (.int 1) A U H ∧ va_Zq "jdk/internal/util/Preconditions" "SIOOBE_FORMATTER" "Ljava/util/function/BiFunction;" A U H ∧ vk_S 7 lenS bytS adK adV A U H ∧ ∀ i : Nat, i < 7 → vk_R "AddressNamer$Sections" (kS.getD i 0) (txS.getD i "") (adK i) U
theorem SF.warm {t adK adV : Nat → Nat} {A : Nat → Prop} {s U : State} {H : Heap} (hW : s.WarmedH U.vm) (h : SF t adK adV A s H) : SF t adK adV A U H :=
  ⟨⟨h.1.1.moved hW.alike, h.1.2.moved hW.alike⟩, ⟨h.2.1.1.moved hW.alike, h.2.1.2.moved hW.alike⟩, h.2.2.1.moved hW.alike, h.2.2.2.1.moved hW.alike, h.2.2.2.2.1.moved hW.alike, fun i hi => (h.2.2.2.2.2 i hi).warm hW⟩
theorem SF.same {t adK adV : Nat → Nat} {A : Nat → Prop} {u U : State} {H : Heap} (hv : U.vm = u.vm) (h : SF t adK adV A u H) : SF t adK adV A U H := by
  have hA : u.vm.Alike U.vm := by rw [hv]; exact Vm.Alike.refl u.vm
  exact ⟨⟨h.1.1.moved hA, h.1.2.moved hA⟩, ⟨h.2.1.1.moved hA, h.2.1.2.moved hA⟩, h.2.2.1.moved hA, h.2.2.2.1.moved hA, h.2.2.2.2.1.moved hA, fun i hi => (h.2.2.2.2.2 i hi).same hv⟩
theorem SF.kept {t adK adV : Nat → Nat} {A : Nat → Prop} {U : State} {H H1 : Heap} (h : SF t adK adV A U H) (hq : ∀ a : Nat, a < H.size → ¬ A a → H1[a]? = H[a]?) : SF t adK adV A U H1 :=
  ⟨⟨h.1.1.kept hq, h.1.2.kept hq⟩, ⟨h.2.1.1.kept hq, h.2.1.2.kept hq⟩, h.2.2.1.kept hq, h.2.2.2.1.kept hq, h.2.2.2.2.1.kept hq, h.2.2.2.2.2⟩
def PF (t adK adV : Nat → Nat) (A : Nat → Prop) (U : State) : Prop := SF t adK adV A U U.heap
def PS (D : va_G) (cy : Nat → ClassId) (t adK adV : Nat → Nat) (A : Nat → Prop) (ws : va_W) (U : State) : Prop := PR D cy ws U ∧ SF t adK adV A U U.heap
theorem PF.blind {t adK adV : Nat → Nat} {A : Nat → Prop} {as : List Value} : FrameBlind (va_Pc as (PF t adK adV A)) := fun a U g mk q => ⟨q.1, SF.same (u := U) rfl q.2⟩
theorem PS.blind {D : va_G} {cy : Nat → ClassId} {t adK adV : Nat → Nat} {A : Nat → Prop} {ws : va_W} {as : List Value} : FrameBlind (va_Pc as (PS D cy t adK adV A ws)) := fun a U g mk q => by
  obtain ⟨q0, ⟨qP, qK, qN⟩, qF⟩ := q
  exact ⟨q0, ⟨qP, va_K.moved (u := U) (U := U.calling g mk a) (Vm.Alike.refl U.vm) qK, NW.same (u := U) rfl qN⟩, SF.same (u := U) rfl qF⟩
section
variable {p : Program} {l : Launch} {e : Env} {R : Room} {s : State} {m : MethodId} {args : Array Value} {below : List Frame} {meth : Method} {c : Code} {H : Heap} {locs : List Loc} {cells slots : Nat} {Q : State → Prop}
variable {cc : ByteArray} {pc nL : Nat} {ls : Array Slot} {rest : List Value} {ret : Option FieldType} {own : String} {x : Cond} {D : va_G} {cy : Nat → ClassId} {ws ws1 : va_W} {A : Nat → Prop} {H0 : Heap}
variable {y : MethodName} {bytes : ByteArray} {maxL n idx : Nat} {rt : Option FieldType} {rm : Room} {Pc : Array Value → State → Prop} {Qc : Array Value → State → Outcome → State → Prop} {free : Addr → Prop} {b : Addr} {As : List Value}
theorem run_Vg (C : Cx p s m args meth c cc nL ret own x) (hM : Met l y (.code y bytes maxL rt :: WA) rm Pc Qc 0 0 free) (ca : CaV y (.code y bytes maxL rt) n) (hl : Cond.methodLink own idx y ∈ WA) (hR : rm.cells = 0 ∧ rm.slots = 0 ∧ rm.frames + 1 ≤ R.frames ∧ 8 + (maxL + 11) + rm.locals ≤ R.locals)
    (hbl : FrameBlind Pc) (hat : ∀ U : State, U.heap = H → s.WarmedH U.vm → Pc (Value.ref b :: As).toArray U) (hv : ∃ cellB : Cell, H[b]? = some cellB ∧ cellB.vm.isStatics = false ∧ s.vm.findClass y.cls = some cellB.cls)
    (hn : As.length = n) (hsize : ls.size = nL) {st0 : List Value} (hstack : st0 = As.reverse ++ .ref b :: rest) (hW : (rest.map fun v => v.category).sum ≤ 8) (hdg : decode cc pc = .ok (.invokevirtual idx, 3)) (hcs : cells ≤ R.cells ∧ slots ≤ R.slots) :
    va_Run p l e R s m args below meth c H locs cells slots 0 0 (F0 m pc ls st0) rest (Qc (Value.ref b :: As).toArray) free := by
  obtain ⟨hx, hb, hml, hown, hts, hr, hlk⟩ := C
  obtain ⟨⟨hk, hi, hd1, hd2, hd3⟩, him, hsel⟩ := ca
  obtain ⟨hR1, hR2, hR3, hR4⟩ := hR
  have hG : GoodIn (x :: WA) (wsV own idx y.cls y (.code y bytes maxL rt :: WA)) := wa_goodIn (by
    intro w hw
    simp only [wsV, List.cons_append, List.nil_append, List.mem_cons] at hw
    rcases hw with rfl | rfl | rfl | rfl | rfl | h <;> assumption)
  exact va_runV (As := As) (rest := rest) ⟨hx, hb, hml, hown, hts⟩ hM (cwV n hts hG rfl hR1 hR2 ⟨rfl, hd1, hd2, hd3⟩ ⟨hR3, hR4⟩) ⟨hbl, hv, hat⟩ rfl hn hsize hstack (lv_room hW) hdg hcs
theorem run_Sg (C : Cx p s m args meth c cc nL ret own x) (hM : Met l y (.code y bytes maxL rt :: WA) rm Pc Qc 0 0 free) (ca : CaS y (.code y bytes maxL rt) n) (hl : Cond.methodLink own idx y ∈ WA) (hR : rm.cells = 0 ∧ rm.slots = 0 ∧ rm.frames + 1 ≤ R.frames ∧ 8 + (maxL + 11) + rm.locals ≤ R.locals)
    (hbl : FrameBlind Pc) (hat : ∀ U : State, U.heap = H → s.WarmedH U.vm → Pc As.toArray U)
    (hn : As.length = n) (hsize : ls.size = nL) {st0 : List Value} (hstack : st0 = As.reverse ++ rest) (hW : (rest.map fun v => v.category).sum ≤ 8) (hdg : decode cc pc = .ok (.invokestatic idx, 3)) (hcs : cells ≤ R.cells ∧ slots ≤ R.slots) :
    va_Run p l e R s m args below meth c H locs cells slots 0 0 (F0 m pc ls st0) rest (Qc As.toArray) free := by
  obtain ⟨hx, hb, hml, hown, hts, hr, hlk⟩ := C
  obtain ⟨⟨hk, hi, hd1, hd2, hd3⟩, hst⟩ := ca
  obtain ⟨hR1, hR2, hR3, hR4⟩ := hR
  have hG : GoodIn (x :: WA) (va_wsS own idx y (.code y bytes maxL rt :: WA)) := wa_goodIn (by
    intro w hw
    simp only [va_wsS, List.cons_append, List.nil_append, List.mem_cons] at hw
    rcases hw with rfl | rfl | rfl | rfl | h <;> assumption)
  exact va_runS (As := As) (rest := rest) ⟨hx, hb, hml, hown, hts⟩ hM (va_cwS n hts hG rfl hR1 hR2 ⟨hd1, hd2, hd3⟩ ⟨hR3, hR4⟩) ⟨hbl, hat⟩ rfl hn hsize hstack (lv_room hW) hdg hcs
theorem run_SNg {host : String} (C : Cx p s m args meth c cc nL ret own x) (hM : Met l y (.code y bytes maxL rt :: WA) rm Pc Qc 0 0 free) (ca : CaS y (.code y bytes maxL rt) n) (hl : va_Nw (.methodLinkNest own idx y host) s) (hR : rm.cells = 0 ∧ rm.slots = 0 ∧ rm.frames + 1 ≤ R.frames ∧ 8 + (maxL + 11) + rm.locals ≤ R.locals)
    (hbl : FrameBlind Pc) (hat : ∀ U : State, U.heap = H → s.WarmedH U.vm → Pc As.toArray U)
    (hn : As.length = n) (hsize : ls.size = nL) {st0 : List Value} (hstack : st0 = As.reverse ++ rest) (hW : (rest.map fun v => v.category).sum ≤ 8) (hdg : decode cc pc = .ok (.invokestatic idx, 3)) (hcs : cells ≤ R.cells ∧ slots ≤ R.slots) :
    va_Run p l e R s m args below meth c H locs cells slots 0 0 (F0 m pc ls st0) rest (Qc As.toArray) free := by
  obtain ⟨hx, hb, hml, hown, hts, hr, hlk⟩ := C
  obtain ⟨⟨hk, hi, hd1, hd2, hd3⟩, hst⟩ := ca
  obtain ⟨hR1, hR2, hR3, hR4⟩ := hR
  have hG : GoodIn (x :: WA) (.code y bytes maxL rt :: WA) := wa_goodIn (by
    intro w hw
    rcases List.mem_cons.mp hw with rfl | h <;> assumption)
  exact va_runSN (As := As) (rest := rest) ⟨hx, hb, hml, hown, hts⟩ hM ⟨va_cnB n hts hG rfl hR1 hR2 hl (hts _ (List.mem_cons_of_mem _ hi)) ⟨hd1, hd2, hd3⟩ ⟨hR3, hR4⟩, hts _ (List.mem_cons_of_mem _ hst), trivial⟩ ⟨hbl, hat⟩ rfl hn hsize hstack (lv_room hW) hdg hcs
variable {t adK adV : Nat → Nat}
theorem PF.at {as : List Value} (hF : SF t adK adV A s s.heap) (hS : va_S A s.heap H locs) : ∀ U : State, U.heap = H → s.WarmedH U.vm → va_Pc as (PF t adK adV A) as.toArray U :=
  fun U hU hW => ⟨rfl, by unfold PF; rw [hU]; exact (hF.kept hS.2.1).warm hW⟩
theorem PS.at {as : List Value} (hK : va_K D vwCl (tysX cy) s) (hN : NW s) (hP : va_P D vwCl ws H) (hF : SF t adK adV A s s.heap) (hS : va_S A s.heap H locs) : ∀ U : State, U.heap = H → s.WarmedH U.vm → va_Pc as (PS D cy t adK adV A ws) as.toArray U :=
  fun U hU hW => ⟨rfl, ⟨by rw [hU]; exact hP, va_K.moved hW.alike hK, hN.warm hW⟩, by rw [hU]; exact (hF.kept hS.2.1).warm hW⟩
end
/-- a contract out of the walk of its first block, for any start that the caller can give -/
theorem met_g {l : Launch} {y : MethodName} {cc : ByteArray} {nL : Nat} {ret : Option FieldType} {rm : Room} {B : State → Prop} {as : List Value} {Qc : Array Value → State → Outcome → State → Prop} {free : Addr → Prop}
    (hpl : plainName y.cls = true) (hn : (lg_sl as).length ≤ nL)
    (body : ∀ (p : Program) (e : Env) (s : State) (m : MethodId) (below : List Frame) (meth : Method) (c : Code) (ls : Array Slot), Cx p s m as.toArray meth c cc nL ret y.cls (.code y cc nL ret) → B s → lv_has ls nL (lv_args 0 as) →
      W p l e rm s m as.toArray below meth c s.heap [] 0 0 (MQ below Qc as.toArray s 0 0 free) (F0 m 0 ls [])) : Met l y (.code y cc nL ret :: WA) rm (va_Pc as B) Qc 0 0 free := by
  refine Met.ofW (cc := cc) (maxL := nL) (ret := ret) hpl rfl ?_
  intro p e s m args below meth c s₁ B hml hv
  obtain ⟨rfl, hB⟩ := hv
  have hl := lv_entry as (n := nL) hn
  rw [lg_entry_eq]
  exact body p e s m below meth c _ ⟨B.exec, B.bytes, hml, findClass_of_methodNamed B.named, atoms_spec (ws := .code y cc nL ret :: WA) B.pre, B.returns, B.notSynchronized⟩ hB hl
section
variable {l : Launch} {t adK adV : Nat → Nat} {A : Nat → Prop}
theorem kJ3_checkIndex {i n : Int32} {w : Value} (hw : w = .null ∨ ∃ z, w = .ref z) (h0 : ¬ i < 0) (h1 : i < n) : Met l yJ3_checkIndex_8e157 (.code yJ3_checkIndex_8e157 cJ3_checkIndex_8e157 3 (some .int) :: WA) ({ frames := 0, cells := 0, slots := 0, locals := 0 } : Room) (va_Pc [.int i, .int n, w] (PF t adK adV A)) (QP (some (.int i))) 0 0 (fun _ => False) := by
  have key : ∀ w : Value, (lg_sl [.int i, .int n, w]).length ≤ 3 → lv_pick (lv_args 0 [.int i, .int n, w]) [0, 1] = [(0, .int i), (1, .int n)] → Met l yJ3_checkIndex_8e157 (.code yJ3_checkIndex_8e157 cJ3_checkIndex_8e157 3 (some .int) :: WA) ({ frames := 0, cells := 0, slots := 0, locals := 0 } : Room) (va_Pc [.int i, .int n, w] (PF t adK adV A)) (QP (some (.int i))) 0 0 (fun _ => False) := by
    intro w hc hp
    refine met_g (by decide) hc (fun p e s m below meth c ls C hF hl => ?_)
    obtain ⟨hx, hb, hml, hown, hts, hr, hlk⟩ := id C
    have hl : lv_has ls 3 [(0, .int i), (1, .int n)] := lv_sub (l := lv_args 0 [.int i, .int n, w]) hl [0, 1] hp
    refine lv_iload_n hx hb dJ3_checkIndex_8e157_0 rfl (lv_at hl 0 rfl) ?_
    refine lv_if_lt (tgt := 9) hx hb dJ3_checkIndex_8e157_1 (by decide) (fun c1 => absurd c1 h0) (fun c1 => ?_)
    refine lv_iload_n hx hb dJ3_checkIndex_8e157_4 rfl (lv_at hl 0 rfl) ?_
    refine lv_iload_n hx hb dJ3_checkIndex_8e157_5 rfl (lv_at hl 1 rfl) ?_
    refine lv_icmp_lt (tgt := 16) hx hb dJ3_checkIndex_8e157_6 (by decide) (fun c2 => ?_) (fun c2 => absurd h1 c2)
    refine lv_iload_n hx hb dJ3_checkIndex_8e157_16 rfl (lv_at hl 0 rfl) ?_
    exact W.iret hx hb hr (fun t ht _ => ⟨rfl, ht⟩) (fun _ h9 => by cases h9) dJ3_checkIndex_8e157_17 hlk
  rcases hw with rfl | ⟨z, rfl⟩
  · exact key _ (Nat.le_of_ble_eq_true rfl) rfl
  · exact key _ (Nat.le_of_ble_eq_true rfl) rfl
theorem kJ0_checkIndex {i n : Int32} (h0 : ¬ i < 0) (h1 : i < n) : Met l yJ0_checkIndex_df160 (.code yJ0_checkIndex_df160 cJ0_checkIndex_df160 2 none :: WA) ({ frames := 1, cells := 0, slots := 0, locals := 22 } : Room) (va_Pc [.int i, .int n] (PF t adK adV A)) (QP none) 0 0 (fun _ => False) := by
  refine met_g (by decide) (Nat.le_of_ble_eq_true rfl) (fun p e s m below meth c ls C hF hl => ?_)
  obtain ⟨hx, hb, hml, hown, hts, hr, hlk⟩ := id C
  have hl : lv_has ls 2 [(0, .int i), (1, .int n)] := hl
  have hF : SF t adK adV A s s.heap := hF
  have hS : va_S A s.heap s.heap [] := va_S.rf
  have key : ∀ w : Value, (w = .null ∨ ∃ z, w = .ref z) → va_Z "jdk/internal/util/Preconditions" "SIOOBE_FORMATTER" "Ljava/util/function/BiFunction;" w A s s.heap → W p l e ({ frames := 1, cells := 0, slots := 0, locals := 22 } : Room) s m #[.int i, .int n] below meth c s.heap [] 0 0 (MQ below (QP none) #[.int i, .int n] s 0 0 (fun _ => False)) (F0 m 0 ls []) := by
    intro w hw hZ
    refine lv_iload_n hx hb dJ0_checkIndex_df160_0 rfl (lv_at hl 0 rfl) ?_
    refine lv_iload_n hx hb dJ0_checkIndex_df160_1 rfl (lv_at hl 1 rfl) ?_
    refine va_gets hx hb hZ hS hown (hts _ (List.mem_cons_of_mem _ w640)) (fun _ h9 => h9) dJ0_checkIndex_df160_2 ?_
    refine cPi (run_Sg (rest := []) (As := [.int i, .int n, w]) C (kJ3_checkIndex (t := t) (adK := adK) (adV := adV) (A := A) hw h0 h1) caJ3_checkIndex_8e157 w642 ⟨rfl, rfl, Nat.le_of_ble_eq_true rfl, Nat.le_of_ble_eq_true rfl⟩ PF.blind (PF.at hF hS) rfl hl.1 rfl (Nat.le_of_ble_eq_true rfl) dJ0_checkIndex_df160_5 ⟨Nat.zero_le _, Nat.zero_le _⟩) ?_
    refine lv_pop hx hb dJ0_checkIndex_df160_8 rfl ?_
    exact W.vret hx hb hr (fun t ht _ => ⟨rfl, ht⟩) (fun _ h9 => by cases h9) dJ0_checkIndex_df160_9 hlk
  rcases hF.2.2.2.1 with h | ⟨z, h⟩
  · exact key _ (Or.inl rfl) h
  · exact key _ (Or.inr ⟨z, rfl⟩) h
def chS (k : Nat) (i : Int32) : Int32 := (bytS.getD k []).getD i.toNatClampNeg 0 &&& 255
theorem kJ1_charAt {k : Nat} {i : Int32} (hk : k < 7) (h0 : ¬ i < 0) (h1 : i < Int32.ofNat (lenS.getD k 0)) (hin : vp_in i (lenS.getD k 0)) : Met l yJ1_charAt_3b067 (.code yJ1_charAt_3b067 cJ1_charAt_3b067 2 (some .char) :: WA) ({ frames := 2, cells := 0, slots := 0, locals := 43 } : Room) (va_Pc [.ref (adV k), .int i] (PF t adK adV A)) (QP (some (.int (chS k i)))) 0 0 (fun _ => False) := by
  refine met_g (by decide) (Nat.le_of_ble_eq_true rfl) (fun p e s m below meth c ls C hF hl => ?_)
  obtain ⟨hx, hb, hml, hown, hts, hr, hlk⟩ := id C
  have hl : lv_has ls 2 [(0, .ref (adV k)), (1, .int i)] := hl
  have hF : SF t adK adV A s s.heap := hF
  have hS : va_S A s.heap s.heap [] := va_S.rf
  have hT := (hF.2.2.2.2.1.1 k hk).2.2.2
  refine lv_iload_n hx hb dJ1_charAt_3b067_0 rfl (lv_at hl 1 rfl) ?_
  refine lv_aload_n hx hb dJ1_charAt_3b067_1 rfl (lv_at hl 0 rfl) ?_
  refine va_tlen hx hb hT hS rfl dJ1_charAt_3b067_2 ?_
  refine cPv (run_Sg (rest := []) (As := [.int i, .int (Int32.ofNat (lenS.getD k 0))]) C (kJ0_checkIndex (t := t) (adK := adK) (adV := adV) (A := A) h0 h1) caJ0_checkIndex_df160 w637 ⟨rfl, rfl, Nat.le_of_ble_eq_true rfl, Nat.le_of_ble_eq_true rfl⟩ PF.blind (PF.at hF hS) rfl hl.1 rfl (Nat.le_of_ble_eq_true rfl) dJ1_charAt_3b067_3 ⟨Nat.zero_le _, Nat.zero_le _⟩) ?_
  refine lv_aload_n hx hb dJ1_charAt_3b067_6 rfl (lv_at hl 0 rfl) ?_
  refine lv_iload_n hx hb dJ1_charAt_3b067_7 rfl (lv_at hl 1 rfl) ?_
  refine va_tb hx hb hT hS hin rfl dJ1_charAt_3b067_8 ?_
  refine lv_sipush (v := 255) hx hb dJ1_charAt_3b067_9 (by decide) ?_
  refine lv_iand hx hb dJ1_charAt_3b067_12 ?_
  refine lv_i2c (v := chS k i) hx hb dJ1_charAt_3b067_13 (sc_c2 _) ?_
  exact W.zret (ty := .char) hx hb hr (sc_nar _) (fun t ht _ => ⟨rfl, ht⟩) (fun _ h9 => by cases h9) dJ1_charAt_3b067_14 hlk
theorem kJ0_isLatin1 {k : Nat} (hk : k < 7) : Met l yJ0_isLatin1_aae02 (.code yJ0_isLatin1_aae02 cJ0_isLatin1_aae02 1 (some .boolean) :: WA) ({ frames := 0, cells := 0, slots := 0, locals := 0 } : Room) (va_Pc [.ref (adK k)] (PF t adK adV A)) (QP (some (.int 1))) 0 0 (fun _ => False) := by
  refine met_g (by decide) (Nat.le_of_ble_eq_true rfl) (fun p e s m below meth c ls C hF hl => ?_)
  obtain ⟨hx, hb, hml, hown, hts, hr, hlk⟩ := id C
  have hl : lv_has ls 1 [(0, .ref (adK k))] := hl
  have hF : SF t adK adV A s s.heap := hF
  have hS : va_S A s.heap s.heap [] := va_S.rf
  refine va_gets hx hb hF.2.2.1 hS hown (hts _ (List.mem_cons_of_mem _ w623)) (fun _ h9 => h9) dJ0_isLatin1_aae02_0 ?_
  refine lv_if_eq (tgt := 17) hx hb dJ0_isLatin1_aae02_3 (by decide) (fun c1 => absurd c1 (by decide)) (fun c1 => ?_)
  refine lv_aload_n hx hb dJ0_isLatin1_aae02_6 rfl (lv_at hl 0 rfl) ?_
  refine vk_getf hx hb (hF.2.2.2.2.1.1 k hk).2.1 hS hown (hts _ (List.mem_cons_of_mem _ w1964)) (fun _ h9 => h9) dJ0_isLatin1_aae02_7 ?_
  refine lv_if_ne (tgt := 17) hx hb dJ0_isLatin1_aae02_10 (by decide) (fun c1 => absurd rfl c1) (fun c1 => ?_)
  refine lv_iconst (v := 1) hx hb dJ0_isLatin1_aae02_13 (by decide) ?_
  refine lv_goto (tgt := 18) hx hb dJ0_isLatin1_aae02_14 (by decide) ?_
  exact W.zret (ty := .boolean) hx hb hr (by decide) (fun t ht _ => ⟨rfl, ht⟩) (fun _ h9 => by cases h9) dJ0_isLatin1_aae02_18 hlk
theorem kJ0_coder {k : Nat} (hk : k < 7) : Met l yJ0_coder_7d493 (.code yJ0_coder_7d493 cJ0_coder_7d493 1 (some .byte) :: WA) ({ frames := 0, cells := 0, slots := 0, locals := 0 } : Room) (va_Pc [.ref (adK k)] (PF t adK adV A)) (QP (some (.int 0))) 0 0 (fun _ => False) := by
  refine met_g (by decide) (Nat.le_of_ble_eq_true rfl) (fun p e s m below meth c ls C hF hl => ?_)
  obtain ⟨hx, hb, hml, hown, hts, hr, hlk⟩ := id C
  have hl : lv_has ls 1 [(0, .ref (adK k))] := hl
  have hF : SF t adK adV A s s.heap := hF
  have hS : va_S A s.heap s.heap [] := va_S.rf
  refine va_gets hx hb hF.2.2.1 hS hown (hts _ (List.mem_cons_of_mem _ w623)) (fun _ h9 => h9) dJ0_coder_7d493_0 ?_
  refine lv_if_eq (tgt := 13) hx hb dJ0_coder_7d493_3 (by decide) (fun c1 => absurd c1 (by decide)) (fun c1 => ?_)
  refine lv_aload_n hx hb dJ0_coder_7d493_6 rfl (lv_at hl 0 rfl) ?_
  refine vk_getf hx hb (hF.2.2.2.2.1.1 k hk).2.1 hS hown (hts _ (List.mem_cons_of_mem _ w1964)) (fun _ h9 => h9) dJ0_coder_7d493_7 ?_
  refine lv_goto (tgt := 14) hx hb dJ0_coder_7d493_10 (by decide) ?_
  exact W.zret (ty := .byte) hx hb hr (by decide) (fun t ht _ => ⟨rfl, ht⟩) (fun _ h9 => by cases h9) dJ0_coder_7d493_14 hlk
def lnS (k : Nat) : Int32 := Int32.ofNat (lenS.getD k 0)
theorem kJ0_length {k : Nat} (hk : k < 7) : Met l yJ0_length_8abf5 (.code yJ0_length_8abf5 cJ0_length_8abf5 1 (some .int) :: WA) ({ frames := 1, cells := 0, slots := 0, locals := 20 } : Room) (va_Pc [.ref (adK k)] (PF t adK adV A)) (QP (some (.int (lnS k)))) 0 0 (fun _ => False) := by
  refine met_g (by decide) (Nat.le_of_ble_eq_true rfl) (fun p e s m below meth c ls C hF hl => ?_)
  obtain ⟨hx, hb, hml, hown, hts, hr, hlk⟩ := id C
  have hl : lv_has ls 1 [(0, .ref (adK k))] := hl
  have hF : SF t adK adV A s s.heap := hF
  have hS : va_S A s.heap s.heap [] := va_S.rf
  refine lv_aload_n hx hb dJ0_length_8abf5_0 rfl (lv_at hl 0 rfl) ?_
  refine vk_getf hx hb (hF.2.2.2.2.1.1 k hk).2.2.1 hS hown (hts _ (List.mem_cons_of_mem _ w1963)) (fun _ h9 => h9) dJ0_length_8abf5_1 ?_
  refine va_tlen hx hb (hF.2.2.2.2.1.1 k hk).2.2.2 hS rfl dJ0_length_8abf5_4 ?_
  refine lv_aload_n hx hb dJ0_length_8abf5_5 rfl (lv_at hl 0 rfl) ?_
  refine cPi (run_Vg (rest := [.int (Int32.ofNat (lenS.getD k 0))]) (As := []) C (kJ0_coder (t := t) (adV := adV) (A := A) hk) caJ0_coder_7d493 w619 ⟨rfl, rfl, Nat.le_of_ble_eq_true rfl, Nat.le_of_ble_eq_true rfl⟩ PF.blind (PF.at hF hS) (vk_recv hF.2.2.2.2.1 hk hS) rfl hl.1 rfl (Nat.le_of_ble_eq_true rfl) dJ0_length_8abf5_6 ⟨Nat.zero_le _, Nat.zero_le _⟩) ?_
  refine lv_ishr hx hb dJ0_length_8abf5_9 ?_
  exact W.iret hx hb hr (fun t ht _ => ⟨by rw [sb_shr0]; rfl, ht⟩) (fun _ h9 => by cases h9) dJ0_length_8abf5_10 hlk
theorem kJ0_charAt {k : Nat} {i : Int32} (hk : k < 7) (h0 : ¬ i < 0) (h1 : i < Int32.ofNat (lenS.getD k 0)) (hin : vp_in i (lenS.getD k 0)) : Met l yJ0_charAt_5068e (.code yJ0_charAt_5068e cJ0_charAt_5068e 2 (some .char) :: WA) ({ frames := 3, cells := 0, slots := 0, locals := 64 } : Room) (va_Pc [.ref (adK k), .int i] (PF t adK adV A)) (QP (some (.int (chS k i)))) 0 0 (fun _ => False) := by
  refine met_g (by decide) (Nat.le_of_ble_eq_true rfl) (fun p e s m below meth c ls C hF hl => ?_)
  obtain ⟨hx, hb, hml, hown, hts, hr, hlk⟩ := id C
  have hl : lv_has ls 2 [(0, .ref (adK k)), (1, .int i)] := hl
  have hF : SF t adK adV A s s.heap := hF
  have hS : va_S A s.heap s.heap [] := va_S.rf
  refine lv_aload_n hx hb dJ0_charAt_5068e_0 rfl (lv_at hl 0 rfl) ?_
  refine cPi (run_Vg (rest := []) (As := []) C (kJ0_isLatin1 (t := t) (adV := adV) (A := A) hk) caJ0_isLatin1_aae02 w630 ⟨rfl, rfl, Nat.le_of_ble_eq_true rfl, Nat.le_of_ble_eq_true rfl⟩ PF.blind (PF.at hF hS) (vk_recv hF.2.2.2.2.1 hk hS) rfl hl.1 rfl (Nat.le_of_ble_eq_true rfl) dJ0_charAt_5068e_1 ⟨Nat.zero_le _, Nat.zero_le _⟩) ?_
  refine lv_if_eq (tgt := 16) hx hb dJ0_charAt_5068e_4 (by decide) (fun c1 => absurd c1 (by decide)) (fun c1 => ?_)
  refine lv_aload_n hx hb dJ0_charAt_5068e_7 rfl (lv_at hl 0 rfl) ?_
  refine vk_getf hx hb (hF.2.2.2.2.1.1 k hk).2.2.1 hS hown (hts _ (List.mem_cons_of_mem _ w1963)) (fun _ h9 => h9) dJ0_charAt_5068e_8 ?_
  refine lv_iload_n hx hb dJ0_charAt_5068e_11 rfl (lv_at hl 1 rfl) ?_
  refine cPi (run_Sg (rest := []) (As := [.ref (adV k), .int i]) C (kJ1_charAt (t := t) (adK := adK) (A := A) hk h0 h1 hin) caJ1_charAt_3b067 w634 ⟨rfl, rfl, Nat.le_of_ble_eq_true rfl, Nat.le_of_ble_eq_true rfl⟩ PF.blind (PF.at hF hS) rfl hl.1 rfl (Nat.le_of_ble_eq_true rfl) dJ0_charAt_5068e_12 ⟨Nat.zero_le _, Nat.zero_le _⟩) ?_
  exact W.zret (ty := .char) hx hb hr (sc_nar _) (fun t ht _ => ⟨rfl, ht⟩) (fun _ h9 => by cases h9) dJ0_charAt_5068e_15 hlk
/-- which text a number means -/
def nmk (x : Int32) : Nat := if x = 0 then 0 else if x = 1 then 1 else if x = 2 then 2 else if x = 3 then 3 else if x = 4 then 4 else if x = 5 then 5 else 6
theorem nmk_lt (x : Int32) : nmk x < 7 := by unfold nmk; repeat' split
                                             all_goals omega
end
