/-! the words that every method's contract takes: all good words of the tables -/
def WA : List Cond := lw_tbl.filter goodWord
theorem wa_mem {w : Cond} (h : w ∈ lw_tbl) (g : goodWord w = true) : w ∈ WA := List.mem_filter.mpr ⟨h, g⟩
theorem wa_good {w : Cond} (h : w ∈ WA) : goodWord w = true := (List.mem_filter.mp h).2
theorem wa_tbl {w : Cond} (h : w ∈ WA) : w ∈ lw_tbl := (List.mem_filter.mp h).1
theorem wa_goodIn {x : Cond} {ws : List Cond} (h : ∀ w ∈ ws, w ∈ WA) : GoodIn (x :: WA) ws := fun w hw => ⟨List.mem_cons_of_mem _ (h w hw), good_of_word (wa_good (h w hw))⟩
/-- what is known of a callee, once -/
def CaO (y : MethodName) (k : Cond) (n : Nat) : Prop := k ∈ WA ∧ Cond.initialized y.cls ∈ WA ∧ y.cls ≠ "java/lang/invoke/MethodHandle" ∧ y.cls ≠ "java/lang/invoke/VarHandle" ∧ (parseMethodDescriptor y.desc).map (fun d => d.parameters.length) = some n
def CaV (y : MethodName) (k : Cond) (n : Nat) : Prop := CaO y k n ∧ Cond.instanceMethod y ∈ WA ∧ Cond.selects y.cls y y ∈ WA
def CaS (y : MethodName) (k : Cond) (n : Nat) : Prop := CaO y k n ∧ Cond.static y ∈ WA
def CaI (y : MethodName) (k : Cond) (n : Nat) : Prop := CaO y k n ∧ Cond.instanceMethod y ∈ WA ∧ y.name = "<init>"
/-- links to nest mates' private members: no good words, carried along by themselves -/
def isNest : Cond → Bool
  | .fieldLinkNest .. => true
  | .methodLinkNest .. => true
  | _ => false
def NW (U : State) : Prop := ∀ w ∈ lw_tbl.filter isNest, va_Nw w U
theorem NW.warm {s U : State} (hW : s.WarmedH U.vm) (h : NW s) : NW U := by
  intro w hw
  have h1 := h w hw
  have h2 := (List.mem_filter.mp hw).2
  cases w <;> first | exact va_Nw.warmF hW h1 | exact va_Nw.warmM hW h1 | cases h2
theorem NW.use {w : Cond} {U : State} (h : NW U) (h1 : w ∈ lw_tbl) (h2 : isNest w = true) : va_Nw w U := h w (List.mem_filter.mpr ⟨h1, h2⟩)
theorem NW.same {u U : State} (h : u.vm = U.vm) (hN : NW u) : NW U := by
  intro w hw
  have h2 := (List.mem_filter.mp hw).2
  refine va_Nw.same ?_ h (hN w hw)
  cases w <;> first | rfl | cases h2
/-- the array classes: bytes, ints, longs, booleans -/
def tysX (cy : Nat → ClassId) : List (ClassId × FieldType) := [(cy 0, .byte), (cy 1, .int), (cy 2, .long), (cy 3, .boolean)]
/-- a method's start: its world, the tables -/
def PR (D : va_G) (cy : Nat → ClassId) (ws : va_W) (U : State) : Prop := va_P D vwCl ws U.heap ∧ va_K D vwCl (tysX cy) U ∧ NW U
/-- a method's end: its answer, its world; or its answer alone, nothing written -/
def QR (v : Option Value) (D : va_G) (ws : va_W) (A : Nat → Prop) : Array Value → State → Outcome → State → Prop := fun _ st oc t => oc = .returned v ∧ va_P D vwCl ws t.heap ∧ va_F A st t
def QP (v : Option Value) : Array Value → State → Outcome → State → Prop := fun _ st oc t => oc = .returned v ∧ t.heap = st.heap
theorem PR.blind {D : va_G} {cy : Nat → ClassId} {ws : va_W} {as : List Value} : FrameBlind (va_Pc as (PR D cy ws)) := fun a U g mk q => by
  obtain ⟨q0, qP, qK, qN⟩ := q
  exact ⟨q0, qP, va_K.moved (u := U) (U := U.calling g mk a) (Vm.Alike.refl U.vm) qK, NW.same (u := U) rfl qN⟩
/-- the fixed part of a walk -/
def Cx (p : Program) (s : State) (m : MethodId) (args : Array Value) (meth : Method) (c : Code) (cc : ByteArray) (nL : Nat) (ret : Option FieldType) (own : String) (x : Cond) : Prop :=
  p.tables.exec = Jvm.exec ∧ c.code = cc ∧ c.maxLocals = nL ∧ s.vm.findClass own = some m.cls ∧ (∀ w ∈ x :: WA, w.before args s = true) ∧ meth.sig.returnType = ret ∧ meth.locks = false
/-- the cells of a world: the addresses are those of ad, apart -/
def Ac (ad : Nat → Nat) (n : Nat) : Nat → Prop := fun q => ∃ k, k < n ∧ q = ad k
def Apart (ad : Nat → Nat) (n : Nat) : Prop := ∀ i j, i < n → j < n → ad i = ad j → i = j
theorem apart_D {ad : Nat → Nat} {n : Nat} {ws : va_W} (h : Apart ad n) (e : ws.map Prod.fst = (List.range n).map ad) : va_D (Ac ad n) ws := by
  have key : ∀ (k : Nat) (q : Nat × va_E), ws[k]? = some q → k < n ∧ q.1 = ad k := by
    intro k q hk
    have h1 : (ws.map Prod.fst)[k]? = some q.1 := by rw [List.getElem?_map, hk]; rfl
    rw [e, List.getElem?_map] at h1
    by_cases hn : k < n
    · rw [List.getElem?_range hn] at h1
      exact ⟨hn, (Option.some.inj h1).symm⟩
    · rw [List.getElem?_eq_none (by simpa using hn)] at h1
      cases h1
  refine ⟨fun i j x y hi hj hxy => ?_, fun k q hk => ?_⟩
  · obtain ⟨a1, a2⟩ := key i x hi
    obtain ⟨b1, b2⟩ := key j y hj
    exact h i j a1 b1 (by rw [← a2, ← b2]; exact hxy)
  · obtain ⟨a1, a2⟩ := key k q hk
    exact ⟨k, a1, a2⟩
-- models: partial functions
theorem bnd {α β : Type} {x : Option α} {k : α → Option β} {r : β} (h : x.bind k = some r) : ∃ a, x = some a ∧ k a = some r := by
  cases x with
  | none => cases h
  | some a => exact ⟨a, rfl, h⟩
theorem grd {β : Type} {b : Bool} {x : Option β} {r : β} (h : (if b = true then x else none) = some r) : b = true ∧ x = some r := by
  cases b with
  | false => cases h
  | true => exact ⟨rfl, h⟩
/-- a step of a model that can't fail -/
def letq {α β : Type} (a : α) (k : α → β) : β := k a
theorem lets {α β : Type} {a : α} {k : α → β} {r : β} (h : letq a k = r) : ∃ q, a = q ∧ k q = r := ⟨a, rfl, h⟩
/-- loops of models: at most so many turns -/
def lp {σ ρ : Type} (body : (σ → Option ρ) → σ → Option ρ) : Nat → σ → Option ρ
  | 0, _ => none
  | n + 1, s => body (lp body n) s
def FU : Nat := 1000000000000
/-- the class's own reads and writes of a row of numbers -/
def at_i (n : Nat) (f : Nat → Int32) (i : Int32) : Int32 := if i < 0 then -1 else if Int32.ofNat n ≤ i then -1 else f i.toNatClampNeg
def at_l (n : Nat) (f : Nat → Int64) (i : Int32) : Int64 := if i < 0 then -1 else if Int32.ofNat n ≤ i then -1 else f i.toNatClampNeg
def put_i (n : Nat) (f : Nat → Int32) (i v : Int32) : Nat → Int32 := if i < 0 then f else if Int32.ofNat n ≤ i then f else upd f i.toNatClampNeg v
def put_l (n : Nat) (f : Nat → Int64) (i : Int32) (v : Int64) : Nat → Int64 := if i < 0 then f else if Int32.ofNat n ≤ i then f else vp_updL f i.toNatClampNeg v
def inb (i : Int32) (n : Nat) : Bool := decide (¬ (i < 0 ∨ n ≤ i.toNatClampNeg))
theorem inb_in {i : Int32} {n : Nat} (h : inb i n = true) : vp_in i n := of_decide_eq_true (p := ¬ (i < 0 ∨ n ≤ i.toNatClampNeg)) h
def nz (y : Int32) : Bool := decide (¬ y = 0)
theorem nz_ne {y : Int32} (h : nz y = true) : ¬ y = 0 := of_decide_eq_true h
def bz (y : Int32) : Bool := decide (y = 0 ∨ y = 1)
theorem bz_n {y : Int32} (h : bz y = true) : narrow .boolean (.int y) = .int y := by
  rcases of_decide_eq_true h with rfl | rfl <;> decide
theorem bz_f {y : Int32} (h : bz y = true) : fits .boolean (.int y) = true := by
  rcases of_decide_eq_true h with rfl | rfl <;> decide
section
variable {p : Program} {l : Launch} {e : Env} {R : Room} {s : State} {m : MethodId} {args : Array Value} {below : List Frame} {meth : Method} {c : Code} {H : Heap} {locs : List Loc} {cells slots : Nat} {Q : State → Prop}
variable {cc : ByteArray} {pc nL : Nat} {ls : Array Slot} {rest : List Value} {ret : Option FieldType} {own : String} {x : Cond} {D : va_G} {cy : Nat → ClassId} {ws ws1 : va_W} {A : Nat → Prop} {H0 : Heap}
-- compares of longs with the branch behind them
theorem lc_eq (hx : p.tables.exec = Jvm.exec) (hb : c.code = cc) {a b : Int64} {off : Int} {tgt : Nat} (d1 : decode cc pc = .ok (.lcmp, 1)) (d2 : decode cc (pc + 1) = .ok (.ifCond .eq off, 3)) (ht : ((pc + 1 : Nat) : Int) + off = (tgt : Int))
    (kt : a = b → W p l e R s m args below meth c H locs cells slots Q (F0 m tgt ls rest)) (kf : ¬ a = b → W p l e R s m args below meth c H locs cells slots Q (F0 m (pc + 4) ls rest)) : W p l e R s m args below meth c H locs cells slots Q (F0 m pc ls (.long b :: .long a :: rest)) := by
  have key : lg_cmp a b = 0 ↔ a = b := by
    unfold lg_cmp
    by_cases h1 : a > b
    · rw [if_pos h1]
      exact ⟨fun h => absurd h (by decide), fun h => by subst h; exact absurd h1 (Int64.lt_irrefl)⟩
    · rw [if_neg h1]
      by_cases h2 : a = b
      · rw [if_pos h2]; exact ⟨fun _ => h2, fun _ => rfl⟩
      · rw [if_neg h2]; exact ⟨fun h => absurd h (by decide), fun h => absurd h h2⟩
  refine W.lcmp hx hb d1 (lv_if_eq hx hb d2 ht (fun h => kt (key.mp h)) (fun h => kf (fun q => h (key.mpr q))))
theorem lc_ne (hx : p.tables.exec = Jvm.exec) (hb : c.code = cc) {a b : Int64} {off : Int} {tgt : Nat} (d1 : decode cc pc = .ok (.lcmp, 1)) (d2 : decode cc (pc + 1) = .ok (.ifCond .ne off, 3)) (ht : ((pc + 1 : Nat) : Int) + off = (tgt : Int))
    (kt : ¬ a = b → W p l e R s m args below meth c H locs cells slots Q (F0 m tgt ls rest)) (kf : a = b → W p l e R s m args below meth c H locs cells slots Q (F0 m (pc + 4) ls rest)) : W p l e R s m args below meth c H locs cells slots Q (F0 m pc ls (.long b :: .long a :: rest)) := by
  have key : lg_cmp a b = 0 ↔ a = b := by
    unfold lg_cmp
    by_cases h1 : a > b
    · rw [if_pos h1]
      exact ⟨fun h => absurd h (by decide), fun h => by subst h; exact absurd h1 (Int64.lt_irrefl)⟩
    · rw [if_neg h1]
      by_cases h2 : a = b
      · rw [if_pos h2]; exact ⟨fun _ => h2, fun _ => rfl⟩
      · rw [if_neg h2]; exact ⟨fun h => absurd h (by decide), fun h => absurd h h2⟩
  refine W.lcmp hx hb d1 (lv_if_ne hx hb d2 ht (fun h => kt (fun q => h (key.mpr q))) (fun h => kf (key.mp h)))
theorem lg_lt0 {a b : Int64} : lg_cmp a b < 0 ↔ a < b := by
  unfold lg_cmp
  by_cases h1 : a > b
  · rw [if_pos h1]
    exact ⟨fun h => absurd h (by decide), fun h => absurd (Int64.lt_trans h h1) Int64.lt_irrefl⟩
  · rw [if_neg h1]
    by_cases h2 : a = b
    · rw [if_pos h2]
      exact ⟨fun h => absurd h (by decide), fun h => by rw [h2] at h; exact absurd h Int64.lt_irrefl⟩
    · rw [if_neg h2]
      refine ⟨fun _ => ?_, fun _ => by decide⟩
      rcases Int64.lt_or_eq_of_le (Int64.not_lt.mp h1) with q | q
      · exact q
      · exact absurd q h2
theorem lg_gt0 {a b : Int64} : 0 < lg_cmp a b ↔ b < a := by
  unfold lg_cmp
  by_cases h1 : a > b
  · rw [if_pos h1]
    exact ⟨fun _ => h1, fun _ => by decide⟩
  · rw [if_neg h1]
    by_cases h2 : a = b
    · rw [if_pos h2]
      exact ⟨fun h => absurd h (by decide), fun h => absurd h h1⟩
    · rw [if_neg h2]
      exact ⟨fun h => absurd h (by decide), fun h => absurd h h1⟩
theorem lc_lt (hx : p.tables.exec = Jvm.exec) (hb : c.code = cc) {a b : Int64} {off : Int} {tgt : Nat} (d1 : decode cc pc = .ok (.lcmp, 1)) (d2 : decode cc (pc + 1) = .ok (.ifCond .lt off, 3)) (ht : ((pc + 1 : Nat) : Int) + off = (tgt : Int))
    (kt : a < b → W p l e R s m args below meth c H locs cells slots Q (F0 m tgt ls rest)) (kf : ¬ a < b → W p l e R s m args below meth c H locs cells slots Q (F0 m (pc + 4) ls rest)) : W p l e R s m args below meth c H locs cells slots Q (F0 m pc ls (.long b :: .long a :: rest)) :=
  W.lcmp hx hb d1 (lv_if_lt hx hb d2 ht (fun h => kt (lg_lt0.mp h)) (fun h => kf (fun q => h (lg_lt0.mpr q))))
theorem lc_ge (hx : p.tables.exec = Jvm.exec) (hb : c.code = cc) {a b : Int64} {off : Int} {tgt : Nat} (d1 : decode cc pc = .ok (.lcmp, 1)) (d2 : decode cc (pc + 1) = .ok (.ifCond .ge off, 3)) (ht : ((pc + 1 : Nat) : Int) + off = (tgt : Int))
    (kt : ¬ a < b → W p l e R s m args below meth c H locs cells slots Q (F0 m tgt ls rest)) (kf : a < b → W p l e R s m args below meth c H locs cells slots Q (F0 m (pc + 4) ls rest)) : W p l e R s m args below meth c H locs cells slots Q (F0 m pc ls (.long b :: .long a :: rest)) :=
  W.lcmp hx hb d1 (lv_if_ge hx hb d2 ht (fun h => kt (fun q => absurd (lg_lt0.mpr q) (Int32.not_lt.mpr h))) (fun h => kf (lg_lt0.mp (Int32.not_le.mp h))))
theorem lc_gt (hx : p.tables.exec = Jvm.exec) (hb : c.code = cc) {a b : Int64} {off : Int} {tgt : Nat} (d1 : decode cc pc = .ok (.lcmp, 1)) (d2 : decode cc (pc + 1) = .ok (.ifCond .gt off, 3)) (ht : ((pc + 1 : Nat) : Int) + off = (tgt : Int))
    (kt : b < a → W p l e R s m args below meth c H locs cells slots Q (F0 m tgt ls rest)) (kf : ¬ b < a → W p l e R s m args below meth c H locs cells slots Q (F0 m (pc + 4) ls rest)) : W p l e R s m args below meth c H locs cells slots Q (F0 m pc ls (.long b :: .long a :: rest)) :=
  W.lcmp hx hb d1 (lv_if_gt hx hb d2 ht (fun h => kt (lg_gt0.mp h)) (fun h => kf (fun q => h (lg_gt0.mpr q))))
theorem lc_le (hx : p.tables.exec = Jvm.exec) (hb : c.code = cc) {a b : Int64} {off : Int} {tgt : Nat} (d1 : decode cc pc = .ok (.lcmp, 1)) (d2 : decode cc (pc + 1) = .ok (.ifCond .le off, 3)) (ht : ((pc + 1 : Nat) : Int) + off = (tgt : Int))
    (kt : ¬ b < a → W p l e R s m args below meth c H locs cells slots Q (F0 m tgt ls rest)) (kf : b < a → W p l e R s m args below meth c H locs cells slots Q (F0 m (pc + 4) ls rest)) : W p l e R s m args below meth c H locs cells slots Q (F0 m pc ls (.long b :: .long a :: rest)) :=
  W.lcmp hx hb d1 (lv_if_le hx hb d2 ht (fun h => kt (fun q => absurd (lg_gt0.mpr q) (Int32.not_lt.mpr h))) (fun h => kf (lg_gt0.mp (Int32.not_le.mp h))))
theorem tsw_d (hx : p.tables.exec = Jvm.exec) (hb : c.code = cc) {dflt lo hi : Int} {offs : Array Int} {len : Nat} {x : Int32} {tgt : Nat} (hdg : decode cc pc = .ok (.tableswitch dflt lo hi offs, len)) (ks : List Int32) (hk : ∀ k ∈ ks, ¬ x = k) (hc : hi < lo + (offs.size : Int) ∧ ∀ i, i < offs.size → offs[i]? = some dflt ∨ (Int32.ofInt (lo + i) ∈ ks ∧ (Int32.ofInt (lo + i)).toInt = lo + i)) (ht : (pc : Int) + dflt = (tgt : Int))
    (k : W p l e R s m args below meth c H locs cells slots Q (F0 m tgt ls rest)) : W p l e R s m args below meth c H locs cells slots Q (F0 m pc ls (.int x :: rest)) := by
  by_cases h1 : x.toInt < lo
  · exact lv_tableOut hx hb hdg (Or.inl h1) ht k
  · by_cases h2 : hi < x.toInt
    · exact lv_tableOut hx hb hdg (Or.inr h2) ht k
    · refine lv_tableIn hx hb hdg h1 h2 (off := dflt) ?_ ht k
      have hi1 : (x.toInt - lo).toNat < offs.size := by omega
      rcases hc.2 _ hi1 with q | ⟨q1, q2⟩
      · exact q
      · exfalso
        have e1 : lo + ((x.toInt - lo).toNat : Int) = x.toInt := by omega
        rw [e1] at q1 q2
        exact hk _ q1 (Int32.toInt_inj.mp q2.symm)
-- calls
theorem call_R {v : Option Value} {a : Array Value} {st0 : List Value} (hr : va_Run p l e R s m args below meth c H locs cells slots 0 0 (F0 m pc ls st0) rest (QR v D ws1 A a) A) (hS : va_S A H0 H locs)
    (kk : ∀ (H1 : Heap) (locs1 : List Loc), va_P D vwCl ws1 H1 → va_S A H0 H1 locs1 → W p l e R s m args below meth c H1 locs1 cells slots Q (F0 m (pc + 3) ls (v.toList ++ rest))) : W p l e R s m args below meth c H locs cells slots Q (F0 m pc ls st0) := by
  intro T hT X
  obtain ⟨v', st₀, t, T', L, h0, X', hL, e1, e2, ⟨hv, hp, hz, hk⟩, st⟩ := hr T hT X
  cases hv
  rw [h0] at hz hk
  obtain ⟨t2, a1, b1⟩ := kk T'.heap (locs ++ L) (by rw [e1]; exact hp) ⟨Nat.le_trans hS.1 (by rw [e1]; exact hz), fun q h1 h2 => by rw [e1, hk q (Nat.lt_of_lt_of_le h1 hS.1) h2]; exact hS.2.1 q h1 h2, fun q hq => by
      rcases List.mem_append.mp hq with h | h
      · exact hS.2.2 q h
      · exact hL q h⟩ T' rfl X'
  exact ⟨t2, st t2 a1, b1⟩
theorem call_P {v : Option Value} {a : Array Value} {st0 : List Value} (hr : va_Run p l e R s m args below meth c H locs cells slots 0 0 (F0 m pc ls st0) rest (QP v a) (fun _ => False))
    (kk : W p l e R s m args below meth c H locs cells slots Q (F0 m (pc + 3) ls (v.toList ++ rest))) : W p l e R s m args below meth c H locs cells slots Q (F0 m pc ls st0) := by
  intro T hT X
  obtain ⟨v', st₀, t, T', L, h0, X', hL, e1, e2, ⟨hv, hh⟩, st⟩ := hr T hT X
  cases hv
  obtain ⟨t2, a1, b1⟩ := kk T' (by rw [e1, hh, h0]) (Stand.forget X' (fun q h => (hL q h).elim))
  exact ⟨t2, st t2 a1, b1⟩
theorem b_icmp_ge (hx : p.tables.exec = Jvm.exec) (hb : c.code = cc) {x y : Int32} {off : Int} {tgt : Nat} (hdg : decode cc pc = .ok (.if_icmp .ge off, 3)) (ht : (pc : Int) + off = (tgt : Int)) (kt : ¬ x < y → W p l e R s m args below meth c H locs cells slots Q (F0 m tgt ls rest)) (kf : x < y → W p l e R s m args below meth c H locs cells slots Q (F0 m (pc + 3) ls rest)) : W p l e R s m args below meth c H locs cells slots Q (F0 m pc ls (.int y :: .int x :: rest)) := lv_icmp_ge hx hb hdg ht (fun h => kt (Int32.not_lt.mpr h)) (fun h => kf (Int32.not_le.mp h))
theorem b_icmp_le (hx : p.tables.exec = Jvm.exec) (hb : c.code = cc) {x y : Int32} {off : Int} {tgt : Nat} (hdg : decode cc pc = .ok (.if_icmp .le off, 3)) (ht : (pc : Int) + off = (tgt : Int)) (kt : ¬ y < x → W p l e R s m args below meth c H locs cells slots Q (F0 m tgt ls rest)) (kf : y < x → W p l e R s m args below meth c H locs cells slots Q (F0 m (pc + 3) ls rest)) : W p l e R s m args below meth c H locs cells slots Q (F0 m pc ls (.int y :: .int x :: rest)) := lv_icmp_le hx hb hdg ht (fun h => kt (Int32.not_lt.mpr h)) (fun h => kf (Int32.not_le.mp h))
theorem b_if_ge (hx : p.tables.exec = Jvm.exec) (hb : c.code = cc) {x : Int32} {off : Int} {tgt : Nat} (hdg : decode cc pc = .ok (.ifCond .ge off, 3)) (ht : (pc : Int) + off = (tgt : Int)) (kt : ¬ x < 0 → W p l e R s m args below meth c H locs cells slots Q (F0 m tgt ls rest)) (kf : x < 0 → W p l e R s m args below meth c H locs cells slots Q (F0 m (pc + 3) ls rest)) : W p l e R s m args below meth c H locs cells slots Q (F0 m pc ls (.int x :: rest)) := lv_if_ge hx hb hdg ht (fun h => kt (Int32.not_lt.mpr h)) (fun h => kf (Int32.not_le.mp h))
theorem b_if_le (hx : p.tables.exec = Jvm.exec) (hb : c.code = cc) {x : Int32} {off : Int} {tgt : Nat} (hdg : decode cc pc = .ok (.ifCond .le off, 3)) (ht : (pc : Int) + off = (tgt : Int)) (kt : ¬ 0 < x → W p l e R s m args below meth c H locs cells slots Q (F0 m tgt ls rest)) (kf : 0 < x → W p l e R s m args below meth c H locs cells slots Q (F0 m (pc + 3) ls rest)) : W p l e R s m args below meth c H locs cells slots Q (F0 m pc ls (.int x :: rest)) := lv_if_le hx hb hdg ht (fun h => kt (Int32.not_lt.mpr h)) (fun h => kf (Int32.not_le.mp h))
theorem cRi {r : Int32} {a : Array Value} {st0 : List Value} (hr : va_Run p l e R s m args below meth c H locs cells slots 0 0 (F0 m pc ls st0) rest (QR (some (.int r)) D ws1 A a) A) (hS : va_S A H0 H locs) (kk : ∀ (H1 : Heap) (locs1 : List Loc), va_P D vwCl ws1 H1 → va_S A H0 H1 locs1 → W p l e R s m args below meth c H1 locs1 cells slots Q (F0 m (pc + 3) ls (.int r :: rest))) : W p l e R s m args below meth c H locs cells slots Q (F0 m pc ls st0) := call_R hr hS kk
theorem cPi {r : Int32} {a : Array Value} {st0 : List Value} (hr : va_Run p l e R s m args below meth c H locs cells slots 0 0 (F0 m pc ls st0) rest (QP (some (.int r)) a) (fun _ => False)) (kk : W p l e R s m args below meth c H locs cells slots Q (F0 m (pc + 3) ls (.int r :: rest))) : W p l e R s m args below meth c H locs cells slots Q (F0 m pc ls st0) := call_P hr kk
theorem cRl {r : Int64} {a : Array Value} {st0 : List Value} (hr : va_Run p l e R s m args below meth c H locs cells slots 0 0 (F0 m pc ls st0) rest (QR (some (.long r)) D ws1 A a) A) (hS : va_S A H0 H locs) (kk : ∀ (H1 : Heap) (locs1 : List Loc), va_P D vwCl ws1 H1 → va_S A H0 H1 locs1 → W p l e R s m args below meth c H1 locs1 cells slots Q (F0 m (pc + 3) ls (.long r :: rest))) : W p l e R s m args below meth c H locs cells slots Q (F0 m pc ls st0) := call_R hr hS kk
theorem cPl {r : Int64} {a : Array Value} {st0 : List Value} (hr : va_Run p l e R s m args below meth c H locs cells slots 0 0 (F0 m pc ls st0) rest (QP (some (.long r)) a) (fun _ => False)) (kk : W p l e R s m args below meth c H locs cells slots Q (F0 m (pc + 3) ls (.long r :: rest))) : W p l e R s m args below meth c H locs cells slots Q (F0 m pc ls st0) := call_P hr kk
theorem cRv {a : Array Value} {st0 : List Value} (hr : va_Run p l e R s m args below meth c H locs cells slots 0 0 (F0 m pc ls st0) rest (QR (none) D ws1 A a) A) (hS : va_S A H0 H locs) (kk : ∀ (H1 : Heap) (locs1 : List Loc), va_P D vwCl ws1 H1 → va_S A H0 H1 locs1 → W p l e R s m args below meth c H1 locs1 cells slots Q (F0 m (pc + 3) ls (rest))) : W p l e R s m args below meth c H locs cells slots Q (F0 m pc ls st0) := call_R hr hS kk
theorem cPv {a : Array Value} {st0 : List Value} (hr : va_Run p l e R s m args below meth c H locs cells slots 0 0 (F0 m pc ls st0) rest (QP (none) a) (fun _ => False)) (kk : W p l e R s m args below meth c H locs cells slots Q (F0 m (pc + 3) ls (rest))) : W p l e R s m args below meth c H locs cells slots Q (F0 m pc ls st0) := call_P hr kk
theorem cPr {r : Nat} {a : Array Value} {st0 : List Value} (hr : va_Run p l e R s m args below meth c H locs cells slots 0 0 (F0 m pc ls st0) rest (QP (some (.ref r)) a) (fun _ => False)) (kk : W p l e R s m args below meth c H locs cells slots Q (F0 m (pc + 3) ls (.ref r :: rest))) : W p l e R s m args below meth c H locs cells slots Q (F0 m pc ls st0) := call_P hr kk
theorem PR.at {as : List Value} (hK : va_K D vwCl (tysX cy) s) (hN : NW s) (hP : va_P D vwCl ws H) : ∀ U : State, U.heap = H → s.WarmedH U.vm → va_Pc as (PR D cy ws) as.toArray U :=
  fun U hU hW => ⟨rfl, by rw [hU]; exact hP, va_K.moved hW.alike hK, hN.warm hW⟩
variable {y : MethodName} {bytes : ByteArray} {maxL n idx : Nat} {rt : Option FieldType} {rm : Room} {Pc : Array Value → State → Prop} {Qc : Array Value → State → Outcome → State → Prop} {free : Addr → Prop} {b : Addr} {As : List Value}
theorem run_V (C : Cx p s m args meth c cc nL ret own x) (hM : Met l y (.code y bytes maxL rt :: WA) rm (va_Pc (.ref b :: As) (PR D cy ws)) Qc 0 0 free) (ca : CaV y (.code y bytes maxL rt) n) (hl : Cond.methodLink own idx y ∈ WA) (hR : rm.cells = 0 ∧ rm.slots = 0 ∧ rm.frames + 1 ≤ R.frames ∧ 8 + (maxL + 11) + rm.locals ≤ R.locals)
    (hK : va_K D vwCl (tysX cy) s) (hN : NW s) (hP : va_P D vwCl ws H) (hv : ∃ cellB : Cell, H[b]? = some cellB ∧ cellB.vm.isStatics = false ∧ s.vm.findClass y.cls = some cellB.cls)
    (hn : As.length = n) (hsize : ls.size = nL) {st0 : List Value} (hstack : st0 = As.reverse ++ .ref b :: rest) (hW : (rest.map fun v => v.category).sum ≤ 8) (hdg : decode cc pc = .ok (.invokevirtual idx, 3)) (hcs : cells ≤ R.cells ∧ slots ≤ R.slots) :
    va_Run p l e R s m args below meth c H locs cells slots 0 0 (F0 m pc ls st0) rest (Qc (Value.ref b :: As).toArray) free := by
  obtain ⟨hx, hb, hml, hown, hts, hr, hlk⟩ := C
  obtain ⟨⟨hk, hi, hd1, hd2, hd3⟩, him, hsel⟩ := ca
  obtain ⟨hR1, hR2, hR3, hR4⟩ := hR
  have hG : GoodIn (x :: WA) (wsV own idx y.cls y (.code y bytes maxL rt :: WA)) := wa_goodIn (by
    intro w hw
    simp only [wsV, List.cons_append, List.nil_append, List.mem_cons] at hw
    rcases hw with rfl | rfl | rfl | rfl | rfl | h <;> assumption)
  exact va_runV (As := As) (rest := rest) ⟨hx, hb, hml, hown, hts⟩ hM (cwV n hts hG rfl hR1 hR2 ⟨rfl, hd1, hd2, hd3⟩ ⟨hR3, hR4⟩) ⟨PR.blind, hv, PR.at hK hN hP⟩ rfl hn hsize hstack (lv_room hW) hdg hcs
theorem run_S (C : Cx p s m args meth c cc nL ret own x) (hM : Met l y (.code y bytes maxL rt :: WA) rm (va_Pc As (PR D cy ws)) Qc 0 0 free) (ca : CaS y (.code y bytes maxL rt) n) (hl : Cond.methodLink own idx y ∈ WA) (hR : rm.cells = 0 ∧ rm.slots = 0 ∧ rm.frames + 1 ≤ R.frames ∧ 8 + (maxL + 11) + rm.locals ≤ R.locals)
    (hK : va_K D vwCl (tysX cy) s) (hN : NW s) (hP : va_P D vwCl ws H)
    (hn : As.length = n) (hsize : ls.size = nL) {st0 : List Value} (hstack : st0 = As.reverse ++ rest) (hW : (rest.map fun v => v.category).sum ≤ 8) (hdg : decode cc pc = .ok (.invokestatic idx, 3)) (hcs : cells ≤ R.cells ∧ slots ≤ R.slots) :
    va_Run p l e R s m args below meth c H locs cells slots 0 0 (F0 m pc ls st0) rest (Qc As.toArray) free := by
  obtain ⟨hx, hb, hml, hown, hts, hr, hlk⟩ := C
  obtain ⟨⟨hk, hi, hd1, hd2, hd3⟩, hst⟩ := ca
  obtain ⟨hR1, hR2, hR3, hR4⟩ := hR
  have hG : GoodIn (x :: WA) (va_wsS own idx y (.code y bytes maxL rt :: WA)) := wa_goodIn (by
    intro w hw
    simp only [va_wsS, List.cons_append, List.nil_append, List.mem_cons] at hw
    rcases hw with rfl | rfl | rfl | rfl | h <;> assumption)
  exact va_runS (As := As) (rest := rest) ⟨hx, hb, hml, hown, hts⟩ hM (va_cwS n hts hG rfl hR1 hR2 ⟨hd1, hd2, hd3⟩ ⟨hR3, hR4⟩) ⟨PR.blind, PR.at hK hN hP⟩ rfl hn hsize hstack (lv_room hW) hdg hcs
theorem run_SN {host : String} (C : Cx p s m args meth c cc nL ret own x) (hM : Met l y (.code y bytes maxL rt :: WA) rm (va_Pc As (PR D cy ws)) Qc 0 0 free) (ca : CaS y (.code y bytes maxL rt) n) (hl : va_Nw (.methodLinkNest own idx y host) s) (hR : rm.cells = 0 ∧ rm.slots = 0 ∧ rm.frames + 1 ≤ R.frames ∧ 8 + (maxL + 11) + rm.locals ≤ R.locals)
    (hK : va_K D vwCl (tysX cy) s) (hN : NW s) (hP : va_P D vwCl ws H)
    (hn : As.length = n) (hsize : ls.size = nL) {st0 : List Value} (hstack : st0 = As.reverse ++ rest) (hW : (rest.map fun v => v.category).sum ≤ 8) (hdg : decode cc pc = .ok (.invokestatic idx, 3)) (hcs : cells ≤ R.cells ∧ slots ≤ R.slots) :
    va_Run p l e R s m args below meth c H locs cells slots 0 0 (F0 m pc ls st0) rest (Qc As.toArray) free := by
  obtain ⟨hx, hb, hml, hown, hts, hr, hlk⟩ := C
  obtain ⟨⟨hk, hi, hd1, hd2, hd3⟩, hst⟩ := ca
  obtain ⟨hR1, hR2, hR3, hR4⟩ := hR
  have hG : GoodIn (x :: WA) (.code y bytes maxL rt :: WA) := wa_goodIn (by
    intro w hw
    rcases List.mem_cons.mp hw with rfl | h <;> assumption)
  exact va_runSN (As := As) (rest := rest) ⟨hx, hb, hml, hown, hts⟩ hM ⟨va_cnB n hts hG rfl hR1 hR2 hl (hts _ (List.mem_cons_of_mem _ hi)) ⟨hd1, hd2, hd3⟩ ⟨hR3, hR4⟩, hts _ (List.mem_cons_of_mem _ hst), trivial⟩ ⟨PR.blind, PR.at hK hN hP⟩ rfl hn hsize hstack (lv_room hW) hdg hcs
end
/-- a contract out of the walk of its first block -/
theorem met_of {l : Launch} {y : MethodName} {cc : ByteArray} {nL : Nat} {ret : Option FieldType} {rm : Room} {D : va_G} {cy : Nat → ClassId} {ws : va_W} {as : List Value} {Qc : Array Value → State → Outcome → State → Prop} {free : Addr → Prop}
    (hpl : plainName y.cls = true) (hn : (lg_sl as).length ≤ nL)
    (body : ∀ (p : Program) (e : Env) (s : State) (m : MethodId) (below : List Frame) (meth : Method) (c : Code) (ls : Array Slot), Cx p s m as.toArray meth c cc nL ret y.cls (.code y cc nL ret) → va_P D vwCl ws s.heap → va_K D vwCl (tysX cy) s → NW s → lv_has ls nL (lv_args 0 as) →
      W p l e rm s m as.toArray below meth c s.heap [] 0 0 (MQ below Qc as.toArray s 0 0 free) (F0 m 0 ls [])) : Met l y (.code y cc nL ret :: WA) rm (va_Pc as (PR D cy ws)) Qc 0 0 free := by
  refine Met.ofW (cc := cc) (maxL := nL) (ret := ret) hpl rfl ?_
  intro p e s m args below meth c s₁ B hml hv
  obtain ⟨rfl, hP, hK, hN⟩ := hv
  have hl := lv_entry as (n := nL) hn
  rw [lg_entry_eq]
  exact body p e s m below meth c _ ⟨B.exec, B.bytes, hml, findClass_of_methodNamed B.named, atoms_spec (ws := .code y cc nL ret :: WA) B.pre, B.returns, B.notSynchronized⟩ hP hK hN hl
