/-! the law: two worlds side by side in one heap -/
abbrev TX : Type := Tnm × Ttp × Tkp × Tcu × Tse × Tur × Tab × Tlo × Tim × Tsy × Tun × Ten × Tra × Tli × Ti2
abbrev TM : Type := Tmt × Tmc × Tmb × Tmo × Tms × Tmk × Tmy × Tmu × Tma × Tme × Tmr × Tmp × Tmg × Tmw × Tmf × Tml × Tmq
def sw (k : Nat) : Nat := bif Nat.blt k 21 then k else bif Nat.blt k 55 then k + 34 else k - 34
theorem sw_lt {k : Nat} (h : k < 89) : sw k < 89 := by
  unfold sw
  by_cases h1 : k < 21
  · rw [show Nat.blt k 21 = true from Nat.blt_eq.mpr h1]; exact h
  · rw [show Nat.blt k 21 = false by rw [← Bool.not_eq_true, Nat.blt_eq]; exact h1]
    by_cases h2 : k < 55
    · rw [show Nat.blt k 55 = true from Nat.blt_eq.mpr h2]; show k + 34 < 89; omega
    · rw [show Nat.blt k 55 = false by rw [← Bool.not_eq_true, Nat.blt_eq]; exact h2]; show k - 34 < 89; omega
theorem sw_sw {k : Nat} (h : k < 89) : sw (sw k) = k := by
  have key : ∀ k : Fin 89, sw (sw k.val) = k.val := by decide +kernel
  exact key ⟨k, h⟩
theorem Apart.sw {ad : Nat → Nat} (h : Apart ad 89) : Apart (fun k => ad (sw k)) 89 := fun i j hi hj e => by
  have e1 := h _ _ (sw_lt hi) (sw_lt hj) e
  rw [← sw_sw hi, ← sw_sw hj, e1]
theorem Ac_sw {ad : Nat → Nat} {q : Nat} (h : Ac (fun k => ad (sw k)) 89 q) : Ac ad 89 q := by
  obtain ⟨k, hk, e⟩ := h
  exact ⟨sw k, sw_lt hk, e⟩
def swL : List Nat := List.range 21 ++ (List.range 34).map (· + 55) ++ (List.range 34).map (· + 21)
theorem SF.narrow {t adK adV : Nat → Nat} {A B : Nat → Prop} {U : State} {H : Heap} (h : SF t adK adV A U H) (hAB : ∀ q, B q → A q) : SF t adK adV B U H :=
  ⟨⟨h.1.1.narrow hAB, h.1.2.narrow hAB⟩, ⟨h.2.1.1.narrow hAB, h.2.1.2.narrow hAB⟩, h.2.2.1.narrow hAB, h.2.2.2.1.narrow hAB, h.2.2.2.2.1.narrow hAB, h.2.2.2.2.2⟩
def GXt (cy : Nat → ClassId) (ad : Nat → Nat) (X : TX) : va_W := GX cy ad (ad 21) (ad 55) X.1 X.2.1 X.2.2.1 X.2.2.2.1 X.2.2.2.2.1 X.2.2.2.2.2.1 X.2.2.2.2.2.2.1 X.2.2.2.2.2.2.2.1 X.2.2.2.2.2.2.2.2.1 X.2.2.2.2.2.2.2.2.2.1 X.2.2.2.2.2.2.2.2.2.2.1 X.2.2.2.2.2.2.2.2.2.2.2.1 X.2.2.2.2.2.2.2.2.2.2.2.2.1 X.2.2.2.2.2.2.2.2.2.2.2.2.2.1 X.2.2.2.2.2.2.2.2.2.2.2.2.2.2
def GMt (cy : Nat → ClassId) (ad : Nat → Nat) (M : TM) : va_W := GM cy ad M.1 M.2.1 M.2.2.1 M.2.2.2.1 M.2.2.2.2.1 M.2.2.2.2.2.1 M.2.2.2.2.2.2.1 M.2.2.2.2.2.2.2.1 M.2.2.2.2.2.2.2.2.1 M.2.2.2.2.2.2.2.2.2.1 M.2.2.2.2.2.2.2.2.2.2.1 M.2.2.2.2.2.2.2.2.2.2.2.1 M.2.2.2.2.2.2.2.2.2.2.2.2.1 M.2.2.2.2.2.2.2.2.2.2.2.2.2.1 M.2.2.2.2.2.2.2.2.2.2.2.2.2.2.1 M.2.2.2.2.2.2.2.2.2.2.2.2.2.2.2.1 M.2.2.2.2.2.2.2.2.2.2.2.2.2.2.2.2
def LW (D : va_G) (cy : Nat → ClassId) (r1 r2 : Nat) (X : TX) (M : TM) (H0 H : Heap) (locs : List Loc) : Prop :=
  ∃ adX adM : Nat → Nat, adX 0 = r1 ∧ adM 0 = r2 ∧ Apart adX 89 ∧ Apart adM 71 ∧ (∀ k, k < 89 → H0.size ≤ adX k) ∧ (∀ k, k < 71 → H0.size ≤ adM k) ∧ (∀ i j, i < 89 → j < 71 → adX i ≠ adM j) ∧ va_P D vwCl (GXt cy adX X) H ∧ va_P D vwCl (GMt cy adM M) H ∧ va_S (fun q => H0.size ≤ q) H0 H locs
theorem Ac_le {ad : Nat → Nat} {n z : Nat} (h : ∀ k, k < n → z ≤ ad k) : ∀ q, Ac ad n q → (fun q => z ≤ q) q := fun q hq => by
  obtain ⟨k, hk, e⟩ := hq
  subst e
  exact h k hk
theorem dis_of {a1 a2 : Nat → Nat} {n1 n2 : Nat} {wo : va_W} (hD : va_D (Ac a2 n2) wo) (hne : ∀ i j, i < n1 → j < n2 → a1 i ≠ a2 j) : ∀ (k : Nat) (q : Nat × va_E), wo[k]? = some q → ¬ Ac a1 n1 q.1 := fun k q hq h => by
  obtain ⟨i, hi, e1⟩ := h
  obtain ⟨j, hj, e2⟩ := hD.2 k q hq
  exact hne i j hi hj (e1.symm.trans e2)
theorem scr_in {i j L : Nat} {x3 k : Int32} (hk : k = nI j) (e3 : x3 = nI i) (h : i + 6 ≤ L) (hj : j < 6) (hL : L < 2 ^ 31) : vp_in (x3 + k) L := by
  rw [e3, hk, nI_add]
  exact vp_in_nI (by omega) hL
theorem scr_in0 {i L : Nat} {x3 : Int32} (e3 : x3 = nI i) (h : i + 6 ≤ L) (hL : L < 2 ^ 31) : vp_in x3 L := by
  rw [e3]
  exact vp_in_nI (by omega) hL
section
variable {p : Program} {l : Launch} {e : Env} {R : Room} {s : State} {m : MethodId} {args : Array Value} {below : List Frame} {meth : Method} {c : Code} {H : Heap} {locs : List Loc} {cells slots : Nat} {Q : State → Prop}
variable {pc nL : Nat} {ls : Array Slot} {rest : List Value} {D : va_G} {ws1 wo : va_W} {A A' : Nat → Prop} {H0 : Heap}
/-- a call that writes one of the two worlds: the other stays -/
theorem call_L {v : Option Value} {a : Array Value} {st0 : List Value} (hr : va_Run p l e R s m args below meth c H locs cells slots 0 0 (F0 m pc ls st0) rest (QR v D ws1 A a) A) (hS : va_S A' H0 H locs) (hsub : ∀ q, A q → A' q) (hPo : va_P D vwCl wo H) (hdis : ∀ (k : Nat) (q : Nat × va_E), wo[k]? = some q → ¬ A q.1)
    (kk : ∀ (H1 : Heap) (locs1 : List Loc), va_P D vwCl ws1 H1 → va_P D vwCl wo H1 → va_S A' H0 H1 locs1 → W p l e R s m args below meth c H1 locs1 cells slots Q (F0 m (pc + 3) ls (v.toList ++ rest))) : W p l e R s m args below meth c H locs cells slots Q (F0 m pc ls st0) := by
  intro T hT X
  obtain ⟨v', st₀, t, T', L, h0, X', hL, e1, e2, ⟨hv, hp, hz, hk⟩, st⟩ := hr T hT X
  cases hv
  rw [h0] at hz hk
  obtain ⟨t2, a1, b1⟩ := kk T'.heap (locs ++ L) (by rw [e1]; exact hp) (fun k q hq => (hPo k q hq).kept (by rw [e1]; exact hk q.1 (hPo k q hq).lt (hdis k q hq))) ⟨Nat.le_trans hS.1 (by rw [e1]; exact hz), fun q h1 h2 => by rw [e1, hk q (Nat.lt_of_lt_of_le h1 hS.1) (fun z => h2 (hsub q z))]; exact hS.2.1 q h1 h2, fun q hq => by
      rcases List.mem_append.mp hq with h | h
      · exact hS.2.2 q h
      · exact hsub _ (hL q h)⟩ T' rfl X'
  exact ⟨t2, st t2 a1, b1⟩
theorem cLi {r : Int32} {a : Array Value} {st0 : List Value} (hr : va_Run p l e R s m args below meth c H locs cells slots 0 0 (F0 m pc ls st0) rest (QR (some (.int r)) D ws1 A a) A) (hS : va_S A' H0 H locs) (hsub : ∀ q, A q → A' q) (hPo : va_P D vwCl wo H) (hdis : ∀ (k : Nat) (q : Nat × va_E), wo[k]? = some q → ¬ A q.1)
    (kk : ∀ (H1 : Heap) (locs1 : List Loc), va_P D vwCl ws1 H1 → va_P D vwCl wo H1 → va_S A' H0 H1 locs1 → W p l e R s m args below meth c H1 locs1 cells slots Q (F0 m (pc + 3) ls (.int r :: rest))) : W p l e R s m args below meth c H locs cells slots Q (F0 m pc ls st0) := call_L hr hS hsub hPo hdis kk
end
