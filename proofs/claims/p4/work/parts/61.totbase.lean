/-! totality of models: they answer at all -/
def Tot {α : Type} (x : Option α) : Prop := ∃ q, x = some q
def TQ {α : Type} (x : Option α) (Q : α → Prop) : Prop := ∃ q, x = some q ∧ Q q
theorem tt_s {α : Type} {a : α} : Tot (some a) := ⟨a, rfl⟩
theorem tt_i {α : Type} {c : Prop} [Decidable c] {x y : Option α} (h1 : c → Tot x) (h2 : ¬ c → Tot y) : Tot (if c then x else y) := by
  by_cases h : c
  · rw [if_pos h]; exact h1 h
  · rw [if_neg h]; exact h2 h
theorem tt_b {α β : Type} {x : Option α} {k : α → Option β} (h1 : Tot x) (h2 : ∀ q, Tot (k q)) : Tot (x.bind k) := by
  obtain ⟨q, rfl⟩ := h1
  exact h2 q
theorem tt_bq {α β : Type} {x : Option α} {Q : α → Prop} {k : α → Option β} (h1 : TQ x Q) (h2 : ∀ q, Q q → Tot (k q)) : Tot (x.bind k) := by
  obtain ⟨q, rfl, h⟩ := h1
  exact h2 q h
theorem tt_l {α β : Type} {a : α} {k : α → Option β} (h : ∀ q, Tot (k q)) : Tot (letq a k) := h a
theorem tt_g {α : Type} {b : Bool} {x : Option α} (h : b = true) (h2 : Tot x) : Tot (if b = true then x else none) := by
  rw [if_pos h]; exact h2
theorem tq_s {α : Type} {Q : α → Prop} {a : α} (h : Q a) : TQ (some a) Q := ⟨a, rfl, h⟩
theorem tq_i {α : Type} {Q : α → Prop} {c : Prop} [Decidable c] {x y : Option α} (h1 : c → TQ x Q) (h2 : ¬ c → TQ y Q) : TQ (if c then x else y) Q := by
  by_cases h : c
  · rw [if_pos h]; exact h1 h
  · rw [if_neg h]; exact h2 h
theorem tq_b {α β : Type} {P : α → Prop} {Q : β → Prop} {x : Option α} {k : α → Option β} (h1 : TQ x P) (h2 : ∀ q, P q → TQ (k q) Q) : TQ (x.bind k) Q := by
  obtain ⟨q, rfl, h⟩ := h1
  exact h2 q h
theorem tq_g {α : Type} {Q : α → Prop} {b : Bool} {x : Option α} (h : b = true) (h2 : TQ x Q) : TQ (if b = true then x else none) Q := by
  rw [if_pos h]; exact h2
theorem tq_w {α : Type} {P Q : α → Prop} {x : Option α} (h : TQ x P) (hpq : ∀ q, P q → Q q) : TQ x Q := by
  obtain ⟨q, e, h⟩ := h
  exact ⟨q, e, hpq q h⟩
theorem tq_t {α : Type} {Q : α → Prop} {x : Option α} (h : TQ x Q) : Tot x := by
  obtain ⟨q, e, -⟩ := h
  exact ⟨q, e⟩
/-- a counter that can be raised by one -/
def Cn (v : Int32) : Prop := v.toInt < 2147483647
theorem cn_lt {v B : Int32} (h : v < B) : Cn v := by
  have h1 := Int32.lt_iff_toInt_lt.mp h
  have h2 : B.toInt < 2 ^ 31 := Int32.toInt_lt B
  unfold Cn
  omega
theorem cn_le {v B : Int32} (h : ¬ B < v) (hB : B.toInt < 2147483647) : Cn v := by
  have h1 := Int32.le_iff_toInt_le.mp (Int32.not_lt.mp h)
  unfold Cn
  omega
theorem cn_1 {v : Int32} (h : Cn v) : (v + 1).toInt = v.toInt + 1 := by
  have h2 : -2 ^ 31 ≤ v.toInt := Int32.le_toInt v
  have e1 : (1 : Int32).toInt = 1 := by decide
  unfold Cn at h
  rw [Int32.toInt_add, e1, Int.bmod_eq_of_le (by omega) (by omega)]
theorem cn_0 {v : Int32} (h : Cn v) (h0 : ¬ v < 0) : ¬ v + 1 < 0 := by
  intro q
  have h1 := Int32.le_iff_toInt_le.mp (Int32.not_lt.mp h0)
  have h2 := Int32.lt_iff_toInt_lt.mp q
  have e0 : (0 : Int32).toInt = 0 := by decide
  rw [cn_1 h, e0] at h2
  rw [e0] at h1
  omega
theorem lp_cntQ {σ ρ : Type} {Q : ρ → Prop} {body : (σ → Option ρ) → σ → Option ρ} (cnt : σ → Int32) (P : σ → Prop) (hb : ∀ (rec : σ → Option ρ) (s : σ), P s → (∀ s', P s' → cnt s' = cnt s + 1 → Cn (cnt s) → TQ (rec s') Q) → TQ (body rec s) Q) : ∀ (n : Nat) (s : σ), P s → 2147483648 ≤ (n : Int) + (cnt s).toInt → TQ (lp body n s) Q := by
  intro n
  induction n with
  | zero =>
    intro s _ h
    have h2 : (cnt s).toInt < 2 ^ 31 := Int32.toInt_lt _
    exact absurd h (by simp; omega)
  | succ n ih =>
    intro s hP h
    show TQ (body (lp body n) s) Q
    refine hb (lp body n) s hP (fun s' hP' e hc => ih s' hP' ?_)
    rw [e, cn_1 hc]
    push_cast at h
    omega
theorem lp_cnt {σ ρ : Type} {body : (σ → Option ρ) → σ → Option ρ} (cnt : σ → Int32) (hb : ∀ (rec : σ → Option ρ) (s : σ), (∀ s', cnt s' = cnt s + 1 → Cn (cnt s) → Tot (rec s')) → Tot (body rec s)) (s : σ) : Tot (lp body FU s) := by
  have h2 : -2 ^ 31 ≤ (cnt s).toInt := Int32.le_toInt _
  have key : TQ (lp body FU s) (fun _ => True) := lp_cntQ cnt (fun _ => True) (fun rec s _ hk => by
    obtain ⟨q, e⟩ := hb rec s (fun s' e hc => tq_t (hk s' trivial e hc))
    exact ⟨q, e, trivial⟩) FU s trivial (by show (2147483648 : Int) ≤ ((1000000000000 : Nat) : Int) + _; omega)
  exact tq_t key
theorem inb_of {i : Int32} {n : Nat} (h0 : ¬ i < 0) (h1 : i < Int32.ofNat n) (hn : n < 2 ^ 31) : inb i n = true := decide_eq_true (in_of h0 (Int32.not_le.mpr h1) hn)
theorem inb_of8 {i : Int32} (h0 : ¬ i < 0) (h1 : i < (8000 : Int32)) : inb i 8000 = true := inb_of (n := 8000) h0 h1 (by decide)
theorem FU_ok (v : Int32) : 2147483648 ≤ ((FU : Nat) : Int) + v.toInt := by
  have h2 : -2 ^ 31 ≤ v.toInt := Int32.le_toInt _
  show (2147483648 : Int) ≤ ((1000000000000 : Nat) : Int) + _
  omega
theorem sgn_in {v1 v3 : Int32} (h1 : ¬ v1 < 0) (h3 : ¬ v3 < 0) (h : v3 < (8000 : Int32) - v1) : inb (v1 + v3) 8000 = true := by
  obtain ⟨a, ha, rfl⟩ := nI_of h1
  obtain ⟨b, hb, rfl⟩ := nI_of h3
  have e := Int32.lt_iff_toInt_lt.mp h
  have e8 : (8000 : Int32).toInt = 8000 := by decide
  rw [Int32.toInt_sub, nI_toInt ha, nI_toInt hb, e8, Int.bmod_eq_of_le (by omega) (by omega)] at e
  rw [nI_add]
  exact inb_nI (by omega) (by decide)
