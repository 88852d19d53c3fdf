theorem inb_of {i : Int32} {n : Nat} (h0 : ¬ i < 0) (h1 : i < Int32.ofNat n) (hn : n < 2 ^ 31) : inb i n = true := by
  have h := in_of h0 (Int32.not_le.mpr h1) hn
  exact decide_eq_true (p := ¬ (i < 0 ∨ n ≤ i.toNatClampNeg)) h
theorem lp_0 {σ ρ : Type} (body : (σ → Option ρ) → σ → Option ρ) (s : σ) : lp body 0 s = none := rfl
theorem lp_s {σ ρ : Type} (body : (σ → Option ρ) → σ → Option ρ) (n : Nat) (s : σ) : lp body (n + 1) s = body (lp body n) s := rfl
/-- the byte that the class reads -/
def byC (tp : Nat → Int32) (i : Int32) : Int32 := if i < 0 then 0 else if i < 8000 then tp i.toNatClampNeg &&& 255 else 0
theorem tX1_byteAt (tp : Ttp) (i : Int32) : X1_byteAt tp i = some (byC tp i) := by
  unfold X1_byteAt byC
  by_cases h0 : i < 0
  · simp [h0]
  · by_cases h1 : i < 8000
    · have h2 : inb i 8000 = true := inb_of h0 h1 (by decide)
      simp [h0, h1, h2]
    · simp [h0, h1]
/-- a loop that ends: an invariant and a measure that falls -/
theorem lp_tot {σ ρ : Type} (body : (σ → Option ρ) → σ → Option ρ) (I : σ → Prop) (μ : σ → Nat) (P : ρ → Prop) (h : ∀ (k : σ → Option ρ) (s : σ), I s → (∀ s', I s' → μ s' < μ s → ∃ r, k s' = some r ∧ P r) → ∃ r, body k s = some r ∧ P r) : ∀ (n : Nat) (s : σ), I s → μ s < n → ∃ r, lp body n s = some r ∧ P r := by
  intro n
  induction n with
  | zero => intro s _ hm; omega
  | succ n ih =>
    intro s hi hm
    rw [lp_s]
    exact h (lp body n) s hi (fun s' hi' hm' => ih s' hi' (by omega))
/-- two loops in step: what one turn keeps, all turns keep -/
theorem lp_two {σ ρ σ' ρ' : Type} (body : (σ → Option ρ) → σ → Option ρ) (body' : (σ' → Option ρ') → σ' → Option ρ') (I : σ → σ' → Prop) (μ : σ → Nat) (P : ρ → ρ' → Prop)
    (h : ∀ (k : σ → Option ρ) (k' : σ' → Option ρ') (s : σ) (s' : σ'), I s s' → (∀ t t', I t t' → μ t < μ s → ∃ r r', k t = some r ∧ k' t' = some r' ∧ P r r') → ∃ r r', body k s = some r ∧ body' k' s' = some r' ∧ P r r') :
    ∀ (n n' : Nat) (s : σ) (s' : σ'), I s s' → μ s < n → μ s < n' → ∃ r r', lp body n s = some r ∧ lp body' n' s' = some r' ∧ P r r' := by
  intro n
  induction n with
  | zero => intro n' s s' _ hm _; omega
  | succ n ih =>
    intro n' s s' hi hm hm'
    cases n' with
    | zero => omega
    | succ n' =>
      rw [lp_s, lp_s]
      exact h (lp body n) (lp body' n') s s' hi (fun t t' hi' hlt => ih n' t t' hi' (by omega) (by omega))
-- the smallest models, as equations
theorem tX1_sound (cu : Tcu) : X1_sound cu = if cu.2.2.2.1 = 0 then 1 else 0 := by
  unfold X1_sound; rfl
theorem tX12_isRight (mc : Tmc) : X12_isRight mc = if mc.2.2.1 = 0 then 1 else 0 := by
  unfold X12_isRight; rfl
theorem tX1_refuse (cu : Tcu) (a b : Int32) : X1_refuse cu a b = if cu.2.2.2.1 = 0 then (cu.1, cu.2.1, cu.2.2.1, a, b) else cu := by
  unfold X1_refuse
  by_cases h : cu.2.2.2.1 = 0 <;> simp [h]
theorem tX12_fail (mc : Tmc) (a b : Int32) : X12_fail mc a b = if mc.2.2.1 = 0 then (mc.1, mc.2.1, a, b) else mc := by
  unfold X12_fail
  by_cases h : mc.2.2.1 = 0 <;> simp [h]
theorem tX1_within (cu : Tcu) (a b : Int32) : X1_within cu a b = (cu.1, a, b, cu.2.2.2.1, cu.2.2.2.2) := rfl
theorem tX1_hasLeft (cu : Tcu) (n : Int64) : X1_hasLeft cu n = if n < 0 then 0 else if (cu.2.2.1 - cu.2.1).toInt64 < n then 0 else 1 := by
  unfold X1_hasLeft; rfl
/-- the byte that the reference reads, where there is one -/
theorem tX12_byteOf (mb : Tmb) (i : Int32) (h : inb (8000 * mb.2.1 + i) 16000 = true) : X12_byteOf mb i = some (mb.1 (8000 * mb.2.1 + i).toNatClampNeg) := by
  unfold X12_byteOf
  rw [if_pos h]
/-- the class's number of n bytes, the lowest first -/
def cV (tp : Nat → Int32) (p : Int32) : Nat → Int64
  | 0 => 0
  | i + 1 => cV tp p i ||| ((byC tp (p + nI i)).toInt64 <<< (((8 : Int32) * nI i).toInt64 &&& 63))
theorem tX1_numberAt (tp : Ttp) (p : Int32) (n : Nat) (hn : n < 2 ^ 31) : X1_numberAt tp p (nI n) = some (cV tp p n) := by
  have key : ∀ (k i m : Nat), i + k = n → k < m → X1_numberAt_5 tp m (p, nI n, cV tp p i, nI i) = some (cV tp p n) := by
    intro k
    induction k with
    | zero =>
      intro i m hi hm
      have hi : i = n := by omega
      subst hi
      cases m with
      | zero => omega
      | succ m =>
        show X1_numberAt_5b tp (fun a0 a1 a2 a3 => X1_numberAt_5 tp m (a0, a1, a2, a3)) p (nI i) (cV tp p i) (nI i) = _
        unfold X1_numberAt_5b
        rw [if_neg Int32.lt_irrefl]
    | succ k ih =>
      intro i m hi hm
      cases m with
      | zero => omega
      | succ m =>
        show X1_numberAt_5b tp (fun a0 a1 a2 a3 => X1_numberAt_5 tp m (a0, a1, a2, a3)) p (nI n) (cV tp p i) (nI i) = _
        have hs : ∀ z : Int64, z = (byC tp (p + nI i)).toInt64 → X1_numberAt_48 tp (fun a0 a1 a2 a3 => X1_numberAt_5 tp m (a0, a1, a2, a3)) p (nI n) (cV tp p i) (nI i) z = some (cV tp p n) := by
          intro z hz
          subst hz
          unfold X1_numberAt_48
          rw [nI_1 i]
          exact ih (i + 1) m (by omega) (by omega)
        unfold X1_numberAt_5b
        rw [if_pos (nI_lt (by omega) hn)]
        by_cases h0 : p + nI i < 0
        · rw [if_pos h0]
          exact hs 0 (by unfold byC; rw [if_pos h0]; rfl)
        · rw [if_neg h0]
          by_cases h1 : p + nI i < 8000
          · rw [if_pos h1, if_pos (inb_of h0 h1 (by decide))]
            exact hs _ (by unfold byC; rw [if_neg h0, if_pos h1])
          · rw [if_neg h1]
            exact hs 0 (by unfold byC; rw [if_neg h0, if_neg h1]; rfl)
  unfold X1_numberAt
  exact key n 0 FU (by omega) (by show n < 1000000000000; omega)
/-- the byte that the reference reads at a place of the file -/
def byR (mb : Tmb) (i : Int32) : Int32 := mb.1 (8000 * mb.2.1 + i).toNatClampNeg
def okR (mb : Tmb) (i : Int32) : Prop := inb (8000 * mb.2.1 + i) 16000 = true
/-- the reference's number of n bytes, the highest first -/
def rV (mb : Tmb) (p : Int32) : Nat → Int64 → Int64
  | 0, v => v
  | i + 1, v => rV mb p i ((v <<< (((8 : Int32)).toInt64 &&& 63)) ||| (byR mb (p + nI i)).toInt64)
theorem tX12_numberAt (mb : Tmb) (p : Int32) (n : Nat) (hn : n < 2 ^ 31) (hb : ∀ i, i < n → okR mb (p + nI i)) : X12_numberAt mb p (nI n) = some (rV mb p n 0) := by
  have key : ∀ (k m : Nat) (v : Int64), k ≤ n → k < m → X12_numberAt_7 mb m (p, v, nI k - 1) = some (rV mb p k v) := by
    intro k
    induction k with
    | zero =>
      intro m v _ hm
      cases m with
      | zero => omega
      | succ m =>
        show X12_numberAt_7b mb (fun a0 a1 a2 => X12_numberAt_7 mb m (a0, a1, a2)) p v (nI 0 - 1) = _
        unfold X12_numberAt_7b
        rw [if_pos (by decide)]
        rfl
    | succ k ih =>
      intro m v hk hm
      cases m with
      | zero => omega
      | succ m =>
        show X12_numberAt_7b mb (fun a0 a1 a2 => X12_numberAt_7 mb m (a0, a1, a2)) p v (nI (k + 1) - 1) = _
        unfold X12_numberAt_7b
        rw [nI_pred k, if_neg (nI_pos (by omega)), tX12_byteOf mb _ (hb k (by omega))]
        rw [Option.bind_some]
        have e1 : nI k + (-1 : Int32) = nI k - 1 := (Int32.sub_eq_add_neg (a := nI k) (b := 1)).symm
        rw [e1]
        exact ih m _ (by omega) (by omega)
  unfold X12_numberAt
  exact key n FU 0 (Nat.le_refl n) (by show n < 1000000000000; omega)
theorem sh8 (k : Nat) (hk : k < 8) : (((8 : Int32) * nI k).toInt64 &&& 63) = Int64.ofNat (8 * k) := by
  have : ∀ k, k < 8 → (((8 : Int32) * nI k).toInt64 &&& 63) = Int64.ofNat (8 * k) := by decide
  exact this k hk
theorem sh_sh (x : Int64) (a b : Nat) (h : a + b < 64) : (x <<< Int64.ofNat a) <<< Int64.ofNat b = x <<< Int64.ofNat (a + b) := by
  apply Int64.toBitVec_inj.mp
  have e : ∀ c, c < 64 → (Int64.ofNat c).toBitVec.smod 64 = BitVec.ofNat 64 c := by decide
  simp only [Int64.toBitVec_shiftLeft]
  rw [e a (by omega), e b (by omega), e (a + b) h]
  simp only [BitVec.shiftLeft_eq', BitVec.toNat_ofNat]
  rw [Nat.mod_eq_of_lt (by omega), Nat.mod_eq_of_lt (by omega), Nat.mod_eq_of_lt (by omega), ← BitVec.shiftLeft_add]
theorem rV_eq (tp : Ttp) (mb : Tmb) (p : Int32) : ∀ (n : Nat) (v : Int64), n ≤ 7 → (∀ i, i < n → byC tp (p + nI i) = byR mb (p + nI i)) → rV mb p n v = (v <<< Int64.ofNat (8 * n)) ||| cV tp p n := by
  intro n
  induction n with
  | zero =>
    intro v _ _
    have e : v <<< Int64.ofNat (8 * 0) = v := by
      show v <<< (0 : Int64) = v
      simp
    rw [e]
    show v = v ||| 0
    simp
  | succ i ih =>
    intro v hi hb
    have e8 : (((8 : Int32)).toInt64 &&& 63) = Int64.ofNat 8 := by decide
    show rV mb p i ((v <<< (((8 : Int32)).toInt64 &&& 63)) ||| (byR mb (p + nI i)).toInt64) = (v <<< Int64.ofNat (8 * (i + 1))) ||| (cV tp p i ||| ((byC tp (p + nI i)).toInt64 <<< (((8 : Int32) * nI i).toInt64 &&& 63)))
    rw [ih _ (by omega) (fun j hj => hb j (by omega)), e8, sh8 i (by omega), Int64.shiftLeft_or, sh_sh v 8 (8 * i) (by omega), hb i (by omega)]
    rw [show 8 + 8 * i = 8 * (i + 1) by omega, Int64.or_assoc, Int64.or_comm (cV tp p i)]
theorem rV_cV (tp : Ttp) (mb : Tmb) (p : Int32) (n : Nat) (hn : n ≤ 8) (hb : ∀ i, i < n → byC tp (p + nI i) = byR mb (p + nI i)) : rV mb p n 0 = cV tp p n := by
  cases n with
  | zero => rfl
  | succ i =>
    show rV mb p i (((0 : Int64) <<< (((8 : Int32)).toInt64 &&& 63)) ||| (byR mb (p + nI i)).toInt64) = cV tp p i ||| ((byC tp (p + nI i)).toInt64 <<< (((8 : Int32) * nI i).toInt64 &&& 63))
    rw [show ((0 : Int64) <<< (((8 : Int32)).toInt64 &&& 63)) = 0 by decide, Int64.zero_or, rV_eq tp mb p i _ (by omega) (fun j hj => hb j (by omega)), sh8 i (by omega), hb i (by omega), Int64.or_comm]
