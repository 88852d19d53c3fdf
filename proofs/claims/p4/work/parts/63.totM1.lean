/-! totality of the reference: readers -/
theorem nI_mul (a b : Nat) : nI a * nI b = nI (a * b) := (Int32.ofNat_mul a b).symm
theorem lp_m {σ ρ : Type} {Q : ρ → Prop} {body : (σ → Option ρ) → σ → Option ρ} (I : σ → Prop) (μ : σ → Nat) (hb : ∀ (rec : σ → Option ρ) (s : σ), I s → (∀ s', I s' → μ s' < μ s → TQ (rec s') Q) → TQ (body rec s) Q) : ∀ (n : Nat) (s : σ), I s → μ s < n → TQ (lp body n s) Q := by
  intro n
  induction n with
  | zero => intro s _ h; exact absurd h (Nat.not_lt_zero _)
  | succ n ih =>
    intro s hI h
    show TQ (body (lp body n) s) Q
    exact hb (lp body n) s hI (fun s' hI' h' => ih s' hI' (by omega))
theorem tq_l {α β : Type} {Q : β → Prop} {a : α} {k : α → Option β} (h : TQ (k a) Q) : TQ (letq a k) Q := h
def Rt (mc : Tmc) : Prop := mc.2.2.1 = 0
theorem rt_0 {mc : Tmc} (h : X12_isRight mc = 0) : ¬ Rt mc := by
  intro r
  unfold X12_isRight at h
  rw [if_pos (show mc.2.2.1 = 0 from r)] at h
  exact absurd h (by decide)
theorem rt_1 {mc : Tmc} (h : ¬ X12_isRight mc = 0) : Rt mc := by
  by_cases r : mc.2.2.1 = 0
  · exact r
  · unfold X12_isRight at h
    rw [if_neg r] at h
    exact absurd rfl h
def CU (mc : Tmc) (a l : Nat) : Prop := mc.1 = nI a ∧ mc.2.1 = nI l ∧ a ≤ 8000 ∧ l ≤ 8000
theorem CU.fail {mc : Tmc} {a l : Nat} {x y : Int32} (h : CU mc a l) : CU (X12_fail mc x y) a l := by
  unfold X12_fail
  by_cases r : mc.2.2.1 = 0
  · rw [if_pos r]; exact h
  · rw [if_neg r]; exact h
theorem rt_fail {mc : Tmc} {x y : Int32} (hx : ¬ x = 0) : ¬ Rt (X12_fail mc x y) := by
  unfold Rt X12_fail
  by_cases r : mc.2.2.1 = 0
  · rw [if_pos r]; exact hx
  · rw [if_neg r]; exact r
def By (f : Nat → Int32) : Prop := ∀ j, ∃ b, b < 256 ∧ f j = nI b
def MB (mb : Tmb) (w z : Nat) : Prop := mb.2.1 = nI w ∧ w ≤ 1 ∧ mb.2.2 = nI z ∧ z ≤ 8000 ∧ By mb.1
theorem R_byteOf {mb : Tmb} {w z k : Nat} {v : Int32} (hB : MB mb w z) (hv : v = nI k) (hk : k < 8000) : TQ (X12_byteOf mb v) (fun q => q = mb.1 (8000 * w + k)) := by
  have hw := hB.2.1
  have e : (8000 : Int32) * mb.2.1 + v = nI (8000 * w + k) := by
    rw [hB.1, hv, show (8000 : Int32) = nI 8000 from rfl, nI_mul, nI_add]
  unfold X12_byteOf
  rw [e]
  exact tq_g (inb_nI (by omega) (by decide)) (tq_s (by rw [nI_clamp (by omega)]))
theorem lN_ltB {a b : Nat} (ha : a < 2 ^ 63) (hb : b < 2 ^ 63) : lN a < lN b ↔ a < b := by
  rw [Int64.lt_iff_toInt_lt, show (lN a).toInt = (a : Int) from Int64.toInt_ofNat_of_lt ha, show (lN b).toInt = (b : Int) from Int64.toInt_ofNat_of_lt hb]
  omega
theorem lN_nneg {a : Nat} (ha : a < 2 ^ 63) : ¬ lN a < 0 := by
  rw [Int64.lt_iff_toInt_lt, show (lN a).toInt = (a : Int) from Int64.toInt_ofNat_of_lt ha, show (0 : Int64).toInt = 0 by decide]
  omega
theorem sh8b {a b : Nat} (ha : a < 2 ^ 55) (hb : b < 256) : (lN a <<< (((8 : Int32)).toInt64 &&& 63)) ||| (nI b).toInt64 = lN (a * 256 + b) := by
  have e8 : (((8 : Int32)).toInt64 &&& 63) = 8 := by decide
  rw [e8, nI_l (by omega)]
  apply Int64.toBitVec_inj.mp
  rw [Int64.toBitVec_or, Int64.toBitVec_shiftLeft]
  have e1 : (8 : Int64).toBitVec.smod 64 = BitVec.ofNat 64 8 := by decide
  rw [e1]
  have t : ∀ n, (lN n).toBitVec = BitVec.ofNat 64 n := fun n => rfl
  rw [t, t, t]
  apply BitVec.eq_of_toNat_eq
  rw [BitVec.toNat_or, BitVec.shiftLeft_eq', BitVec.toNat_shiftLeft]
  simp only [BitVec.toNat_ofNat]
  have h8 : 8 % 2 ^ 64 = 8 := by decide
  rw [h8, Nat.mod_eq_of_lt (show a < 2 ^ 64 by omega), Nat.mod_eq_of_lt (show b < 2 ^ 64 by omega), Nat.mod_eq_of_lt (show a * 256 + b < 2 ^ 64 by omega), Nat.shiftLeft_eq, Nat.mod_eq_of_lt (show a * 2 ^ 8 < 2 ^ 64 by omega)]
  have := Nat.shiftLeft_add_eq_or_of_lt (a := a) (show b < 2 ^ 8 by omega)
  rw [Nat.shiftLeft_eq] at this
  rw [← this]
theorem R_numberAt {mb : Tmb} {w z p n : Nat} {v1 v2 : Int32} (hB : MB mb w z) (h1 : v1 = nI p) (h2 : v2 = nI n) (hn : n ≤ 8) (hp : p + n ≤ 8000) : TQ (X12_numberAt mb v1 v2) (fun v => n ≤ 7 → ∃ a, a < 256 ^ n ∧ v = lN a) := by
  unfold X12_numberAt X12_numberAt_7
  refine lp_m (fun st => st.1 = nI p ∧ ∃ j, j ≤ n ∧ st.2.2 + 1 = nI j ∧ (n ≤ 7 → ∃ a, a < 256 ^ (n - j) ∧ st.2.1 = lN a)) (fun st => (st.2.2 + 1).toNatClampNeg) (fun rec st hI hk => ?_) FU (v1, 0, v2 - 1) ⟨h1, n, Nat.le_refl n, ?_, fun _ => ⟨0, Nat.pos_of_ne_zero (by simp), rfl⟩⟩ ?_
  · obtain ⟨s1, s3, s5⟩ := st
    obtain ⟨e1, j, hj, e5, ha⟩ := hI
    have e1 : s1 = nI p := e1
    have e5 : s5 + 1 = nI j := e5
    show TQ (X12_numberAt_7b mb (fun a0 a1 a2 => rec (a0, a1, a2)) s1 s3 s5) _
    unfold X12_numberAt_7b
    have e5' : s5 = nI j - 1 := by rw [← e5, Int32.add_sub_cancel]
    cases j with
    | zero =>
      rw [if_pos (by rw [e5']; decide)]
      exact tq_s (fun h7 => by simpa using ha h7)
    | succ j =>
      have e6 : s5 = nI j := by rw [e5', nI_pred]
      rw [if_neg (by rw [e6]; exact nI_pos (by omega))]
      refine tq_b (R_byteOf hB (show s1 + s5 = nI (p + j) by rw [e1, e6, nI_add]) (by omega)) (fun q hq => ?_)
      have em : s5 + (-1 : Int32) + 1 = nI j := by
        rw [e6, Int32.add_assoc, show (-1 : Int32) + 1 = 0 by decide, Int32.add_zero]
      refine hk _ ⟨e1, j, by omega, em, fun h7 => ?_⟩ ?_
      · obtain ⟨a, ha1, ha2⟩ := ha h7
        have ha2 : s3 = lN a := ha2
        obtain ⟨b, hb, eb⟩ := hB.2.2.2.2 (8000 * w + (p + j))
        have hpow : 256 ^ (n - (j + 1)) ≤ 256 ^ 6 := Nat.pow_le_pow_right (by decide) (by omega)
        refine ⟨a * 256 + b, ?_, ?_⟩
        · have : 256 ^ (n - j) = 256 ^ (n - (j + 1)) * 256 := by rw [← Nat.pow_succ]; congr 1; omega
          omega
        · show (s3 <<< _) ||| q.toInt64 = _
          rw [hq, eb, ha2]
          exact sh8b (by omega) hb
      · show (s5 + (-1 : Int32) + 1).toNatClampNeg < (s5 + 1).toNatClampNeg
        rw [em, e5, nI_clamp (by omega), nI_clamp (by omega)]
        omega
  · show v2 - 1 + 1 = nI n
    rw [Int32.sub_add_cancel, h2]
  · show (v2 - 1 + 1).toNatClampNeg < 1000000000000
    rw [Int32.sub_add_cancel, h2, nI_clamp (by omega)]
    omega
theorem R_number {mc : Tmc} {mb : Tmb} {w z a l n : Nat} {v1 : Int32} (hC : CU mc a l) (hB : MB mb w z) (h1 : v1 = nI n) (hn : n ≤ 8) : TQ (X12_number mc mb v1) (fun q => ∃ a', CU q.2 a' l ∧ a ≤ a' ∧ (n ≤ 7 → ∃ x, x < 256 ^ n ∧ q.1 = lN x) ∧ (Rt q.2 → a' = a + n ∧ Rt mc)) := by
  obtain ⟨c1, c2, ha, hl⟩ := hC
  have z0 : n ≤ 7 → ∃ x, x < 256 ^ n ∧ (0 : Int64) = lN x := fun _ => ⟨0, Nat.pos_of_ne_zero (by simp), rfl⟩
  unfold X12_number
  refine tq_i (fun r => tq_s ⟨a, ⟨c1, c2, ha, hl⟩, Nat.le_refl a, z0, fun h => absurd h (rt_0 r)⟩) (fun r => ?_)
  have r := rt_1 r
  have e : mc.1 + v1 = nI (a + n) := by rw [c1, h1, nI_add]
  rw [e, c2]
  refine tq_i (fun c => tq_l (tq_s ⟨a, CU.fail ⟨c1, c2, ha, hl⟩, Nat.le_refl a, z0, fun h => absurd h (rt_fail (by decide))⟩)) (fun c => ?_)
  have hle : a + n ≤ l := by
    rcases Nat.lt_or_ge l (a + n) with q | q
    · exact absurd (nI_lt q (by omega)) c
    · exact q
  exact tq_b (R_numberAt hB c1 h1 hn (by omega)) (fun q hq => tq_s ⟨a + n, ⟨rfl, rfl, by omega, hl⟩, by omega, hq, fun _ => ⟨rfl, r⟩⟩)
theorem R_leb {mc : Tmc} {mb : Tmb} {w z a l : Nat} {v1 : Int32} (hC : CU mc a l) (hB : MB mb w z) : TQ (X12_leb mc mb v1) (fun q => ∃ a', CU q.2 a' l ∧ a ≤ a' ∧ (Rt q.2 → a < a' ∧ Rt mc)) := by
  obtain ⟨c1, c2, ha, hl⟩ := id hC
  unfold X12_leb
  refine tq_i (fun r => tq_s ⟨a, hC, Nat.le_refl a, fun h => absurd h (rt_0 r)⟩) (fun r => ?_)
  have r := rt_1 r
  unfold X12_leb_25
  refine lp_m (fun st => st.2.2.1 = nI a ∧ ∃ j, j ≤ 10 ∧ CU st.1 (a + j) l ∧ Rt st.1 ∧ st.2.2.2.2.1 = nI j ∧ (st.2.2.2.2.2.1 = 0 → 0 < j)) (fun st => 10 - st.2.2.2.2.1.toNatClampNeg) (fun rec st hI hk => ?_) FU _ ⟨c1, 0, by decide, hC, r, rfl, fun h => absurd h (by show ¬ (1 : Int32) = 0; decide)⟩ (by show 10 - _ < 1000000000000; omega)
  obtain ⟨m, s1, s2, s3, s5, s6, s7⟩ := st
  obtain ⟨e2, j, hj, hm, hr, e5, h6⟩ := hI
  have e2 : s2 = nI a := e2
  have e5 : s5 = nI j := e5
  have hm : CU m (a + j) l := hm
  have hr : Rt m := hr
  have h6 : s6 = 0 → 0 < j := h6
  show TQ (X12_leb_25b mb (fun a0 a1 a2 a3 a4 a5 a6 => rec (a0, a1, a2, a3, a4, a5, a6)) m s1 s2 s3 s5 s6 s7) _
  unfold X12_leb_25b
  have t48 : TQ (X12_leb_48 mb m s2) (fun q => ∃ a', CU q.2 a' l ∧ a ≤ a' ∧ (Rt q.2 → a < a' ∧ Rt mc)) := by
    unfold X12_leb_48
    exact tq_l (tq_s ⟨a, CU.fail (show CU (s2, m.2.1, m.2.2.1, m.2.2.2) a l from ⟨e2, hm.2.1, ha, hl⟩), Nat.le_refl a, fun h => absurd h (rt_fail (by decide))⟩)
  have good : s6 = 0 → ∀ x : Int64, TQ (some (x, m)) (fun q => ∃ a', CU q.2 a' l ∧ a ≤ a' ∧ (Rt q.2 → a < a' ∧ Rt mc)) := fun h x => tq_s ⟨a + j, hm, by omega, fun _ => ⟨by have := h6 h; omega, r⟩⟩
  refine tq_i (fun c6 => ?_) (fun c6 => ?_)
  · refine tq_i (fun _ => good c6 _) (fun _ => ?_)
    refine tq_i (fun _ => good c6 _) (fun _ => ?_)
    exact tq_i (fun _ => good c6 _) (fun _ => good c6 _)
  · refine tq_i (fun c1' => ?_) (fun _ => t48)
    refine tq_i (fun _ => t48) (fun c10 => ?_)
    have hlt : a + j < l := by
      rw [hm.1, hm.2.1] at c1'
      exact (nI_ltI (by omega) (by omega)).mp c1'
    have hj10 : j < 10 := by
      rcases Nat.lt_or_ge j 10 with q | q
      · exact q
      · exact absurd (by rw [e5, show j = 10 by omega]; rfl) c10
    have e1 : m.1 + (1 : Int32) = nI (a + (j + 1)) := by rw [hm.1, nI_1]; rfl
    have step : ∀ (x : Int64) (y b : Int32), TQ (X12_leb_106 mb (fun a0 a1 a2 a3 a4 a5 a6 => rec (a0, a1, a2, a3, a4, a5, a6)) ((m.1 + (1 : Int32)), m.2.1, m.2.2.1, m.2.2.2) s1 s2 x s5 b) (fun q => ∃ a', CU q.2 a' l ∧ a ≤ a' ∧ (Rt q.2 → a < a' ∧ Rt mc)) := by
      intro x y b
      have st2 : ∀ z0 : Int32, TQ (X12_leb_122 mb (fun a0 a1 a2 a3 a4 a5 a6 => rec (a0, a1, a2, a3, a4, a5, a6)) ((m.1 + (1 : Int32)), m.2.1, m.2.2.1, m.2.2.2) s1 s2 x (s5 + (1 : Int32)) b z0) (fun q => ∃ a', CU q.2 a' l ∧ a ≤ a' ∧ (Rt q.2 → a < a' ∧ Rt mc)) := by
        intro z0
        unfold X12_leb_122
        refine hk _ ⟨e2, j + 1, by omega, ⟨e1, hm.2.1, by omega, hl⟩, hr, by show s5 + 1 = _; rw [e5, nI_1], fun _ => by omega⟩ ?_
        show 10 - (s5 + 1).toNatClampNeg < 10 - s5.toNatClampNeg
        rw [e5, nI_1, nI_clamp (by omega), nI_clamp (by omega)]
        omega
      unfold X12_leb_106
      exact tq_i (fun _ => st2 _) (fun _ => st2 _)
    refine tq_b (R_byteOf hB hm.1 (by omega)) (fun q hq => ?_)
    exact tq_i (fun _ => step _ 0 _) (fun _ => step _ 0 _)
theorem R_uleb {mc : Tmc} {mb : Tmb} {w z a l : Nat} (hC : CU mc a l) (hB : MB mb w z) : TQ (X12_uleb mc mb) (fun q => ∃ a', CU q.2 a' l ∧ a ≤ a' ∧ (Rt q.2 → a < a' ∧ Rt mc)) := by
  unfold X12_uleb
  exact tq_b (R_leb hC hB) (fun q hq => tq_s hq)
theorem R_stringAt {mb : Tmb} {w z p e : Nat} {v1 v2 : Int32} (hB : MB mb w z) (h1 : v1 = nI p) (h2 : v2 = nI e) (hp : p ≤ 8000) (he : e ≤ 8000) : TQ (X12_stringAt mb v1 v2) (fun q => q = -1 ∨ ∃ n, q = nI n ∧ p + n < e ∧ mb.1 (8000 * w + (p + n)) = 0) := by
  unfold X12_stringAt X12_stringAt_2
  refine lp_m (fun st => st.1 = nI p ∧ st.2.1 = nI e ∧ ∃ k, p ≤ k ∧ k ≤ 8000 ∧ st.2.2 = nI k) (fun st => 8000 - st.2.2.toNatClampNeg) (fun rec st hI hk => ?_) FU (v1, v2, v1) ⟨h1, h2, p, Nat.le_refl p, hp, h1⟩ (by show 8000 - _ < 1000000000000; omega)
  obtain ⟨s1, s2, s3⟩ := st
  obtain ⟨e1, e2, k, hpk, hk8, e3⟩ := hI
  have e1 : s1 = nI p := e1
  have e2 : s2 = nI e := e2
  have e3 : s3 = nI k := e3
  subst e1 e2 e3
  show TQ (X12_stringAt_2b mb (fun a0 a1 a2 => rec (a0, a1, a2)) (nI p) (nI e) (nI k)) _
  unfold X12_stringAt_2b X12_stringAt_21
  refine tq_i (fun c => ?_) (fun c => ?_)
  · have hke : k < e := (nI_ltI (by omega) (by omega)).mp c
    refine tq_b (R_byteOf hB rfl (by omega)) (fun q hq => ?_)
    refine tq_i (fun c0 => ?_) (fun _ => ?_)
    · rw [if_pos c]
      refine tq_s (Or.inr ⟨k - p, ?_, by omega, ?_⟩)
      · rw [show nI k = nI (k - p) + nI p by rw [nI_add, Nat.sub_add_cancel hpk], Int32.add_sub_cancel]
      · rw [show p + (k - p) = k by omega, ← hq, c0]
    · refine hk _ ⟨rfl, rfl, k + 1, by omega, by omega, by show nI k + 1 = _; rw [nI_1]⟩ ?_
      show 8000 - (nI k + 1).toNatClampNeg < 8000 - (nI k).toNatClampNeg
      rw [nI_1, nI_clamp (by omega), nI_clamp (by omega)]
      omega
  · rw [if_neg c]
    exact tq_s (Or.inl rfl)
theorem R_string {mc : Tmc} {mb : Tmb} {w z a l : Nat} (hC : CU mc a l) (hB : MB mb w z) : TQ (X12_string mc mb) (fun q => ∃ a', CU q.2 a' l ∧ a ≤ a' ∧ (Rt q.2 → a < a' ∧ Rt mc ∧ q.1 = nI a)) := by
  obtain ⟨c1, c2, ha, hl⟩ := id hC
  unfold X12_string
  refine tq_i (fun r => tq_s ⟨a, hC, Nat.le_refl a, fun h => absurd h (rt_0 r)⟩) (fun r => ?_)
  have r := rt_1 r
  refine tq_b (R_stringAt hB c1 c2 ha hl) (fun q hq => ?_)
  refine tq_i (fun c => tq_l (tq_s ⟨a, hC.fail, Nat.le_refl a, fun h => absurd h (rt_fail (by decide))⟩)) (fun c => ?_)
  rcases hq with h | ⟨n, hn, hlt, -⟩
  · exact absurd h c
  · refine tq_s ⟨a + (n + 1), ⟨?_, c2, by omega, hl⟩, by omega, fun _ => ⟨by omega, r, c1⟩⟩
    show mc.1 + (q + 1) = _
    rw [c1, hn, nI_1, nI_add]
theorem R_must {mc : Tmc} {mb : Tmb} {w z a l n : Nat} {v1 v2 : Int32} (hC : CU mc a l) (hB : MB mb w z) (h1 : v1 = nI n) (hn : n ≤ 8) : TQ (X12_must mc mb v1 v2) (fun q => ∃ a', CU q a' l ∧ a ≤ a' ∧ (Rt q → Rt mc)) := by
  unfold X12_must
  refine tq_b (R_number hC hB h1 hn) (fun q hq => ?_)
  obtain ⟨a', hc, hle, -, hr⟩ := hq
  refine tq_i (fun r => tq_s ⟨a', hc, hle, fun h => absurd h (rt_0 r)⟩) (fun r => ?_)
  exact tq_i (fun _ => tq_s ⟨a', hc, hle, fun h => (hr h).2⟩) (fun _ => tq_l (tq_s ⟨a', hc.fail, hle, fun h => absurd h (rt_fail (by decide))⟩))
theorem R_mustLeb {mc : Tmc} {mb : Tmb} {w z a l : Nat} {v1 : Int32} (hC : CU mc a l) (hB : MB mb w z) : TQ (X12_mustLeb mc mb v1) (fun q => ∃ a', CU q a' l ∧ a ≤ a' ∧ (Rt q → Rt mc)) := by
  unfold X12_mustLeb
  refine tq_b (R_uleb hC hB) (fun q hq => ?_)
  obtain ⟨a', hc, hle, hr⟩ := hq
  refine tq_i (fun r => tq_s ⟨a', hc, hle, fun h => absurd h (rt_0 r)⟩) (fun r => ?_)
  exact tq_i (fun _ => tq_s ⟨a', hc, hle, fun h => (hr h).2⟩) (fun _ => tq_l (tq_s ⟨a', hc.fail, hle, fun h => absurd h (rt_fail (by decide))⟩))
