/-! totality of the reference: symbols, lengths, abbreviations -/
theorem nI_div {a b : Nat} (ha : a < 2 ^ 31) (hb : b < 2 ^ 31) : nI a / nI b = nI (a / b) := by
  apply Int32.toInt_inj.mp
  have hq : a / b ≤ a := Nat.div_le_self a b
  rw [Int32.toInt_div, nI_toInt ha, nI_toInt hb, nI_toInt (by omega)]
  rw [show ((a : Int).tdiv (b : Int)) = ((a / b : Nat) : Int) from rfl]
  generalize a / b = q at hq ⊢
  exact Int.bmod_eq_of_le (by omega) (by omega)
theorem nI_neg1 {n : Nat} (h : n < 2 ^ 31) : ¬ nI n = -1 := by
  intro e
  have := congrArg Int32.toInt e
  rw [nI_toInt h, show (-1 : Int32).toInt = -1 by decide] at this
  omega
def HY (my : Tmy) (h n : Nat) : Prop := my.1 h = nI n ∧ n ≤ 100 ∧ ∀ s, s < n → ∃ x y, my.2.2.2.1 (100 * h + s) = nI x ∧ my.2.2.2.2 (100 * h + s) = nI y ∧ x + y ≤ 8000
def PY (my : Tmy) (t κ : Nat) : Prop := ∀ h, h ≤ 1 → ∃ n, HY my h n ∧ (h = t → n = κ)
theorem PY.push {my : Tmy} {w n x y t κ : Nat} {f g : Nat → Int64} (hY : PY my t κ) (htw : t ≠ w) (hw : w ≤ 1) (hn : my.1 w = nI n) (hn2 : n < 100) (hxy : x + y ≤ 8000) : PY (upd my.1 w (nI n + 1), f, g, upd my.2.2.2.1 (100 * w + n) (nI x), upd my.2.2.2.2 (100 * w + n) (nI y)) t κ := by
  intro h hh
  by_cases e : h = w
  · subst e
    obtain ⟨n', ⟨h1, h2, h3⟩, -⟩ := hY h hh
    have : n' = n := (nI_eq (by omega) (by omega)).mp (h1.symm.trans hn)
    subst this
    refine ⟨n' + 1, ⟨by show upd my.1 h (nI n' + 1) h = _; rw [upd_eq, nI_1], by omega, fun s hs => ?_⟩, fun e => absurd e.symm htw⟩
    by_cases e2 : s = n'
    · subst e2
      exact ⟨x, y, upd_eq, upd_eq, hxy⟩
    · obtain ⟨x', y', g1, g2, g3⟩ := h3 s (by omega)
      have ne : 100 * h + s ≠ 100 * h + n' := by omega
      exact ⟨x', y', (upd_ne ne).trans g1, (upd_ne ne).trans g2, g3⟩
  · obtain ⟨n', ⟨h1, h2, h3⟩, hk⟩ := hY h hh
    refine ⟨n', ⟨(upd_ne e).trans h1, h2, fun s hs => ?_⟩, hk⟩
    obtain ⟨x', y', g1, g2, g3⟩ := h3 s hs
    have ne : 100 * h + s ≠ 100 * w + n := by omega
    exact ⟨x', y', (upd_ne ne).trans g1, (upd_ne ne).trans g2, g3⟩
theorem PY.zero {my : Tmy} {w t κ : Nat} (hY : PY my t κ) (htw : t ≠ w) : PY (upd my.1 w (0 : Int32), my.2.1, my.2.2.1, my.2.2.2.1, my.2.2.2.2) t κ := by
  intro h hh
  by_cases e : h = w
  · subst e
    exact ⟨0, ⟨upd_eq, by decide, fun s hs => absurd hs (by omega)⟩, fun e => absurd e.symm htw⟩
  · obtain ⟨n', ⟨h1, h2⟩, hk⟩ := hY h hh
    exact ⟨n', ⟨(upd_ne e).trans h1, h2⟩, hk⟩
theorem R_endOf {ms : Tms} {o x y : Nat} {v : Int32} (ho : o < 7) (hv : v = nI o) (hx : ms.2.2.2.2.1 o = nI x) (hy : ms.2.2.2.2.2 o = nI y) : TQ (X12_endOf ms v) (fun q => q = nI (x + y)) := by
  subst hv
  have hin : inb (nI o) 7 = true := inb_nI ho (by decide)
  unfold X12_endOf
  refine tq_g hin (tq_g hin (tq_s ?_))
  rw [nI_clamp (by omega), hx, hy, nI_add]
theorem R_matter {mc : Tmc} {mb : Tmb} {ms : Tms} {my : Tmy} {w z a l r t κ : Nat} {v1 : Int32} (hC : CU mc a l) (hB : MB mb w z) (hO : SEC2 ms.2.2.2.2.1 ms.2.2.2.2.2 7) (h1 : v1 = nI r) (hr : r + 24 ≤ 8000) (htw : t ≠ w) (hY : PY my t κ) : TQ (X12_matter mc mb ms my v1) (fun q => CU q.1 a l ∧ PY q.2 t κ) := by
  subst h1
  obtain ⟨x, y, hx, hy, hxy⟩ := hO 1 (by decide)
  have hw := hB.2.1
  have c1 : ((1 : Int32)).toNatClampNeg = 1 := by decide
  have t132 : ∀ (v2 v4 v6 : Int64) (z0 : Int32), (z0 = -1 ∨ ∃ n off, z0 = nI n ∧ v6 = lN off ∧ x + off + n ≤ 8000) → TQ (X12_matter_132 mb ms mc my (nI r) v2 v4 v6 z0) (fun q => CU q.1 a l ∧ PY q.2 t κ) := by
    intro v2 v4 v6 z0 hz0
    unfold X12_matter_132 X12_matter_159
    rw [hB.1, nI_clamp (show w < 2 ^ 31 by omega), c1, hx]
    have hin1 : inb (1 : Int32) 7 = true := by decide
    have hin2 : inb (nI w) 2 = true := inb_nI (by omega) (by decide)
    refine tq_i (fun _ => tq_g hin1 (tq_i (fun _ => tq_l (tq_s ⟨hC.fail, hY⟩)) (fun _ => tq_l (tq_s ⟨hC.fail, hY⟩)))) (fun c => ?_)
    rcases hz0 with h | ⟨n, off, rfl, rfl, hle⟩
    · exact absurd h c
    obtain ⟨ny, ⟨hn, hn2, -⟩, -⟩ := id (hY w hw)
    rw [hn]
    refine tq_g hin2 (tq_i (fun _ => tq_l (tq_s ⟨hC.fail, hY⟩)) (fun c100 => ?_))
    have hn3 : ny < 100 := by
      rcases Nat.lt_or_ge ny 100 with q | q
      · exact q
      · exact absurd (by rw [show ny = 100 by omega]; rfl) c100
    have e : (100 : Int32) * nI w + nI ny = nI (100 * w + ny) := by rw [show (100 : Int32) = nI 100 from rfl, nI_mul, nI_add]
    have hin3 : inb (nI (100 * w + ny)) 200 = true := inb_nI (by omega) (by decide)
    rw [e]
    refine tq_g hin2 (tq_g hin3 (tq_g hin3 (tq_g hin1 (tq_g hin3 (tq_g hin3 (tq_g hin2 (tq_g hin2 (tq_s ⟨hC, ?_⟩))))))))
    rw [nI_clamp (show 100 * w + ny < 2 ^ 31 by omega), lN_i, nI_add]
    exact hY.push htw hw hn hn3 hle
  unfold X12_matter X12_matter_81
  refine tq_b (R_numberAt hB (nI_add r 8) (show (8 : Int32) = nI 8 from rfl) (by decide) (by omega)) (fun q1 _ => ?_)
  refine tq_b (R_numberAt hB (nI_add r 16) (show (8 : Int32) = nI 8 from rfl) (by decide) (by omega)) (fun q3 _ => ?_)
  refine tq_b (R_byteOf hB (nI_add r 4) (by omega)) (fun q5 _ => ?_)
  refine tq_i (fun _ => ?_) (fun _ => tq_s ⟨hC, hY⟩)
  refine tq_b (R_numberAt hB (nI_add r 6) (show (2 : Int32) = nI 2 from rfl) (by decide) (by omega)) (fun q8 _ => ?_)
  refine tq_i (fun _ => tq_s ⟨hC, hY⟩) (fun _ => ?_)
  refine tq_i (fun _ => tq_s ⟨hC, hY⟩) (fun _ => ?_)
  refine tq_i (fun _ => tq_l (tq_s ⟨hC.fail, hY⟩)) (fun _ => ?_)
  refine tq_i (fun _ => tq_l (tq_s ⟨hC.fail, hY⟩)) (fun _ => ?_)
  refine tq_i (fun _ => tq_l (tq_s ⟨hC.fail, hY⟩)) (fun _ => ?_)
  refine tq_b (R_numberAt hB (show nI r = nI r from rfl) (show (4 : Int32) = nI 4 from rfl) (by decide) (by omega)) (fun q15 h15 => ?_)
  obtain ⟨off, hoff, rfl⟩ := h15 (by decide)
  refine tq_g (by decide) ?_
  rw [c1, hx, hy, nI_l (show y < 2 ^ 31 by omega)]
  refine tq_i (fun co => ?_) (fun _ => t132 _ _ _ _ (Or.inl rfl))
  have hoy : off < y := (lN_ltB (by omega) (by omega)).mp co
  refine tq_g (by decide) ?_
  refine tq_b (R_endOf (o := 1) (by decide) (show (1 : Int32) = nI 1 from rfl) hx hy) (fun q20 h20 => ?_)
  rw [lN_i, nI_add]
  refine tq_b (R_stringAt hB rfl h20 (by omega) (by omega)) (fun q22 h22 => ?_)
  refine t132 _ _ _ _ ?_
  rcases h22 with h | ⟨n, h, hlt, -⟩
  · exact Or.inl h
  · exact Or.inr ⟨n, off, h, rfl, by omega⟩
theorem R_symbols {mc : Tmc} {mb : Tmb} {ms : Tms} {my : Tmy} {w z a l t κ : Nat} (hC : CU mc a l) (hB : MB mb w z) (hO : SEC2 ms.2.2.2.2.1 ms.2.2.2.2.2 7) (htw : t ≠ w) (hY : PY my t κ) : TQ (X12_symbols mc mb ms my) (fun q => CU q.1 a l ∧ PY q.2 t κ) := by
  obtain ⟨x, y, hx, hy, hxy⟩ := hO 0 (by decide)
  have c0 : ((0 : Int32)).toNatClampNeg = 0 := by decide
  have hin : inb (0 : Int32) 7 = true := by decide
  have ed : nI y / (24 : Int32) = nI (y / 24) := nI_div (b := 24) (by omega) (by decide)
  have hd : 24 * (y / 24) ≤ y := Nat.mul_div_le y 24
  have t45 : ∀ (c : Tmc) (m : Tmy) (v : Int32), CU c a l → PY m t κ → TQ (X12_symbols_45 mb ms c m v) (fun q => CU q.1 a l ∧ PY q.2 t κ) := fun c m v hc hm => by
    unfold X12_symbols_45
    refine tq_i (fun _ => tq_s ⟨hc, hm⟩) (fun _ => tq_g hin ?_)
    exact tq_i (fun _ => tq_s ⟨hc, hm⟩) (fun _ => tq_g hin (tq_l (tq_s ⟨hc.fail, hm⟩)))
  unfold X12_symbols
  rw [c0, hy, ed]
  refine tq_g hin ?_
  unfold X12_symbols_12
  refine lp_m (fun st => CU st.1 a l ∧ PY st.2.1 t κ ∧ st.2.2.1 = nI (y / 24) ∧ ∃ k, k ≤ y / 24 ∧ st.2.2.2 = nI k) (fun st => 8000 - st.2.2.2.toNatClampNeg) (fun rec st hI hrec => ?_) FU _ ⟨hC, hY, rfl, 0, Nat.zero_le _, rfl⟩ (by show 8000 - _ < 1000000000000; omega)
  obtain ⟨c, m, s1, s2⟩ := st
  obtain ⟨hC, hY, e1, k, hk, e2⟩ := hI
  have hC : CU c a l := hC
  have hY : PY m t κ := hY
  have e1 : s1 = nI (y / 24) := e1
  have e2 : s2 = nI k := e2
  subst e1 e2
  show TQ (X12_symbols_12b mb ms (fun a0 a1 a2 a3 => rec (a0, a1, a2, a3)) c m (nI (y / 24)) (nI k)) _
  unfold X12_symbols_12b
  refine tq_i (fun ck => ?_) (fun _ => t45 _ _ _ hC hY)
  have hkm : k < y / 24 := (nI_ltI (by omega) (by omega)).mp ck
  refine tq_i (fun _ => t45 _ _ _ hC hY) (fun _ => tq_g hin ?_)
  have er : ms.2.2.2.2.1 ((0 : Int32)).toNatClampNeg + (24 : Int32) * nI k = nI (x + 24 * k) := by
    rw [c0, hx, show (24 : Int32) = nI 24 from rfl, nI_mul, nI_add]
  refine tq_b (R_matter hC hB hO er (by omega) htw hY) (fun q hq => ?_)
  refine hrec _ ⟨hq.1, hq.2, rfl, k + 1, by omega, by show nI k + 1 = _; rw [nI_1]⟩ ?_
  show 8000 - (nI k + 1).toNatClampNeg < 8000 - (nI k).toNatClampNeg
  rw [nI_1, nI_clamp (by omega), nI_clamp (by omega)]
  omega
theorem sub_toInt {a b : Nat} (ha : a < 2 ^ 30) (hb : b < 2 ^ 30) : (nI a - nI b).toInt = (a : Int) - b := by
  rw [Int32.toInt_sub, nI_toInt (by omega), nI_toInt (by omega), Int.bmod_eq_of_le (by omega) (by omega)]
/-- a number of 64 bits that isn't below 0 and not above e - a -/
theorem l_left {v : Int64} {e a : Nat} (he : e < 2 ^ 30) (ha : a < 2 ^ 30) (h0 : ¬ v < 0) (h : ¬ (nI e - nI a).toInt64 < v) : ∃ n, v = lN n ∧ a + n ≤ e := by
  have e0 := Int64.le_iff_toInt_le.mp (Int64.not_lt.mp h0)
  have e1 := Int64.le_iff_toInt_le.mp (Int64.not_lt.mp h)
  rw [show (0 : Int64).toInt = 0 by decide] at e0
  rw [Int32.toInt_toInt64, sub_toInt he ha] at e1
  refine ⟨v.toInt.toNat, ?_, by omega⟩
  apply Int64.toInt_inj.mp
  rw [show (lN v.toInt.toNat).toInt = ((v.toInt.toNat : Nat) : Int) from lN_toInt (by omega)]
  omega
theorem R_lengthIn {mc : Tmc} {mb : Tmb} {w z a l e : Nat} {v1 : Int32} (hC : CU mc a l) (hB : MB mb w z) (h1 : v1 = nI e) (he : e ≤ 8000) : TQ (X12_lengthIn mc mb v1) (fun q => ∃ a', CU q.2 a' l ∧ a ≤ a' ∧ (Rt q.2 → Rt mc ∧ a < a' ∧ ∃ e', q.1 = nI e' ∧ a' ≤ e' ∧ e' ≤ e)) := by
  subst h1
  unfold X12_lengthIn X12_lengthIn_55
  refine tq_b (R_number hC hB (show (4 : Int32) = nI 4 from rfl) (by decide)) (fun q1 h => ?_)
  obtain ⟨a', hc, hle, hv, hr⟩ := h
  obtain ⟨x, hx, hv⟩ := hv (by decide)
  have f : ∀ (y z9 : Int32), ¬ y = 0 → TQ (if (X12_isRight (X12_fail q1.2 y z9)) = 0 then some ((0 : Int32), X12_fail q1.2 y z9) else some (((X12_fail q1.2 y z9).1 + ((q1.1).toInt32)), X12_fail q1.2 y z9)) (fun q => ∃ a', CU q.2 a' l ∧ a ≤ a' ∧ (Rt q.2 → Rt mc ∧ a < a' ∧ ∃ e', q.1 = nI e' ∧ a' ≤ e' ∧ e' ≤ e)) := fun y z9 hy => by
    refine tq_i (fun _ => tq_s ⟨a', hc.fail, hle, fun h => absurd h (rt_fail hy)⟩) (fun r => absurd (rt_1 r) (rt_fail hy))
  refine tq_i (fun r => tq_s ⟨a', hc, hle, fun h => absurd h (rt_0 r)⟩) (fun r => ?_)
  have r := rt_1 r
  obtain ⟨ea, rm⟩ := hr r
  refine tq_i (fun _ => ?_) (fun _ => tq_l (f _ _ (by decide)))
  refine tq_i (fun _ => tq_l (f _ _ (by decide))) (fun cn => ?_)
  rw [hc.1] at cn
  obtain ⟨n, en, hn⟩ := l_left (by omega) (by have := hc.2.2.1; omega) (by rw [hv]; exact lN_nneg (by omega)) cn
  refine tq_i (fun r' => absurd r (rt_0 r')) (fun _ => tq_s ⟨a', hc, hle, fun _ => ⟨rm, by omega, a' + n, ?_, by omega, hn⟩⟩)
  show q1.2.1 + q1.1.toInt32 = _
  rw [hc.1, en, lN_i, nI_add]
def mu (mc : Tmc) : Nat := if mc.2.2.1 = 0 then 8001 - mc.1.toNatClampNeg else 0
theorem mu_lt {mc mc' : Tmc} {a l a' l' : Nat} (h : CU mc a l) (hr : Rt mc) (h' : CU mc' a' l') (hlt : Rt mc' → a < a') : mu mc' < mu mc := by
  unfold mu
  rw [if_pos (show mc.2.2.1 = 0 from hr), h.1, nI_clamp (by have := h.2.2.1; omega)]
  have := h.2.2.1
  by_cases r : mc'.2.2.1 = 0
  · rw [if_pos r, h'.1, nI_clamp (by have := h'.2.2.1; omega)]
    have := hlt r
    omega
  · rw [if_neg r]
    omega
theorem mu_pos {mc : Tmc} {a l : Nat} (h : CU mc a l) (hr : Rt mc) : 0 < mu mc := by
  unfold mu
  rw [if_pos (show mc.2.2.1 = 0 from hr), h.1, nI_clamp (by have := h.2.2.1; omega)]
  have := h.2.2.1
  omega
theorem mu_FU (mc : Tmc) : mu mc < FU := by
  unfold mu
  show _ < 1000000000000
  split <;> omega
def mz (v : Int32) (mc : Tmc) : Nat := if v = 0 then 0 else mu mc
theorem mz_FU (v : Int32) (mc : Tmc) : mz v mc < FU := by
  unfold mz
  have := mu_FU mc
  have : (0 : Nat) < FU := by show 0 < 1000000000000; decide
  split <;> assumption
theorem mz_0 {v : Int32} {mc mc' : Tmc} {a l : Nat} (hv : ¬ v = 0) (h : CU mc a l) (hr : Rt mc) : mz 0 mc' < mz v mc := by
  unfold mz
  rw [if_pos rfl, if_neg hv]
  exact mu_pos h hr
theorem mz_lt {v v' : Int32} {mc mc' : Tmc} {a l a' l' : Nat} (hv : ¬ v = 0) (h : CU mc a l) (hr : Rt mc) (h' : CU mc' a' l') (hlt : Rt mc' → a < a') : mz v' mc' < mz v mc := by
  unfold mz
  rw [if_neg hv]
  have h1 := mu_lt h hr h' hlt
  have h2 := mu_pos h hr
  split <;> assumption
def PA (ma : Tma) (c : Nat) : Prop := ma.1 = nI c ∧ ∀ k, k ≤ c → ∃ p, p ≤ 16 ∧ ma.2.2.2.2.1 k = nI p
theorem R_pairs {mc : Tmc} {mb : Tmb} {ma : Tma} {w z a l c : Nat} (hC : CU mc a l) (hB : MB mb w z) (hc : c < 40) (hP : PA ma c) : TQ (X12_pairs mc mb ma) (fun q => (∃ a', CU q.1 a' l ∧ a ≤ a') ∧ PA q.2 c) := by
  unfold X12_pairs X12_pairs_2
  refine lp_m (fun st => (∃ a', CU st.1 a' l ∧ a ≤ a') ∧ PA st.2.1 c) (fun st => mz st.2.2 st.1) (fun rec st hI hrec => ?_) FU _ ⟨⟨a, hC, Nat.le_refl a⟩, hP⟩ (mz_FU _ _)
  obtain ⟨mc, ma, v1⟩ := st
  obtain ⟨⟨b, hC, hab⟩, hP⟩ := hI
  have hC : CU mc b l := hC
  have hP : PA ma c := hP
  show TQ (X12_pairs_2b mb (fun a0 a1 a2 => rec (a0, a1, a2)) mc ma v1) _
  unfold X12_pairs_2b X12_pairs_53 X12_pairs_49
  refine tq_i (fun _ => tq_s ⟨⟨b, hC, hab⟩, hP⟩) (fun cv => ?_)
  refine tq_i (fun _ => tq_s ⟨⟨b, hC, hab⟩, hP⟩) (fun r => ?_)
  have r := rt_1 r
  have hin : inb ma.1 40 = true := by rw [hP.1]; exact inb_nI hc (by decide)
  obtain ⟨p, hp, ep⟩ := hP.2 c (Nat.le_refl c)
  have ec : ma.1.toNatClampNeg = c := by rw [hP.1, nI_clamp (by omega)]
  have t102 : ∀ (m : Tmc) (b' : Nat) (v : Int32) (v3 v5 : Int64), CU m b' l → b < b' → (Rt m → p < 16) → TQ (X12_pairs_102 mb (fun a0 a1 a2 => rec (a0, a1, a2)) m ma v v3 v5) (fun q => (∃ a', CU q.1 a' l ∧ a ≤ a') ∧ PA q.2 c) := by
    intro m b' v v3 v5 hm hb' hp16
    have ei : (16 : Int32) * ma.1 + ma.2.2.2.2.1 ma.1.toNatClampNeg = nI (16 * c + p) := by
      rw [ec, hP.1, ep, show (16 : Int32) = nI 16 from rfl, nI_mul, nI_add]
    unfold X12_pairs_102 X12_pairs_171
    rw [ei]
    refine tq_i (fun _ => tq_s ⟨⟨b', hm, by omega⟩, hP⟩) (fun r' => ?_)
    have hp16 := hp16 (rt_1 r')
    have hin2 : inb (nI (16 * c + p)) 640 = true := inb_nI (by omega) (by decide)
    refine tq_g hin (tq_g hin2 (tq_g hin2 ?_))
    have fin : ∀ (m' : Tmc) (b'' : Nat) (f g h9 : Nat → Int64) (i9 : Nat → Int32), CU m' b'' l → b < b'' → TQ (rec (m', (ma.1, ma.2.1, ma.2.2.1, ma.2.2.2.1, upd ma.2.2.2.2.1 ma.1.toNatClampNeg (ma.2.2.2.2.1 ma.1.toNatClampNeg + (1 : Int32)), f, i9, g), v)) (fun q => (∃ a', CU q.1 a' l ∧ a ≤ a') ∧ PA q.2 c) := by
      intro m' b'' f g h9 i9 hm' hb''
      refine hrec _ ⟨⟨b'', hm', by omega⟩, hP.1, fun k hk => ?_⟩ (mz_lt cv hC r hm' (fun _ => hb''))
      show ∃ p, p ≤ 16 ∧ upd ma.2.2.2.2.1 ma.1.toNatClampNeg (ma.2.2.2.2.1 ma.1.toNatClampNeg + (1 : Int32)) k = nI p
      rw [ec]
      by_cases e : k = c
      · subst e
        exact ⟨p + 1, by omega, by rw [upd_eq, ep, nI_1]⟩
      · obtain ⟨p', h1, h2⟩ := hP.2 k hk
        exact ⟨p', h1, by rw [upd_ne e]; exact h2⟩
    refine tq_i (fun _ => ?_) (fun _ => tq_g hin2 (tq_g hin (tq_g hin (fin _ b' _ _ (fun _ => 0) _ hm hb'))))
    refine tq_b (R_leb hm hB) (fun q hq => ?_)
    obtain ⟨b'', h1, h2, -⟩ := hq
    exact tq_g hin2 (tq_g hin (tq_g hin (fin _ b'' _ _ (fun _ => 0) _ h1 (by omega))))
  have t82 : ∀ (m : Tmc) (b' : Nat) (v v2 : Int32) (v3 v5 : Int64), CU m b' l → b < b' → TQ (X12_pairs_82 mb (fun a0 a1 a2 => rec (a0, a1, a2)) m ma v v2 v3 v5) (fun q => (∃ a', CU q.1 a' l ∧ a ≤ a') ∧ PA q.2 c) := by
    intro m b' v v2 v3 v5 hm hb'
    unfold X12_pairs_82
    rw [ec, ep]
    refine tq_g hin (tq_i (fun _ => tq_l (t102 _ b' _ _ _ hm.fail hb' (fun h => absurd h (rt_fail (by decide))))) (fun c16 => ?_))
    refine t102 _ b' _ _ _ hm hb' (fun _ => ?_)
    rcases Nat.lt_or_ge p 16 with q | q
    · exact q
    · exact absurd (by rw [show p = 16 by omega]; rfl) c16
  have t54 : ∀ (m : Tmc) (b' : Nat) (v2 z0 : Int32) (v3 v5 : Int64), CU m b' l → (z0 = 0 ∨ b < b') → b ≤ b' → TQ (X12_pairs_54 mb (fun a0 a1 a2 => rec (a0, a1, a2)) m ma v2 v3 v5 z0) (fun q => (∃ a', CU q.1 a' l ∧ a ≤ a') ∧ PA q.2 c) := by
    intro m b' v2 z0 v3 v5 hm hb' hbb
    unfold X12_pairs_54 X12_pairs_76
    refine tq_i (fun e => ?_) (fun e => ?_)
    · rw [e]
      exact hrec _ ⟨⟨b', hm, by omega⟩, hP⟩ (mz_0 cv hC r)
    · have hb' : b < b' := by
        rcases hb' with h | h
        · exact absurd h e
        · exact h
      refine tq_i (fun _ => tq_l (t82 _ b' _ _ _ _ hm.fail hb')) (fun _ => ?_)
      exact tq_i (fun _ => tq_l (t82 _ b' _ _ _ _ hm.fail hb')) (fun _ => t82 _ b' _ _ _ _ hm hb')
  refine tq_b (R_uleb hC hB) (fun q3 h3 => ?_)
  obtain ⟨b1, hb1, hle1, hr1⟩ := h3
  refine tq_b (R_uleb hb1 hB) (fun q5 h5 => ?_)
  obtain ⟨b2, hb2, hle2, hr2⟩ := h5
  refine tq_i (fun _ => t54 _ b2 _ _ _ _ hb2 (Or.inl rfl) (by omega)) (fun r2 => ?_)
  have r2 := hr2 (rt_1 r2)
  have hlt : b < b2 := by have := (hr1 r2.2).1; omega
  refine tq_i (fun _ => ?_) (fun _ => t54 _ b2 _ _ _ _ hb2 (Or.inr hlt) (by omega))
  exact tq_i (fun _ => t54 _ b2 _ _ _ _ hb2 (Or.inl rfl) (by omega)) (fun _ => t54 _ b2 _ _ _ _ hb2 (Or.inr hlt) (by omega))
def ABP (ma : Tma) (c : Nat) : Prop := ma.1 = nI c ∧ c ≤ 40 ∧ ∀ k, k < c → ∃ p, p ≤ 16 ∧ ma.2.2.2.2.1 k = nI p
theorem R_abbreviations {mc : Tmc} {mb : Tmb} {ma : Tma} {w z a l : Nat} (hC : CU mc a l) (hB : MB mb w z) : TQ (X12_abbreviations mc mb ma) (fun q => (∃ a', CU q.1 a' l) ∧ ∃ c, ABP q.2 c) := by
  unfold X12_abbreviations X12_abbreviations_7
  refine lp_m (fun st => (∃ a', CU st.1 a' l) ∧ ∃ c, ABP st.2.1 c) (fun st => mz st.2.2 st.1) (fun rec st hI hrec => ?_) FU _ ⟨⟨a, hC⟩, 0, rfl, by decide, fun k h => absurd h (by omega)⟩ (mz_FU _ _)
  obtain ⟨mc, ma, v1⟩ := st
  obtain ⟨⟨b, hC⟩, c, hA⟩ := hI
  have hC : CU mc b l := hC
  have hA : ABP ma c := hA
  obtain ⟨ec, hc, hp⟩ := id hA
  show TQ (X12_abbreviations_7b mb (fun a0 a1 a2 => rec (a0, a1, a2)) mc ma v1) _
  unfold X12_abbreviations_7b X12_abbreviations_45
  refine tq_i (fun _ => tq_s ⟨⟨b, hC⟩, c, hA⟩) (fun cv => ?_)
  refine tq_i (fun _ => tq_s ⟨⟨b, hC⟩, c, hA⟩) (fun r => ?_)
  have r := rt_1 r
  have ecl : ma.1.toNatClampNeg = c := by rw [ec, nI_clamp (by omega)]
  have t190 : ∀ (m : Tmc) (b' : Nat) (f g : Nat → Int64) (v z0 : Int32), CU m b' l → b < b' → c < 40 → TQ (X12_abbreviations_190 mb (fun a0 a1 a2 => rec (a0, a1, a2)) m (ma.1, f, g, ma.2.2.2.1, ma.2.2.2.2.1, ma.2.2.2.2.2.1, ma.2.2.2.2.2.2.1, ma.2.2.2.2.2.2.2) v z0 ma.1) (fun q => (∃ a', CU q.1 a' l) ∧ ∃ c, ABP q.2 c) := by
    intro m b' f g v z0 hm hb' hc40
    have hin : inb ma.1 40 = true := by rw [ec]; exact inb_nI hc40 (by decide)
    unfold X12_abbreviations_190
    refine tq_g hin (tq_g hin ?_)
    refine tq_b (R_pairs (c := c) hm hB hc40 ⟨ec, fun k hk => ?_⟩) (fun q hq => ?_)
    · show ∃ p, p ≤ 16 ∧ upd ma.2.2.2.2.1 ma.1.toNatClampNeg (0 : Int32) k = nI p
      rw [ecl]
      by_cases e : k = c
      · subst e
        exact ⟨0, by decide, upd_eq⟩
      · obtain ⟨p', h1, h2⟩ := hp k (by omega)
        exact ⟨p', h1, by rw [upd_ne e]; exact h2⟩
    · obtain ⟨⟨b'', h1, h2⟩, h3⟩ := hq
      refine hrec _ ⟨⟨b'', h1⟩, c + 1, ?_, by omega, fun k hk => h3.2 k (by omega)⟩ (mz_lt cv hC r h1 (fun _ => by omega))
      show q.2.1 + 1 = _
      rw [h3.1, nI_1]
  have t170 : ∀ (m : Tmc) (b' : Nat) (f g : Nat → Int64) (v : Int32) (v6 : Int64), CU m b' l → b < b' → c < 40 → TQ (X12_abbreviations_170 mb (fun a0 a1 a2 => rec (a0, a1, a2)) m (ma.1, f, g, ma.2.2.2.1, ma.2.2.2.2.1, ma.2.2.2.2.2.1, ma.2.2.2.2.2.2.1, ma.2.2.2.2.2.2.2) v v6) (fun q => (∃ a', CU q.1 a' l) ∧ ∃ c, ABP q.2 c) := by
    intro m b' f g v v6 hm hb' hc40
    unfold X12_abbreviations_170
    exact tq_i (fun _ => t190 _ b' _ _ _ _ hm hb' hc40) (fun _ => t190 _ b' _ _ _ _ hm hb' hc40)
  have t105 : ∀ (m : Tmc) (b' : Nat) (v : Int32) (v3 : Int64), CU m b' l → b < b' → (Rt m → c < 40) → TQ (X12_abbreviations_105 mb (fun a0 a1 a2 => rec (a0, a1, a2)) m ma v v3) (fun q => (∃ a', CU q.1 a' l) ∧ ∃ c, ABP q.2 c) := by
    intro m b' v v3 hm hb' hc40
    unfold X12_abbreviations_105
    refine tq_i (fun _ => tq_s ⟨⟨b', hm⟩, c, hA⟩) (fun r' => ?_)
    have hc40 := hc40 (rt_1 r')
    have hin : inb ma.1 40 = true := by rw [ec]; exact inb_nI hc40 (by decide)
    refine tq_g hin ?_
    refine tq_b (R_uleb hm hB) (fun q3 h3 => tq_g hin ?_)
    obtain ⟨b1, hb1, hle1, -⟩ := h3
    refine tq_b (R_number hb1 hB (show (1 : Int32) = nI 1 from rfl) (by decide)) (fun q6 h6 => ?_)
    obtain ⟨b2, hb2, hle2, -⟩ := h6
    refine tq_i (fun _ => t170 _ b2 _ _ _ _ hb2 (by omega) hc40) (fun _ => ?_)
    exact tq_i (fun _ => tq_l (t170 _ b2 _ _ _ _ hb2.fail (by omega) hc40)) (fun _ => t170 _ b2 _ _ _ _ hb2 (by omega) hc40)
  have t57 : ∀ (m : Tmc) (b' : Nat) (v v2 : Int32) (v3 : Int64), CU m b' l → b < b' → TQ (X12_abbreviations_57 mb (fun a0 a1 a2 => rec (a0, a1, a2)) FU (m, ma, v, v2, v3, (0 : Int32))) (fun q => (∃ a', CU q.1 a' l) ∧ ∃ c, ABP q.2 c) := by
    intro m b' v v2 v3 hm hb'
    unfold X12_abbreviations_57
    refine lp_m (fun st => CU st.1 b' l ∧ st.2.1 = ma ∧ ∃ k, k ≤ c ∧ st.2.2.2.2.2 = nI k) (fun st => 40 - st.2.2.2.2.2.toNatClampNeg) (fun rec2 st hI hrec2 => ?_) FU _ ⟨hm, rfl, 0, Nat.zero_le _, rfl⟩ (by show 40 - _ < 1000000000000; omega)
    obtain ⟨m, ma', s1, s2, s3, s5⟩ := st
    obtain ⟨hm, e1, k, hk, e5⟩ := hI
    have hm : CU m b' l := hm
    have e1 : ma' = ma := e1
    have e5 : s5 = nI k := e5
    subst e1 e5
    show TQ (X12_abbreviations_57b mb (fun a0 a1 a2 => rec (a0, a1, a2)) (fun a0 a1 a2 a3 a4 a5 => rec2 (a0, a1, a2, a3, a4, a5)) m ma' s1 s2 s3 (nI k)) _
    unfold X12_abbreviations_57b X12_abbreviations_84
    rw [ec]
    refine tq_i (fun ck => ?_) (fun ck => ?_)
    · have hkc : k < c := (nI_ltI (by omega) (by omega)).mp ck
      have nx : ∀ m : Tmc, CU m b' l → TQ (rec2 (m, ma', s1, s2, s3, nI k + 1)) (fun q => (∃ a', CU q.1 a' l) ∧ ∃ c, ABP q.2 c) := fun m hm => by
        refine hrec2 _ ⟨hm, rfl, k + 1, by omega, by show nI k + 1 = _; rw [nI_1]⟩ ?_
        show 40 - (nI k + 1).toNatClampNeg < 40 - (nI k).toNatClampNeg
        rw [nI_1, nI_clamp (by omega), nI_clamp (by omega)]
        omega
      exact tq_g (inb_nI (by omega) (by decide)) (tq_i (fun _ => tq_l (nx _ hm.fail)) (fun _ => nx _ hm))
    · refine tq_i (fun _ => tq_l (t105 _ b' _ _ hm.fail hb' (fun h => absurd h (rt_fail (by decide))))) (fun c40 => ?_)
      refine t105 _ b' _ _ hm hb' (fun _ => ?_)
      rcases Nat.lt_or_ge c 40 with q | q
      · exact q
      · exact absurd (by rw [show c = 40 by omega]; rfl) c40
  have t46 : ∀ (m : Tmc) (b' : Nat) (v2 z0 : Int32) (v3 : Int64), CU m b' l → (z0 = 0 ∨ b < b') → TQ (X12_abbreviations_46 mb (fun a0 a1 a2 => rec (a0, a1, a2)) m ma v2 v3 z0) (fun q => (∃ a', CU q.1 a' l) ∧ ∃ c, ABP q.2 c) := by
    intro m b' v2 z0 v3 hm hb'
    unfold X12_abbreviations_46
    refine tq_i (fun e => ?_) (fun e => ?_)
    · rw [e]
      exact hrec _ ⟨⟨b', hm⟩, c, hA⟩ (mz_0 cv hC r)
    · rcases hb' with h | h
      · exact absurd h e
      · exact t57 _ b' _ _ _ hm h
  refine tq_b (R_uleb hC hB) (fun q3 h3 => ?_)
  obtain ⟨b1, hb1, hle1, hr1⟩ := h3
  refine tq_i (fun _ => t46 _ b1 _ _ _ hb1 (Or.inl rfl)) (fun r1 => ?_)
  exact tq_i (fun _ => t46 _ b1 _ _ _ hb1 (Or.inl rfl)) (fun _ => t46 _ b1 _ _ _ hb1 (Or.inr (hr1 (rt_1 r1)).1))
