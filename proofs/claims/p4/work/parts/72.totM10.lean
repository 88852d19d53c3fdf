/-! totality of the reference: load; what holds between the calls -/
def LQ (mq : Tmq) (n ny : Nat) : Prop := (∃ c, mq.1 = nI c ∧ c ≤ 24 ∧ ∀ i, i < c → ∃ e, mq.2.1 i = nI e ∧ e < n) ∧ (mq.2.2.2.2.1 = -1 ∨ ∃ s, mq.2.2.2.2.1 = nI s ∧ s < ny)
def JB (mc : Tmc) (mb : Tmb) (mo : Tmo) (my : Tmy) (mu : Tmu) (me : Tme) (mg : Tmg) (mw : Tmw) (mf : Tmf) (mq : Tmq) : Prop := (∃ a l, CU mc a l) ∧ ∃ w t, mb.2.1 = nI w ∧ mo.1 = nI t ∧ w ≤ 1 ∧ t ≤ 1 ∧ t ≠ w ∧ By mb.1 ∧ ∃ κy C F, PY my t κy ∧ EB mu me C F ∧ C 2 = t ∧ PL mf F ∧ PG mg ∧ PW mw ∧ LQ mq (C 3) κy
theorem EB.tell {mu : Tmu} {me : Tme} {C F : Nat → Nat} (t : Nat) (ht : t ≤ 1) (hE : EB mu me C F) : ∃ C', EB mu me C' F ∧ C' 2 = t := by
  obtain ⟨n, dep, hH, -⟩ := hE.2.1 t ht
  refine ⟨fun h => if h = 2 then t else if h = 3 then n else C h, ⟨fun h hh => ?_, fun h hh => ?_, hE.2.2⟩, rfl⟩
  · have e : (if h = 2 then t else if h = 3 then n else C h) = C h := by rw [if_neg (by omega), if_neg (by omega)]
    show mu.1 h = nI (if h = 2 then t else if h = 3 then n else C h) ∧ (if h = 2 then t else if h = 3 then n else C h) ≤ 20 ∧ ∀ u, u < (if h = 2 then t else if h = 3 then n else C h) → _
    rw [e]
    exact hE.1 h hh
  · have e : (if h = 2 then t else if h = 3 then n else C h) = C h := by rw [if_neg (by omega), if_neg (by omega)]
    obtain ⟨n', dep', hH', -⟩ := hE.2.1 h hh
    refine ⟨n', dep', ?_, fun eh => ?_⟩
    · show HE mu me h n' (if h = 2 then t else if h = 3 then n else C h) dep'
      rw [e]
      exact hH'
    · have eh : h = t := eh
      subst eh
      show n' = n
      exact (nI_eq (by have := hH'.2.1; omega) (by have := hH.2.1; omega)).mp (hH'.1.symm.trans hH.1)
theorem PY.tell {my : Tmy} {t κ : Nat} (t' : Nat) (ht : t' ≤ 1) (hY : PY my t κ) : ∃ κ', PY my t' κ' := by
  obtain ⟨n, hn, -⟩ := hY t' ht
  refine ⟨n, fun h hh => ?_⟩
  obtain ⟨n', hn', -⟩ := hY h hh
  refine ⟨n', hn', fun eh => ?_⟩
  subst eh
  exact (nI_eq (by have := hn'.2.1; omega) (by have := hn.2.1; omega)).mp (hn'.1.symm.trans hn.1)
def stz (C : Nat → Nat) (w : Nat) : Nat → Nat := fun h => if h = w then 0 else C h
theorem EB.zero {mu : Tmu} {me : Tme} {C F : Nat → Nat} {w : Nat} (hw : w ≤ 1) (htw : C 2 ≠ w) (hE : EB mu me C F) : EB (upd mu.1 w (0 : Int32), mu.2.1, mu.2.2.1, mu.2.2.2.1, mu.2.2.2.2.1, mu.2.2.2.2.2.1, mu.2.2.2.2.2.2) (upd me.1 w (0 : Int32), me.2.1, me.2.2.1, me.2.2.2.1, me.2.2.2.2.1, me.2.2.2.2.2.1, me.2.2.2.2.2.2.1, me.2.2.2.2.2.2.2.1, me.2.2.2.2.2.2.2.2.1, me.2.2.2.2.2.2.2.2.2.1, me.2.2.2.2.2.2.2.2.2.2.1, me.2.2.2.2.2.2.2.2.2.2.2.1, me.2.2.2.2.2.2.2.2.2.2.2.2.1, me.2.2.2.2.2.2.2.2.2.2.2.2.2.1, me.2.2.2.2.2.2.2.2.2.2.2.2.2.2.1, me.2.2.2.2.2.2.2.2.2.2.2.2.2.2.2.1, me.2.2.2.2.2.2.2.2.2.2.2.2.2.2.2.2.1, me.2.2.2.2.2.2.2.2.2.2.2.2.2.2.2.2.2.1, me.2.2.2.2.2.2.2.2.2.2.2.2.2.2.2.2.2.2) (stz C w) (stz F w) := by
  have e2 : stz C w 2 = C 2 := if_neg (by omega)
  have e3 : stz C w 3 = C 3 := if_neg (by omega)
  refine ⟨fun h hh => ?_, fun h hh => ?_, hE.2.2⟩
  · by_cases c : h = w
    · subst c
      rw [show stz C h h = 0 from if_pos rfl]
      exact ⟨upd_eq, by decide, fun u hu => absurd hu (by omega)⟩
    · rw [show stz C w h = C h from if_neg c, show stz F w h = F h from if_neg c]
      obtain ⟨g1, g2⟩ := hE.1 h hh
      exact ⟨(upd_ne c).trans g1, g2⟩
  · rw [e2, e3]
    by_cases c : h = w
    · subst c
      refine ⟨0, fun _ => 0, ⟨upd_eq, by decide, fun e he => absurd he (by omega), fun e he => absurd he (by omega), fun e he => absurd he (by omega), fun e he => absurd he (by omega)⟩, fun e => absurd e.symm htw⟩
    · rw [show stz C w h = C h from if_neg c]
      obtain ⟨n, dep, ⟨g0, g⟩, hk⟩ := hE.2.1 h hh
      exact ⟨n, dep, ⟨(upd_ne c).trans g0, g⟩, hk⟩
theorem PL.zero {mf : Tmf} {F : Nat → Nat} {w : Nat} (hF : PL mf F) : PL (upd mf.1 w (0 : Int32), mf.2.1, mf.2.2) (stz F w) := by
  intro h hh
  by_cases c : h = w
  · subst c
    rw [show stz F h h = 0 from if_pos rfl]
    exact ⟨upd_eq, by decide, fun f hf => absurd hf (by omega)⟩
  · rw [show stz F w h = F h from if_neg c]
    obtain ⟨g1, g2⟩ := hF h hh
    exact ⟨(upd_ne c).trans g1, g2⟩
theorem PG.zero {mg : Tmg} {w : Nat} (hG : PG mg) : PG (upd mg.1 w (0 : Int32), mg.2.1, mg.2.2.1, mg.2.2.2) := by
  intro h hh
  show ∃ n, upd mg.1 w (0 : Int32) h = nI n ∧ n ≤ 200
  by_cases c : h = w
  · subst c
    exact ⟨0, upd_eq, by decide⟩
  · rw [upd_ne c]
    exact hG h hh
theorem PW.zero {mw : Tmw} {w : Nat} (hW : PW mw) : PW (upd mw.1 w (0 : Int32), mw.2.1, mw.2.2.1, mw.2.2.2.1, mw.2.2.2.2.1, mw.2.2.2.2.2) := by
  intro h hh
  show ∃ n, upd mw.1 w (0 : Int32) h = nI n ∧ n ≤ 600
  by_cases c : h = w
  · subst c
    exact ⟨0, upd_eq, by decide⟩
  · rw [upd_ne c]
    exact hW h hh
def LDQ (q : Int32 × Tmc × Tmb × Tmo × Tms × Tmy × Tmu × Tma × Tme × Tmr × Tmp × Tmg × Tmw × Tmf × Tml × Tmq) : Prop := JB q.2.1 q.2.2.1 q.2.2.2.1 q.2.2.2.2.2.1 q.2.2.2.2.2.2.1 q.2.2.2.2.2.2.2.2.1 q.2.2.2.2.2.2.2.2.2.2.2.1 q.2.2.2.2.2.2.2.2.2.2.2.2.1 q.2.2.2.2.2.2.2.2.2.2.2.2.2.1 q.2.2.2.2.2.2.2.2.2.2.2.2.2.2.2
section
variable {mt : Tmt} {mk : Tmk} {mc : Tmc} {mb : Tmb} {mo : Tmo} {ms : Tms} {my : Tmy} {mu : Tmu} {ma : Tma} {me : Tme} {mr : Tmr} {mp : Tmp} {mg : Tmg} {mw : Tmw} {mf : Tmf} {ml : Tml} {mq : Tmq} {w z t κy : Nat} {C F : Nat → Nat}
theorem R_l173 (hC : ∃ a l, CU mc a l) (hB : MB mb w z) (ht : mo.1 = nI t) (ht1 : t ≤ 1) (htw : t ≠ w) (hY : PY my t κy) (hE : EB mu me C F) (hC2 : C 2 = t) (hF : PL mf F) (hG : PG mg) (hW : PW mw) (hQ : LQ mq (C 3) κy) : TQ (X12_load_173 mt mk mc mb mo ms my mu ma me mr mp mg mw mf ml mq) LDQ := by
  have hw := hB.2.1
  unfold X12_load_173
  refine tq_i (fun _ => tq_s ⟨hC, w, t, hB.1, ht, hw, ht1, htw, hB.2.2.2.2, κy, C, F, hY, hE, hC2, hF, hG, hW, hQ⟩) (fun _ => ?_)
  obtain ⟨C', hE', hC2'⟩ := hE.tell w hw
  obtain ⟨κ', hY'⟩ := hY.tell w hw
  refine tq_g (by rw [hB.1]; exact inb_nI (by omega) (by decide)) (tq_s ⟨hC, 1 - w, w, ?_, hB.1, by omega, hw, by omega, hB.2.2.2.2, κ', C', F, hY', hE', hC2', hF, hG, hW, ⟨0, rfl, by decide, fun i h => absurd h (by omega)⟩, Or.inl rfl⟩)
  show (1 : Int32) - mb.2.1 = _
  rw [hB.1]
  have : ∀ w, w ≤ 1 → (1 : Int32) - nI w = nI (1 - w) := by
    intro w hw
    rcases Nat.lt_or_ge w 1 with h | h
    · have : w = 0 := by omega
      subst this
      decide
    · have : w = 1 := by omega
      subst this
      decide
  exact this w hw
theorem R_l140 (hC : ∃ a l, CU mc a l) (hB : MB mb w z) (hO : Rt mc → SEC2 ms.2.2.2.2.1 ms.2.2.2.2.2 7) (ht : mo.1 = nI t) (ht1 : t ≤ 1) (htw : t ≠ w) (hY : PY my t κy) (hE : EB mu me C F) (hC2 : C 2 = t) (hF : PL mf F) (hF0 : F w = 0) (hG : PG mg) (hW : PW mw) (hQ : LQ mq (C 3) κy) : TQ (X12_load_140 mt mk mc mb mo ms my mu ma me mr mp mg mw mf ml mq) LDQ := by
  unfold X12_load_140
  have t162 : ∀ (m : Tmc) (mu : Tmu) (ma : Tma) (me : Tme) (mr : Tmr) (mp : Tmp) (mg : Tmg) (C : Nat → Nat), (∃ a l, CU m a l) → (Rt m → SEC2 ms.2.2.2.2.1 ms.2.2.2.2.2 7) → EB mu me C F → C 2 = t → PG mg → LQ mq (C 3) κy → TQ (X12_load_162 mt mk m mb mo ms my mu ma me mr mp mg mw mf ml mq) LDQ := by
    intro m mu ma me mr mp mg C hm hO hE hC2 hG hQ
    unfold X12_load_162
    refine tq_i (fun _ => R_l173 hm hB ht ht1 htw hY hE hC2 hF hG hW hQ) (fun r => ?_)
    obtain ⟨a, l, hm⟩ := hm
    refine tq_b (R_lines hm hB (hO (rt_1 r)) hE hF hF0 hW) (fun q hq => ?_)
    obtain ⟨h1, h2, F', h3, h4⟩ := hq
    exact R_l173 h1 hB ht ht1 htw hY h3 hC2 h4 hG h2 hQ
  have t151 : ∀ (m : Tmc) (mu : Tmu) (ma : Tma) (me : Tme) (mr : Tmr) (mp : Tmp) (C : Nat → Nat), (∃ a l, CU m a l) → (Rt m → SEC2 ms.2.2.2.2.1 ms.2.2.2.2.2 7) → EB mu me C F → C 2 = t → LQ mq (C 3) κy → TQ (X12_load_151 mt mk m mb mo ms my mu ma me mr mp mg mw mf ml mq) LDQ := by
    intro m mu ma me mr mp C hm hO hE hC2 hQ
    unfold X12_load_151
    refine tq_i (fun _ => t162 _ _ _ _ _ _ _ C hm hO hE hC2 hG hQ) (fun r => ?_)
    have hO' := hO (rt_1 r)
    obtain ⟨a, l, hm⟩ := hm
    refine tq_b (R_ranges hm hB hO' hE hG) (fun q hq => ?_)
    exact t162 _ _ _ _ _ _ _ C hq.1 (fun _ => hO') hE hC2 hq.2 hQ
  refine tq_i (fun _ => t151 _ _ _ _ _ _ C hC hO hE hC2 hQ) (fun r => ?_)
  have hO' := hO (rt_1 r)
  obtain ⟨a, l, hm⟩ := hC
  refine tq_b (R_units htw hC2 rfl hm hB hO' hE) (fun q hq => ?_)
  obtain ⟨h1, C', h2, h3, h4⟩ := hq
  exact t151 _ _ _ _ _ _ C' h1 (fun _ => hO') h2 h3 (by rw [h4]; exact hQ)
theorem R_load {k : Nat} (hk : k ≤ 8000) (hmt : mt.2 = nI k) (hBt : By mt.1) (hJ : JB mc mb mo my mu me mg mw mf mq) : TQ (X12_load mt mc mb mo ms mk0 my mu ma me mr mp mg mw mf ml mq) LDQ := by
  obtain ⟨⟨a, l, hC⟩, w, t, hwb, ht, hw, ht1, htw, hBy, κy, C, F, hY, hE, hC2, hF, hG, hW, hQ⟩ := hJ
  have i2 : inb (nI w) 2 = true := inb_nI (by omega) (by decide)
  unfold X12_load X12_load_20
  refine lp_m (fun st => st.1 = (mc.1, mc.2.1, (0 : Int32), (-1 : Int32)) ∧ (st.2.1.2.1 = nI w ∧ st.2.1.2.2 = nI k ∧ By st.2.1.1) ∧ st.2.2.1 = mo ∧ st.2.2.2.1 = ms ∧ st.2.2.2.2.1 = my ∧ st.2.2.2.2.2.1 = mu ∧ st.2.2.2.2.2.2.1 = ma ∧ st.2.2.2.2.2.2.2.1 = me ∧ st.2.2.2.2.2.2.2.2.1 = mr ∧ st.2.2.2.2.2.2.2.2.2.1 = mp ∧ st.2.2.2.2.2.2.2.2.2.2.1 = mg ∧ st.2.2.2.2.2.2.2.2.2.2.2.1 = mw ∧ st.2.2.2.2.2.2.2.2.2.2.2.2.1 = mf ∧ st.2.2.2.2.2.2.2.2.2.2.2.2.2.1 = ml ∧ st.2.2.2.2.2.2.2.2.2.2.2.2.2.2.1 = mq ∧ ∃ j, j ≤ k ∧ st.2.2.2.2.2.2.2.2.2.2.2.2.2.2.2 = nI j) (fun st => 8001 - st.2.2.2.2.2.2.2.2.2.2.2.2.2.2.2.toNatClampNeg) (fun rec st hI hrec => ?_) FU _ ⟨rfl, ⟨hwb, hmt, hBy⟩, rfl, rfl, rfl, rfl, rfl, rfl, rfl, rfl, rfl, rfl, rfl, rfl, rfl, 0, Nat.zero_le _, rfl⟩ (by show 8001 - _ < 1000000000000; omega)
  obtain ⟨s1, s2, s3, s4, s5, s6, s7, s8, s9, s10, s11, s12, s13, s14, s15, s16⟩ := st
  obtain ⟨e1, ⟨b1, b2, b3⟩, e3, e4, e5, e6, e7, e8, e9, e10, e11, e12, e13, e14, e15, j, hj, e16⟩ := hI
  have e1 : s1 = (mc.1, mc.2.1, (0 : Int32), (-1 : Int32)) := e1
  have b1 : s2.2.1 = nI w := b1
  have b2 : s2.2.2 = nI k := b2
  have b3 : By s2.1 := b3
  have e3 : s3 = mo := e3
  have e4 : s4 = ms := e4
  have e5 : s5 = my := e5
  have e6 : s6 = mu := e6
  have e7 : s7 = ma := e7
  have e8 : s8 = me := e8
  have e9 : s9 = mr := e9
  have e10 : s10 = mp := e10
  have e11 : s11 = mg := e11
  have e12 : s12 = mw := e12
  have e13 : s13 = mf := e13
  have e14 : s14 = ml := e14
  have e15 : s15 = mq := e15
  have e16 : s16 = nI j := e16
  rw [e1, e3, e4, e5, e6, e7, e8, e9, e10, e11, e12, e13, e14, e15, e16]
  show TQ (X12_load_20b mt mk0 (fun a0 a1 a2 a3 a4 a5 a6 a7 a8 a9 a10 a11 a12 a13 a14 a15 => rec (a0, a1, a2, a3, a4, a5, a6, a7, a8, a9, a10, a11, a12, a13, a14, a15)) (mc.1, mc.2.1, (0 : Int32), (-1 : Int32)) s2 mo ms my mu ma me mr mp mg mw mf ml mq (nI j)) _
  have hB : MB s2 w k := ⟨b1, hw, b2, hk, b3⟩
  have e80 : (8000 : Int32) * nI w + nI j = nI (8000 * w + j) := by rw [show (8000 : Int32) = nI 8000 from rfl, nI_mul, nI_add]
  unfold X12_load_20b
  rw [hmt, b1, e80, nI_clamp (show w < 2 ^ 31 by omega)]
  refine tq_i (fun cj => ?_) (fun _ => ?_)
  · have hjk : j < k := (nI_ltI (by omega) (by omega)).mp cj
    rw [nI_clamp (show 8000 * w + j < 2 ^ 31 by omega), nI_clamp (show j < 2 ^ 31 by omega)]
    refine tq_g (inb_nI (by omega) (by decide)) (tq_g (inb_nI (by omega) (by decide)) ?_)
    refine hrec _ ⟨rfl, ⟨rfl, b2, fun i => ?_⟩, rfl, rfl, rfl, rfl, rfl, rfl, rfl, rfl, rfl, rfl, rfl, rfl, rfl, j + 1, by omega, nI_1 j⟩ ?_
    · show ∃ b, b < 256 ∧ upd s2.1 (8000 * w + j) (mt.1 j) i = nI b
      by_cases c : i = 8000 * w + j
      · subst c
        rw [upd_eq]
        exact hBt j
      · rw [upd_ne c]
        exact b3 i
    · show 8001 - (nI j + 1).toNatClampNeg < 8001 - s16.toNatClampNeg
      rw [e16, nI_1, nI_clamp (by omega), nI_clamp (by omega)]
      omega
  · refine tq_g i2 (tq_g i2 (tq_g i2 (tq_g i2 (tq_g i2 (tq_g i2 (tq_g i2 ?_))))))
    have hC0 : CU (mc.1, mc.2.1, (0 : Int32), (-1 : Int32)) a l := hC
    refine tq_b (R_header hC0 hB) (fun q hq => ?_)
    have hCw : C 2 ≠ w := by rw [hC2]; exact htw
    have z2 : stz C w 2 = t := (if_neg (by omega)).trans hC2
    have z3 : stz C w 3 = C 3 := if_neg (by omega)
    have zF : stz F w w = 0 := if_pos rfl
    have hQ' : LQ mq (stz C w 3) κy := by rw [z3]; exact hQ
    refine tq_i (fun r => ?_) (fun r => ?_)
    · exact R_l140 ⟨a, l, hq.1⟩ hB hq.2 ht ht1 htw (hY.zero htw) (hE.zero hw hCw) z2 hF.zero zF hG.zero hW.zero hQ'
    · have hO := hq.2 (rt_1 r)
      refine tq_b (R_symbols hq.1 hB hO htw (hY.zero htw)) (fun q12 h12 => ?_)
      exact R_l140 ⟨a, l, h12.1⟩ hB (fun _ => hO) ht ht1 htw h12.2 (hE.zero hw hCw) z2 hF.zero zF hG.zero hW.zero hQ'
end
