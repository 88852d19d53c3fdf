/-! totality of the reference: references, units -/
def muM (mc : Tmc) : Nat := mu mc
def EB (mu : Tmu) (me : Tme) (C F : Nat → Nat) : Prop := PU mu C F ∧ (∀ h, h ≤ 1 → ∃ n dep, HE mu me h n (C h) dep ∧ (h = C 2 → n = C 3)) ∧ RNG me ∧ LIN mu
theorem EB.ori {mu : Tmu} {me : Tme} {C F : Nat → Nat} {w n e x : Nat} (hE : EB mu me C F) (hw : w ≤ 1) (hn : me.1 w = nI n) (h400 : n ≤ 400) (he : e < n) (hx : x < n) : EB mu (me.1, me.2.1, me.2.2.1, me.2.2.2.1, upd me.2.2.2.2.1 (400 * w + e) (nI x), me.2.2.2.2.2.1, me.2.2.2.2.2.2.1, me.2.2.2.2.2.2.2.1, me.2.2.2.2.2.2.2.2.1, me.2.2.2.2.2.2.2.2.2.1, me.2.2.2.2.2.2.2.2.2.2.1, me.2.2.2.2.2.2.2.2.2.2.2.1, me.2.2.2.2.2.2.2.2.2.2.2.2.1, me.2.2.2.2.2.2.2.2.2.2.2.2.2.1, me.2.2.2.2.2.2.2.2.2.2.2.2.2.2.1, me.2.2.2.2.2.2.2.2.2.2.2.2.2.2.2.1, me.2.2.2.2.2.2.2.2.2.2.2.2.2.2.2.2.1, me.2.2.2.2.2.2.2.2.2.2.2.2.2.2.2.2.2.1, me.2.2.2.2.2.2.2.2.2.2.2.2.2.2.2.2.2.2) C F := by
  refine ⟨hE.1, fun h hh => ?_, hE.2.2⟩
  obtain ⟨n', dep, ⟨g0, g400, gUF, gORI, gNMS, gPAR⟩, hk⟩ := hE.2.1 h hh
  refine ⟨n', dep, ⟨g0, g400, gUF, fun j hj => ?_, gNMS, gPAR⟩, hk⟩
  show upd me.2.2.2.2.1 (400 * w + e) (nI x) (400 * h + j) = -1 ∨ ∃ y, upd me.2.2.2.2.1 (400 * w + e) (nI x) (400 * h + j) = nI y ∧ y < n'
  by_cases c : 400 * h + j = 400 * w + e
  · have : h = w := by omega
    subst this
    have : n' = n := (nI_eq (by omega) (by omega)).mp (g0.symm.trans hn)
    subst this
    rw [c]
    exact Or.inr ⟨x, upd_eq, hx⟩
  · rw [upd_ne c]
    exact gORI j hj
def RF (mr : Tmr) (r n : Nat) : Prop := mr.1 = nI r ∧ r ≤ 2000 ∧ ∀ i, i < r → ∃ e, mr.2.2.2.1 i = nI e ∧ e < n
def RTo (mr : Tmr) (r n : Nat) : Prop := ∀ i, i < r → ∃ x, mr.2.2.1 i = lN x ∧ x < n
def RQ (mu : Tmu) (a l : Nat) (C F : Nat → Nat) (q : Tmc × Tme × Tmr) : Prop := CU q.1 a l ∧ EB mu q.2.1 C F
section
variable {mc : Tmc} {mb : Tmb} {mu : Tmu} {me : Tme} {mr : Tmr} {w z a l n r : Nat} {C F : Nat → Nat}
theorem R_r148 {Q : Tmc × Tme × Tmr → Prop} {k136 : Tmc → Tme → Tmr → Int32 → Option (Tmc × Tme × Tmr)} {v3 : Int32} (hB : MB mb w z) (hF : RF mr r n) (h400 : n ≤ 400) (hT : Rt mc → RTo mr r n) (hk : ∀ me : Tme, EB mu me C F → me.1 w = nI n → TQ (k136 mc me mr (v3 + (-1 : Int32))) Q) (hE : EB mu me C F) (hn : me.1 w = nI n) : TQ (X12_resolves_148 mb mu k136 FU (mc, me, mr, v3, mr.1 - (1 : Int32))) Q := by
  have hw := hB.2.1
  have hr := hF.2.1
  unfold X12_resolves_148
  refine lp_m (fun st => st.1 = mc ∧ EB mu st.2.1 C F ∧ st.2.1.1 w = nI n ∧ st.2.2.1 = mr ∧ st.2.2.2.1 = v3 ∧ ∃ j, j ≤ r ∧ st.2.2.2.2 + 1 = nI j) (fun st => (st.2.2.2.2 + 1).toNatClampNeg) (fun rec st hI hrec => ?_) FU _ ⟨rfl, hE, hn, rfl, rfl, r, Nat.le_refl r, by show mr.1 - 1 + 1 = _; rw [Int32.sub_add_cancel, hF.1]⟩ (by show (mr.1 - 1 + 1).toNatClampNeg < 1000000000000; rw [Int32.sub_add_cancel, hF.1, nI_clamp (by omega)]; omega)
  obtain ⟨m, x, y, s3, s4⟩ := st
  obtain ⟨e1, hE, hn, e2, e3, j, hj, e4⟩ := hI
  have e1 : m = mc := e1
  have hE : EB mu x C F := hE
  have hn : x.1 w = nI n := hn
  have e2 : y = mr := e2
  have e3 : s3 = v3 := e3
  have e4 : s4 + 1 = nI j := e4
  subst e1 e2 e3
  have e4' : s4 = nI j - 1 := by rw [← e4, Int32.add_sub_cancel]
  show TQ (X12_resolves_148b mb mu k136 (fun a0 a1 a2 a3 a4 => rec (a0, a1, a2, a3, a4)) m x y s3 s4) _
  unfold X12_resolves_148b X12_resolves_206 X12_resolves_200
  cases j with
  | zero =>
    rw [if_pos (by rw [e4']; decide)]
    exact hk x hE hn
  | succ j =>
    have e6 : s4 = nI j := by rw [e4', nI_pred]
    subst e6
    rw [if_neg (nI_pos (by omega))]
    refine tq_i (fun _ => hk x hE hn) (fun r1 => ?_)
    have i1 : inb (nI j) 2001 = true := inb_nI (by omega) (by decide)
    have em : nI j + (-1 : Int32) + 1 = nI j := by
      rw [Int32.add_assoc, show (-1 : Int32) + 1 = 0 by decide, Int32.add_zero]
    have nx : ∀ x : Tme, EB mu x C F → x.1 w = nI n → TQ (rec (m, x, y, s3, nI j + (-1 : Int32))) Q := fun x hE hn => by
      refine hrec _ ⟨rfl, hE, hn, rfl, rfl, j, by omega, em⟩ ?_
      show (nI j + (-1 : Int32) + 1).toNatClampNeg < (nI j + 1).toNatClampNeg
      rw [em, nI_1, nI_clamp (by omega), nI_clamp (by omega)]
      omega
    obtain ⟨e, he, hen⟩ := hF.2.2 j (by omega)
    obtain ⟨t, ht, htn⟩ := hT (rt_1 r1) j (by omega)
    rw [nI_clamp (show j < 2 ^ 31 by omega), he, ht, lN_i, hB.1, ix400, nI_clamp (show 400 * w + e < 2 ^ 31 by omega)]
    refine tq_g i1 (tq_i (fun _ => ?_) (fun _ => nx x hE hn))
    exact tq_g i1 (tq_g i1 (tq_g (inb_nI (by omega) (by decide)) (nx _ (hE.ori hw hn h400 hen htn) hn)))
theorem R_r134 (hC : CU mc a l) (hB : MB mb w z) (hF : RF mr r n) (h400 : n ≤ 400) (hT : Rt mc → RTo mr r n) (hE : EB mu me C F) (hn : me.1 w = nI n) : TQ (X12_resolves_134 mb mu mc me mr) (RQ mu a l C F) := by
  unfold X12_resolves_134 X12_resolves_136
  refine lp_m (fun st => st.1 = mc ∧ EB mu st.2.1 C F ∧ st.2.1.1 w = nI n ∧ st.2.2.1 = mr ∧ ∃ t, t ≤ 2 ∧ st.2.2.2 = nI t) (fun st => st.2.2.2.toNatClampNeg) (fun rec st hI hrec => ?_) FU _ ⟨rfl, hE, hn, rfl, 2, by decide, rfl⟩ (by show ((2 : Int32)).toNatClampNeg < 1000000000000; decide)
  obtain ⟨m, x, y, s3⟩ := st
  obtain ⟨e1, hE, hn, e2, t, ht, e3⟩ := hI
  have e1 : m = mc := e1
  have hE : EB mu x C F := hE
  have hn : x.1 w = nI n := hn
  have e2 : y = mr := e2
  have e3 : s3 = nI t := e3
  subst e1 e2 e3
  show TQ (X12_resolves_136b mb mu (fun a0 a1 a2 a3 => rec (a0, a1, a2, a3)) m x y (nI t)) _
  unfold X12_resolves_136b
  refine tq_i (fun c => ?_) (fun _ => tq_s ⟨hC, hE⟩)
  cases t with
  | zero => exact absurd c (by decide)
  | succ t =>
    have em : nI (t + 1) + (-1 : Int32) = nI t := by
      rw [← nI_1, Int32.add_assoc, show (1 : Int32) + (-1) = 0 by decide, Int32.add_zero]
    refine R_r148 hB hF h400 hT (fun x' hE' hn' => ?_) hE hn
    show TQ (rec (m, x', y, nI (t + 1) + (-1 : Int32))) _
    rw [em]
    refine hrec _ ⟨rfl, hE', hn', rfl, t, by omega, rfl⟩ ?_
    show (nI t).toNatClampNeg < (nI (t + 1)).toNatClampNeg
    rw [nI_clamp (by omega), nI_clamp (by omega)]
    omega
theorem R_r27 {v1 : Int32} {f0 : Nat} (hC : CU mc a l) (hB : MB mb w z) (hF : RF mr r n) (h400 : n ≤ 400) (hf0 : f0 ≤ n) (hE : EB mu me C F) (hn : me.1 w = nI n) : TQ (X12_resolves_27 mb mu FU (mc, me, mr, v1, nI f0, (0 : Int32))) (RQ mu a l C F) := by
  have hw := hB.2.1
  have hr := hF.2.1
  have i2 : inb (nI w) 2 = true := inb_nI (by omega) (by decide)
  unfold X12_resolves_27
  refine lp_m (fun st => CU st.1 a l ∧ st.2.1 = me ∧ RF st.2.2.1 r n ∧ st.2.2.2.2.1 = nI f0 ∧ ∃ i, i ≤ r ∧ st.2.2.2.2.2 = nI i ∧ RTo st.2.2.1 i n) (fun st => 2001 - st.2.2.2.2.2.toNatClampNeg) (fun rec st hI hrec => ?_) FU _ ⟨hC, rfl, hF, rfl, 0, Nat.zero_le _, rfl, fun i h => absurd h (by omega)⟩ (by show 2001 - _ < 1000000000000; omega)
  obtain ⟨m, x, y, s1, s2, s3⟩ := st
  obtain ⟨hC, e1, hF, e2, i, hi, e3, hT⟩ := hI
  have hC : CU m a l := hC
  have e1 : x = me := e1
  have hF : RF y r n := hF
  have e2 : s2 = nI f0 := e2
  have e3 : s3 = nI i := e3
  have hT : RTo y i n := hT
  subst e1 e2 e3
  show TQ (X12_resolves_27b mb mu (fun a0 a1 a2 a3 a4 a5 => rec (a0, a1, a2, a3, a4, a5)) m x y s1 (nI f0) (nI i)) _
  unfold X12_resolves_27b
  rw [hF.1]
  refine tq_i (fun ci => ?_) (fun ci => ?_)
  rotate_left
  · have : i = r := by
      rcases Nat.lt_or_ge i r with q | q
      · exact absurd (nI_lt q (by omega)) ci
      · omega
    subst this
    exact R_r134 hC hB hF h400 (fun _ => hT) hE hn
  have hir : i < r := (nI_ltI (by omega) (by omega)).mp ci
  refine tq_i (fun r0 => R_r134 hC hB hF h400 (fun h => absurd h (rt_0 r0)) hE hn) (fun _ => ?_)
  have i1 : inb (nI i) 2001 = true := inb_nI (by omega) (by decide)
  unfold X12_resolves_48
  refine lp_m (fun st => st.1 = m ∧ st.2.1 = x ∧ st.2.2.1 = y ∧ st.2.2.2.1 = s1 ∧ st.2.2.2.2.1 = nI f0 ∧ st.2.2.2.2.2.1 = nI i ∧ (st.2.2.2.2.2.2.1 = -1 ∨ ∃ t, st.2.2.2.2.2.2.1 = nI t ∧ t < n) ∧ ∃ j, j ≤ 400 ∧ st.2.2.2.2.2.2.2 = nI j) (fun st => 401 - st.2.2.2.2.2.2.2.toNatClampNeg) (fun rec2 st hI hrec2 => ?_) FU _ ⟨rfl, rfl, rfl, rfl, rfl, rfl, Or.inl rfl, f0, by omega, rfl⟩ (by show 401 - _ < 1000000000000; omega)
  obtain ⟨m', x', y', t1, t2, t3, t4, t5⟩ := st
  obtain ⟨g1, g2, g3, g4, g5, g6, h4, j, hj, g7⟩ := hI
  have g1 : m' = m := g1
  have g2 : x' = x := g2
  have g3 : y' = y := g3
  have g4 : t1 = s1 := g4
  have g5 : t2 = nI f0 := g5
  have g6 : t3 = nI i := g6
  have g7 : t5 = nI j := g7
  have h4 : t4 = -1 ∨ ∃ t, t4 = nI t ∧ t < n := h4
  subst g1 g2 g3 g4 g5 g6 g7
  show TQ (X12_resolves_48b mb mu (fun a0 a1 a2 a3 a4 a5 => rec (a0, a1, a2, a3, a4, a5)) (fun a0 a1 a2 a3 a4 a5 a6 a7 => rec2 (a0, a1, a2, a3, a4, a5, a6, a7)) m' x' y' t1 (nI f0) (nI i) t4 (nI j)) _
  unfold X12_resolves_48b X12_resolves_95
  rw [hB.1, nI_clamp (show w < 2 ^ 31 by omega), hn]
  refine tq_g i2 (tq_i (fun cj => ?_) (fun _ => ?_))
  · have hjn : j < n := (nI_ltI (by omega) (by omega)).mp cj
    rw [ix400]
    have nx : ∀ v : Int32, (v = -1 ∨ ∃ t, v = nI t ∧ t < n) → TQ (rec2 (m', x', y', t1, nI f0, nI i, v, nI j + 1)) (RQ mu a l C F) := fun v hv => by
      refine hrec2 _ ⟨rfl, rfl, rfl, rfl, rfl, rfl, hv, j + 1, by omega, nI_1 j⟩ ?_
      show 401 - (nI j + 1).toNatClampNeg < 401 - (nI j).toNatClampNeg
      rw [nI_1, nI_clamp (by omega), nI_clamp (by omega)]
      omega
    exact tq_g (inb_nI (by omega) (by decide)) (tq_g i1 (tq_i (fun _ => nx _ (Or.inr ⟨j, rfl, hjn⟩)) (fun _ => nx _ h4)))
  · refine tq_i (fun _ => tq_g i1 (tq_l (tq_s ⟨hC.fail, hE⟩))) (fun c4 => tq_g i1 ?_)
    rcases h4 with h | ⟨t, rfl, htn⟩
    · exact absurd h c4
    rw [nI_clamp (show i < 2 ^ 31 by omega), nI_l (show t < 2 ^ 31 by omega)]
    refine hrec _ ⟨hC, rfl, ⟨hF.1, hF.2.1, hF.2.2⟩, rfl, i + 1, by omega, nI_1 i, fun k hk => ?_⟩ ?_
    · show ∃ x, vp_updL y'.2.2.1 i (lN t) k = lN x ∧ x < n
      by_cases c : k = i
      · subst c
        exact ⟨t, updL_eq, htn⟩
      · rw [updL_ne c]
        exact hT k (by omega)
    · show 2001 - (nI i + 1).toNatClampNeg < 2001 - (nI i).toNatClampNeg
      rw [nI_1, nI_clamp (by omega), nI_clamp (by omega)]
      omega
theorem R_resolves {v1 : Int32} {f0 c : Nat} (hC : CU mc a l) (hB : MB mb w z) (hR : REF mr a n) (h400 : n ≤ 400) (hc : c < 20) (hu : mu.1 w = nI (c + 1)) (hf : mu.2.2.1 (20 * w + c) = nI f0) (hf0 : f0 ≤ n) (hE : EB mu me C F) (hn : me.1 w = nI n) : TQ (X12_resolves mc mb mu me mr v1) (RQ mu a l C F) := by
  have hw := hB.2.1
  obtain ⟨r, h1, h2, h3⟩ := hR
  have ha := hC.2.2.1
  have e20 : (20 : Int32) * nI w + nI (c + 1) - 1 = nI (20 * w + c) := by
    rw [show (20 : Int32) = nI 20 from rfl, nI_mul, nI_add, show 20 * w + (c + 1) = 20 * w + c + 1 by omega, nI_pred]
  unfold X12_resolves
  rw [hB.1, nI_clamp (show w < 2 ^ 31 by omega), hu, e20, nI_clamp (show 20 * w + c < 2 ^ 31 by omega), hf]
  exact tq_g (inb_nI (by omega) (by decide)) (tq_g (inb_nI (by omega) (by decide)) (R_r27 hC hB ⟨h1, by omega, h3⟩ h400 hf0 hE hn))
end
def upC (C : Nat → Nat) (w : Nat) : Nat → Nat := fun h => if h = w then C w + 1 else C h
theorem LE.fin {mu : Tmu} {me : Tme} {w n : Nat} {C F dep : Nat → Nat} (hw : w ≤ 1) (hCt : C 2 ≠ w) (hL : LE mu me w n C F dep) : EB (upd mu.1 w (nI (C w) + (1 : Int32)), mu.2.1, mu.2.2.1, mu.2.2.2.1, mu.2.2.2.2.1, mu.2.2.2.2.2.1, mu.2.2.2.2.2.2) me (upC C w) F := by
  obtain ⟨hPU, hCw, hOth, hE, hRNG, hLIN, -, x, y, hx, hy, hxy⟩ := hL
  refine ⟨fun h hh => ?_, fun h hh => ?_, hRNG, hLIN⟩
  · obtain ⟨g1, g2, g3⟩ := hPU h hh
    by_cases c : h = w
    · subst c
      have ec : upC C h h = C h + 1 := if_pos rfl
      rw [ec]
      refine ⟨by show upd mu.1 h (nI (C h) + 1) h = _; rw [upd_eq, nI_1], by omega, fun u hu => ?_⟩
      by_cases cu : u = C h
      · subst cu
        exact ⟨x, y, hx, hy, hxy⟩
      · exact g3 u (by omega)
    · have ec : upC C w h = C h := if_neg c
      rw [ec]
      exact ⟨(upd_ne c).trans g1, g2, g3⟩
  · by_cases c : h = w
    · subst c
      have ec : upC C h h = C h + 1 := if_pos rfl
      have e2 : upC C h 2 = C 2 := if_neg (by omega)
      rw [ec, e2]
      exact ⟨n, dep, hE, fun e => absurd e.symm hCt⟩
    · have ec : upC C w h = C h := if_neg c
      have e2 : upC C w 2 = C 2 := if_neg (by omega)
      have e3 : upC C w 3 = C 3 := if_neg (by omega)
      rw [ec, e2, e3]
      exact hOth h hh c
theorem HE.first {mu : Tmu} {me : Tme} {h n w : Nat} {C dep : Nat → Nat} {v : Int32} {f1 f3 f4 : Nat → Int32} {f5 : Nat → Int32} {f6 : Nat → Int64} (hE : HE mu me h n (C h) dep) (hC : C h ≤ 20) (hCw : C w < 20) : HE (mu.1, f1, upd mu.2.2.1 (20 * w + C w) v, f3, f4, f5, f6) me h n (C h) dep := by
  obtain ⟨g0, g400, gUF, g⟩ := hE
  refine ⟨g0, g400, fun e he => ?_, g⟩
  obtain ⟨x, k, h1, h2, h3, h4⟩ := gUF e he
  refine ⟨x, k, h1, h2, ?_, h4⟩
  show upd mu.2.2.1 (20 * w + C w) v (20 * h + x) = nI k
  rw [upd_ne (fun c => ?_)]
  · exact h3
  · have : h = w := by omega
    subst this
    omega
theorem EB.opn {mu : Tmu} {me : Tme} {C F : Nat → Nat} {w : Nat} {v1 : Int32} (hw : w ≤ 1) (hE : EB mu me C F) (hCw : C w < 20) : ∃ n dep, me.1 w = nI n ∧ n ≤ 400 ∧ LE (mu.1, upd mu.2.1 (20 * w + C w) v1, upd mu.2.2.1 (20 * w + C w) (nI n), upd mu.2.2.2.1 (20 * w + C w) (0 : Int32), upd mu.2.2.2.2.1 (20 * w + C w) (0 : Int32), upd mu.2.2.2.2.2.1 (C w) (vp_nar .boolean (0 : Int32)), mu.2.2.2.2.2.2) me w n C F dep := by
  obtain ⟨hPU, hH, hRNG, hLIN⟩ := hE
  obtain ⟨n, dep, hW, -⟩ := hH w hw
  refine ⟨n, dep, hW.1, hW.2.1, fun h hh => ?_, hCw, fun h hh _ => ?_, ?_, hRNG, fun u => ?_, ⟨n, upd_eq, Nat.le_refl n⟩, 0, 0, upd_eq, upd_eq, Nat.zero_le _⟩
  · obtain ⟨g1, g2, g3⟩ := hPU h hh
    refine ⟨g1, g2, fun u hu => ?_⟩
    obtain ⟨x, y, h1, h2, h3⟩ := g3 u hu
    have ne : 20 * h + u ≠ 20 * w + C w := fun c => by
      have : h = w := by omega
      subst this
      omega
    exact ⟨x, y, (upd_ne ne).trans h1, (upd_ne ne).trans h2, h3⟩
  · obtain ⟨n', dep', g, hk⟩ := hH h hh
    exact ⟨n', dep', g.first (hPU h hh).2.1 hCw, hk⟩
  · have g := hW.first (w := w) (v := nI n) (f1 := upd mu.2.1 (20 * w + C w) v1) (f3 := upd mu.2.2.2.1 (20 * w + C w) (0 : Int32)) (f4 := upd mu.2.2.2.2.1 (20 * w + C w) (0 : Int32)) (f5 := upd mu.2.2.2.2.2.1 (C w) (vp_nar .boolean (0 : Int32))) (f6 := mu.2.2.2.2.2.2) (hPU w hw).2.1 hCw
    refine ⟨g.1, g.2.1, fun e he => ?_, g.2.2.2⟩
    obtain ⟨x, k, h1, h2, h3⟩ := g.2.2.1 e he
    exact ⟨x, k, h1, by omega, h3⟩
  · show upd mu.2.2.2.2.2.1 (C w) (vp_nar .boolean (0 : Int32)) u = 0 ∨ _
    by_cases c : u = C w
    · subst c
      rw [upd_eq]
      exact Or.inl nar0
    · rw [upd_ne c]
      exact hLIN u
def UQ (F : Nat → Nat) (t κ : Nat) (q : Tmc × Tmu × Tma × Tme × Tmr × Tmp) : Prop := (∃ a l, CU q.1 a l) ∧ ∃ C, EB q.2.1 q.2.2.2.1 C F ∧ C 2 = t ∧ C 3 = κ
theorem R_unit57 {mc : Tmc} {mb : Tmb} {ms : Tms} {mu : Tmu} {ma : Tma} {me : Tme} {mr : Tmr} {mp : Tmp} {w z a l e off t κ : Nat} {C F : Nat → Nat} {v1 : Int32} (htw : t ≠ w) (hC2 : C 2 = t) (hC3 : C 3 = κ) (hC : CU mc a l) (hB : MB mb w z) (hO : SEC2 ms.2.2.2.2.1 ms.2.2.2.2.2 7) (hE : EB mu me C F) (hCw : C w < 20) (he : e ≤ 8000) (hoff : Rt mc → ∀ y, ms.2.2.2.2.2 2 = nI y → y ≤ 8000 → off < y) : TQ (X12_unit_57 mb ms mc mu ma me mr mp v1 (nI e) (lN off)) (UQ F t κ) := by
  have hw := hB.2.1
  obtain ⟨x, y, hx, hy, hxy⟩ := hO 2 (by decide)
  have c2 : ((2 : Int32)).toNatClampNeg = 2 := by decide
  unfold X12_unit_57
  refine tq_i (fun _ => tq_s ⟨⟨a, l, hC⟩, C, hE, hC2, hC3⟩) (fun r => ?_)
  have hoy := hoff (rt_1 r) y hy (by omega)
  refine tq_g (by decide) ?_
  refine tq_b (R_endOf (o := 2) (by decide) (show (2 : Int32) = nI 2 from rfl) hx hy) (fun q3 h3 => ?_)
  rw [c2, hx, lN_i, nI_add, h3]
  refine tq_b (R_abbreviations (a := x + off) (l := x + y) ⟨rfl, rfl, by omega, by omega⟩ hB) (fun q5 h5 => ?_)
  obtain ⟨⟨a5, g5⟩, c, hA⟩ := h5
  refine tq_i (fun _ => tq_s ⟨⟨a5, _, g5⟩, C, hE, hC2, hC3⟩) (fun _ => ?_)
  obtain ⟨n, dep, hn, h400, hL⟩ := hE.opn (v1 := v1) hw hCw
  have e20 : (20 : Int32) * nI w + nI (C w) = nI (20 * w + C w) := by rw [show (20 : Int32) = nI 20 from rfl, nI_mul, nI_add]
  have i2 : inb (nI w) 2 = true := inb_nI (by omega) (by decide)
  have i40 : inb (nI (20 * w + C w)) 40 = true := inb_nI (by omega) (by decide)
  have i20 : inb (nI (C w)) 20 = true := inb_nI hCw (by decide)
  rw [hB.1, nI_clamp (show w < 2 ^ 31 by omega), (hE.1 w hw).1, hn, e20, nI_clamp (show 20 * w + C w < 2 ^ 31 by omega), nI_clamp (show C w < 2 ^ 31 by omega)]
  refine tq_g i2 (tq_g i40 (tq_g i2 (tq_g i40 (tq_g i40 (tq_g i40 (tq_g i2 (tq_g i20 ?_)))))))
  refine tq_b (R_entries (a := a) (l := e) (n := n) ⟨hC.1, rfl, hC.2.2.1, he⟩ hB hO hA hL ⟨0, rfl, Nat.zero_le _, fun i h => absurd h (by omega)⟩) (fun q hq => ?_)
  obtain ⟨a', n', dep', g1, g2, g3⟩ := hq
  refine tq_g i2 (tq_g i2 ?_)
  rw [(g2.1 w hw).1]
  obtain ⟨f0, hf0, hfn⟩ := g2.2.2.2.2.2.2.1
  refine tq_b (R_resolves (c := C w) (f0 := f0) (n := n') g1 hB g3 g2.2.2.2.1.2.1 hCw (by show upd q.2.1.1 w (nI (C w) + 1) w = _; rw [upd_eq, nI_1]) hf0 hfn (g2.fin hw (by rw [hC2]; exact htw)) g2.2.2.2.1.1) (fun q20 h20 => ?_)
  exact tq_s ⟨⟨a', e, h20.1⟩, _, h20.2, (if_neg (by omega)).trans hC2, (if_neg (by omega)).trans hC3⟩
theorem R_unit {mc : Tmc} {mb : Tmb} {ms : Tms} {mu : Tmu} {ma : Tma} {me : Tme} {mr : Tmr} {mp : Tmp} {w z a l e t κ : Nat} {C F : Nat → Nat} {v1 v2 : Int32} (htw : t ≠ w) (hC2 : C 2 = t) (hC3 : C 3 = κ) (hC : CU mc a l) (hB : MB mb w z) (hO : SEC2 ms.2.2.2.2.1 ms.2.2.2.2.2 7) (hE : EB mu me C F) (hCw : C w < 20) (h2 : v2 = nI e) (he : e ≤ 8000) : TQ (X12_unit mc mb ms mu ma me mr mp v1 v2) (UQ F t κ) := by
  subst h2
  obtain ⟨x, y, hx, hy, hxy⟩ := hO 2 (by decide)
  have c2 : ((2 : Int32)).toNatClampNeg = 2 := by decide
  unfold X12_unit
  refine tq_b (R_must hC hB (show (2 : Int32) = nI 2 from rfl) (by decide)) (fun q1 h1 => ?_)
  obtain ⟨a1, g1, -, -⟩ := h1
  refine tq_b (R_must g1 hB (show (1 : Int32) = nI 1 from rfl) (by decide)) (fun q3 h3 => ?_)
  obtain ⟨a3, g3, -, -⟩ := h3
  refine tq_b (R_must g3 hB (show (1 : Int32) = nI 1 from rfl) (by decide)) (fun q5 h5 => ?_)
  obtain ⟨a5, g5, -, -⟩ := h5
  refine tq_b (R_number g5 hB (show (4 : Int32) = nI 4 from rfl) (by decide)) (fun q7 h7 => ?_)
  obtain ⟨a7, g7, -, hv, -⟩ := h7
  obtain ⟨off, hoff, ev⟩ := hv (by decide)
  rw [ev, c2, hy, nI_l (show y < 2 ^ 31 by omega)]
  refine tq_i (fun r => R_unit57 htw hC2 hC3 g7 hB hO hE hCw he (fun h => absurd h (rt_0 r))) (fun _ => tq_g (by decide) ?_)
  refine tq_i (fun c => ?_) (fun _ => tq_l (R_unit57 htw hC2 hC3 g7.fail hB hO hE hCw he (fun h => absurd h (rt_fail (by decide)))))
  refine R_unit57 htw hC2 hC3 g7 hB hO hE hCw he (fun _ y' hy' hle => ?_)
  have : y = y' := (nI_eq (by omega) (by omega)).mp (hy.symm.trans hy')
  subst this
  exact (lN_ltB (by omega) (by omega)).mp c
theorem R_units {mc : Tmc} {mb : Tmb} {ms : Tms} {mu : Tmu} {ma : Tma} {me : Tme} {mr : Tmr} {mp : Tmp} {w z a l t κ : Nat} {C F : Nat → Nat} (htw : t ≠ w) (hC2 : C 2 = t) (hC3 : C 3 = κ) (hC : CU mc a l) (hB : MB mb w z) (hO : SEC2 ms.2.2.2.2.1 ms.2.2.2.2.2 7) (hE : EB mu me C F) : TQ (X12_units mc mb ms mu ma me mr mp) (UQ F t κ) := by
  have hw := hB.2.1
  obtain ⟨x, y, hx, hy, hxy⟩ := hO 3 (by decide)
  have c3 : ((3 : Int32)).toNatClampNeg = 3 := by decide
  have i2 : inb (nI w) 2 = true := inb_nI (by omega) (by decide)
  unfold X12_units
  rw [c3, hx]
  refine tq_g (by decide) ?_
  unfold X12_units_10
  refine lp_m (fun st => (∃ b l, CU st.1 b l) ∧ ∃ C, EB st.2.1 st.2.2.2.1 C F ∧ C 2 = t ∧ C 3 = κ) (fun st => muM st.1) (fun rec st hI hrec => ?_) FU _ ⟨⟨x, l, rfl, hC.2.1, by omega, hC.2.2.2⟩, C, hE, hC2, hC3⟩ (mu_FU _)
  obtain ⟨mc, mu, ma, me, mr, mp⟩ := st
  obtain ⟨⟨b, l, hC⟩, C, hE, hC2, hC3⟩ := hI
  have hC : CU mc b l := hC
  have hE : EB mu me C F := hE
  show TQ (X12_units_10b mb ms (fun a0 a1 a2 a3 a4 a5 => rec (a0, a1, a2, a3, a4, a5)) mc mu ma me mr mp) _
  unfold X12_units_10b
  refine tq_i (fun _ => tq_s ⟨⟨b, l, hC⟩, C, hE, hC2, hC3⟩) (fun r => ?_)
  have r := rt_1 r
  have tE : TQ (X12_endOf ms (3 : Int32)) (fun q => q = nI (x + y)) := R_endOf (o := 3) (by decide) rfl hx hy
  refine tq_b tE (fun q2 h2 => ?_)
  refine tq_i (fun _ => ?_) (fun _ => tq_s ⟨⟨b, l, hC⟩, C, hE, hC2, hC3⟩)
  refine tq_b tE (fun q5 h5 => ?_)
  refine tq_b tE (fun q7 h7 => ?_)
  refine tq_b (R_lengthIn (a := b) (l := x + y) (e := x + y) ⟨hC.1, h5, hC.2.2.1, by omega⟩ hB h7 (by omega)) (fun q9 h9 => ?_)
  obtain ⟨a9, g9, hle9, hr9⟩ := h9
  have t80 : ∀ m : Tmc, CU m a9 (x + y) → (Rt m → C w < 20 ∧ ∃ e', q9.1 = nI e' ∧ b < e' ∧ e' ≤ 8000) → TQ (X12_units_80 mb ms (fun a0 a1 a2 a3 a4 a5 => rec (a0, a1, a2, a3, a4, a5)) m mu ma me mr mp mc.1 q9.1) (UQ F t κ) := by
    intro m hm hr
    unfold X12_units_80
    refine tq_i (fun _ => tq_s ⟨⟨a9, _, hm⟩, C, hE, hC2, hC3⟩) (fun r' => ?_)
    obtain ⟨hCw, e', ee, hbe, he8⟩ := hr (rt_1 r')
    refine tq_b (R_unit (a := a9) (l := e') htw hC2 hC3 ⟨hm.1, ee, hm.2.2.1, he8⟩ hB hO hE hCw ee he8) (fun q hq => ?_)
    obtain ⟨⟨a', l', g⟩, C', hE', hC2', hC3'⟩ := hq
    exact hrec _ ⟨⟨e', l', ee, g.2.1, he8, g.2.2.2⟩, C', hE', hC2', hC3'⟩ (mu_lt hC r (show CU (q9.1, q.1.2.1, q.1.2.2.1, q.1.2.2.2) e' l' from ⟨ee, g.2.1, he8, g.2.2.2⟩) (fun _ => hbe))
  refine tq_i (fun r' => t80 _ g9 (fun h => absurd h (rt_0 r'))) (fun r' => ?_)
  obtain ⟨-, hlt, e', ee, h1, h2⟩ := hr9 (rt_1 r')
  rw [hB.1, nI_clamp (show w < 2 ^ 31 by omega), (hE.1 w hw).1]
  refine tq_g i2 (tq_i (fun _ => tq_l (t80 _ g9.fail (fun h => absurd h (rt_fail (by decide))))) (fun c20 => ?_))
  refine t80 _ g9 (fun _ => ⟨?_, e', ee, by omega, by omega⟩)
  rcases Nat.lt_or_ge (C w) 20 with q | q
  · exact q
  · exact absurd (by rw [show C w = 20 by have := (hE.1 w hw).2.1; omega]; rfl) c20
