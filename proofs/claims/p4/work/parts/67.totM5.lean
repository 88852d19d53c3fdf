/-! totality of the reference: entries of a unit -/
def PATH (mp : Tmp) (d n : Nat) (dep : Nat → Nat) : Prop := mp.2 = nI d ∧ d ≤ 24 ∧ ∀ i, i < d → ∃ p, mp.1 i = nI p ∧ p < n ∧ dep p = i
def EQ (w a l : Nat) (C F : Nat → Nat) (q : Tmc × Tmu × Tme × Tmr × Tmp) : Prop := ∃ a' n dep d, CU q.1 a' l ∧ a ≤ a' ∧ LE q.2.1 q.2.2.1 w n C F dep ∧ REF q.2.2.2.1 a' n ∧ PATH q.2.2.2.2 d n dep
theorem nar0 : vp_nar .boolean (0 : Int32) = 0 := by decide
theorem R_e258 {mc : Tmc} {mb : Tmb} {ms : Tms} {mu : Tmu} {ma : Tma} {me : Tme} {mr : Tmr} {mp : Tmp} {w z a b l n e c k d : Nat} {C F dep : Nat → Nat} (hC : CU mc b l) (hab : a ≤ b) (hB : MB mb w z) (hO : SEC2 ms.2.2.2.2.1 ms.2.2.2.2.2 7) (hA : ABP ma c) (hk : k < c) (hL : LE mu me w n C F dep) (hR : REF mr b n) (he : e < n) (hd : d < 24) (hde : dep e = d) (hP : PATH mp d n dep) : TQ (X12_enters_258 mb ms ma FU (mc, mu, me, mr, mp, nI k, nI e, (16 : Int32) * nI k)) (EQ w a l C F) := by
  obtain ⟨ec, hc, hp⟩ := hA
  obtain ⟨p, hp16, ep⟩ := hp k hk
  have i40 : inb (nI k) 40 = true := inb_nI (by omega) (by decide)
  have e16 : (16 : Int32) * nI k = nI (16 * k) := by rw [show (16 : Int32) = nI 16 from rfl, nI_mul]
  have t316 : ∀ (mc : Tmc) (mu : Tmu) (me : Tme) (mr : Tmr) (b : Nat), CU mc b l → a ≤ b → LE mu me w n C F dep → REF mr b n → TQ (X12_enters_316 mb ms ma mc mu me mr mp (nI k) (nI e)) (EQ w a l C F) := by
    intro mc mu me mr b hC hab hL hR
    unfold X12_enters_316
    refine tq_g i40 (tq_i (fun _ => tq_s ⟨b, n, dep, d, hC, hab, hL, hR, hP⟩) (fun _ => ?_))
    rw [hP.1, nI_clamp (show d < 2 ^ 31 by omega)]
    refine tq_g (inb_nI hd (by decide)) (tq_s ⟨b, n, dep, d + 1, hC, hab, hL, hR, nI_1 d, by omega, fun i hi => ?_⟩)
    show ∃ p, upd mp.1 d (nI e) i = nI p ∧ p < n ∧ dep p = i
    by_cases ci : i = d
    · subst ci
      exact ⟨e, upd_eq, he, hde⟩
    · obtain ⟨p', g1, g2⟩ := hP.2.2 i (by omega)
      exact ⟨p', (upd_ne ci).trans g1, g2⟩
  unfold X12_enters_258
  rw [e16]
  refine lp_m (fun st => (∃ b, CU st.1 b l ∧ a ≤ b ∧ REF st.2.2.2.1 b n) ∧ LE st.2.1 st.2.2.1 w n C F dep ∧ st.2.2.2.2.1 = mp ∧ st.2.2.2.2.2.1 = nI k ∧ st.2.2.2.2.2.2.1 = nI e ∧ ∃ j, 16 * k + j ≤ 640 ∧ st.2.2.2.2.2.2.2 = nI (16 * k + j)) (fun st => 640 - st.2.2.2.2.2.2.2.toNatClampNeg) (fun rec st hI hrec => ?_) FU _ ⟨⟨b, hC, hab, hR⟩, hL, rfl, rfl, rfl, 0, by omega, rfl⟩ (by show 640 - _ < 1000000000000; omega)
  obtain ⟨mc, mu, me, mr, mp', s4, s5, s7⟩ := st
  obtain ⟨⟨b, hC, hab, hR⟩, hL, e1, e4, e5, j, hj, e7⟩ := hI
  have hC : CU mc b l := hC
  have hR : REF mr b n := hR
  have hL : LE mu me w n C F dep := hL
  have e1 : mp' = mp := e1
  have e4 : s4 = nI k := e4
  have e5 : s5 = nI e := e5
  have e7 : s7 = nI (16 * k + j) := e7
  subst e1 e4 e5 e7
  show TQ (X12_enters_258b mb ms ma (fun a0 a1 a2 a3 a4 a5 a6 a7 => rec (a0, a1, a2, a3, a4, a5, a6, a7)) mc mu me mr mp' (nI k) (nI e) (nI (16 * k + j))) _
  unfold X12_enters_258b
  rw [nI_clamp (show k < 2 ^ 31 by omega), ep, e16, nI_add]
  refine tq_g i40 (tq_i (fun cj => ?_) (fun _ => t316 _ _ _ _ b hC hab hL hR))
  have hjp : 16 * k + j < 16 * k + p := (nI_ltI (by omega) (by omega)).mp cj
  refine tq_i (fun _ => t316 _ _ _ _ b hC hab hL hR) (fun _ => ?_)
  have i640 : inb (nI (16 * k + j)) 640 = true := inb_nI (by omega) (by decide)
  refine tq_g i640 (tq_g i640 (tq_g i640 ?_))
  refine tq_b (R_value hC hB hO hL hR rfl he) (fun q hq => ?_)
  obtain ⟨b', h1, h2, h3, h4⟩ := hq
  refine hrec _ ⟨⟨b', h1, by omega, h4⟩, h3, rfl, rfl, rfl, j + 1, by omega, by show nI (16 * k + j) + 1 = _; rw [nI_1]; rfl⟩ ?_
  show 640 - (nI (16 * k + j) + 1).toNatClampNeg < 640 - (nI (16 * k + j)).toNatClampNeg
  rw [nI_1, nI_clamp (by omega), nI_clamp (by omega)]
  omega
def dpx (dep : Nat → Nat) (n d : Nat) : Nat → Nat := fun i => if i = n then d else dep i
theorem LE.add {mu : Tmu} {me : Tme} {w n d : Nat} {C F dep : Nat → Nat} {z0 v3 : Int32} (hw : w ≤ 1) (hL : LE mu me w n C F dep) (hn : n < 400) (hd : d < 24) (hz : z0 = -1 ∨ ∃ p, z0 = nI p ∧ p < n ∧ d = dep p + 1) : LE mu (upd me.1 w (nI n + (1 : Int32)), me.2.1, upd me.2.2.1 (400 * w + n) z0, upd me.2.2.2.1 (400 * w + n) (nI (C w)), upd me.2.2.2.2.1 (400 * w + n) (-1 : Int32), upd me.2.2.2.2.2.1 (400 * w + n) v3, upd me.2.2.2.2.2.2.1 (400 * w + n) (0 : Int32), upd me.2.2.2.2.2.2.2.1 (400 * w + n) (-1 : Int32), me.2.2.2.2.2.2.2.2.1, me.2.2.2.2.2.2.2.2.2.1, upd me.2.2.2.2.2.2.2.2.2.2.1 (400 * w + n) (vp_nar .boolean (0 : Int32)), upd me.2.2.2.2.2.2.2.2.2.2.2.1 (400 * w + n) (vp_nar .boolean (0 : Int32)), upd me.2.2.2.2.2.2.2.2.2.2.2.2.1 n (vp_nar .boolean (0 : Int32)), upd me.2.2.2.2.2.2.2.2.2.2.2.2.2.1 n (vp_nar .boolean (0 : Int32)), me.2.2.2.2.2.2.2.2.2.2.2.2.2.2.1, upd me.2.2.2.2.2.2.2.2.2.2.2.2.2.2.2.1 n (vp_nar .boolean (0 : Int32)), me.2.2.2.2.2.2.2.2.2.2.2.2.2.2.2.2.1, me.2.2.2.2.2.2.2.2.2.2.2.2.2.2.2.2.2.1, me.2.2.2.2.2.2.2.2.2.2.2.2.2.2.2.2.2.2) w (n + 1) C F (dpx dep n d) := by
  obtain ⟨hPU, hCw, hOth, ⟨h0, h400, hUF, hORI, hNMS, hPAR⟩, hRNG, hLIN, ⟨f0, hf0, hfn⟩, hcur⟩ := hL
  refine ⟨hPU, hCw, fun h hh hne => ?_, ⟨?_, by omega, fun e he => ?_, fun e he => ?_, fun e he => ?_, fun e he => ?_⟩, fun e => ?_, hLIN, ⟨f0, hf0, by omega⟩, hcur⟩
  · obtain ⟨n', dep', ⟨g0, g400, gUF, gORI, gNMS, gPAR⟩, hk⟩ := hOth h hh hne
    have ne : ∀ e, e < n' → 400 * h + e ≠ 400 * w + n := fun e he => by omega
    refine ⟨n', dep', ⟨(upd_ne hne).trans g0, g400, fun e he => ?_, fun e he => ?_, fun e he => ?_, fun e he => ?_⟩, hk⟩
    · show ∃ x k, upd me.2.2.2.1 (400 * w + n) (nI (C w)) (400 * h + e) = nI x ∧ _
      rw [upd_ne (ne e he)]
      exact gUF e he
    · show upd me.2.2.2.2.1 (400 * w + n) (-1 : Int32) (400 * h + e) = -1 ∨ ∃ x, upd me.2.2.2.2.1 (400 * w + n) (-1 : Int32) (400 * h + e) = nI x ∧ x < n'
      rw [upd_ne (ne e he)]
      exact gORI e he
    · show upd me.2.2.2.2.2.2.2.1 (400 * w + n) (-1 : Int32) (400 * h + e) = -1 ∨ ∃ x y, upd me.2.2.2.2.2.2.1 (400 * w + n) (0 : Int32) (400 * h + e) = nI x ∧ upd me.2.2.2.2.2.2.2.1 (400 * w + n) (-1 : Int32) (400 * h + e) = nI y ∧ _
      rw [upd_ne (ne e he), upd_ne (ne e he)]
      exact gNMS e he
    · show dep' e < 24 ∧ (upd me.2.2.1 (400 * w + n) z0 (400 * h + e) = -1 ∨ ∃ p, upd me.2.2.1 (400 * w + n) z0 (400 * h + e) = nI p ∧ p < e ∧ dep' e = dep' p + 1)
      rw [upd_ne (ne e he)]
      exact gPAR e he
  · show upd me.1 w (nI n + 1) w = _
    rw [upd_eq, nI_1]
  · show ∃ x k, upd me.2.2.2.1 (400 * w + n) (nI (C w)) (400 * w + e) = nI x ∧ _
    by_cases c : e = n
    · subst c
      exact ⟨C w, f0, upd_eq, by omega, hf0, hfn⟩
    · rw [upd_ne (show 400 * w + e ≠ 400 * w + n by omega)]
      exact hUF e (by omega)
  · show upd me.2.2.2.2.1 (400 * w + n) (-1 : Int32) (400 * w + e) = -1 ∨ ∃ x, upd me.2.2.2.2.1 (400 * w + n) (-1 : Int32) (400 * w + e) = nI x ∧ x < n + 1
    by_cases c : e = n
    · subst c
      exact Or.inl upd_eq
    · rw [upd_ne (show 400 * w + e ≠ 400 * w + n by omega)]
      rcases hORI e (by omega) with h | ⟨x, h1, h2⟩
      · exact Or.inl h
      · exact Or.inr ⟨x, h1, by omega⟩
  · show upd me.2.2.2.2.2.2.2.1 (400 * w + n) (-1 : Int32) (400 * w + e) = -1 ∨ ∃ x y, upd me.2.2.2.2.2.2.1 (400 * w + n) (0 : Int32) (400 * w + e) = nI x ∧ upd me.2.2.2.2.2.2.2.1 (400 * w + n) (-1 : Int32) (400 * w + e) = nI y ∧ _
    by_cases c : e = n
    · subst c
      exact Or.inl upd_eq
    · rw [upd_ne (show 400 * w + e ≠ 400 * w + n by omega), upd_ne (show 400 * w + e ≠ 400 * w + n by omega)]
      exact hNMS e (by omega)
  · show dpx dep n d e < 24 ∧ (upd me.2.2.1 (400 * w + n) z0 (400 * w + e) = -1 ∨ ∃ p, upd me.2.2.1 (400 * w + n) z0 (400 * w + e) = nI p ∧ p < e ∧ dpx dep n d e = dpx dep n d p + 1)
    by_cases c : e = n
    · subst c
      rw [upd_eq, show dpx dep e d e = d from if_pos rfl]
      refine ⟨hd, ?_⟩
      rcases hz with h | ⟨p, h1, h2, h3⟩
      · exact Or.inl h
      · exact Or.inr ⟨p, h1, h2, by rw [show dpx dep e d p = dep p from if_neg (by omega)]; exact h3⟩
    · rw [upd_ne (show 400 * w + e ≠ 400 * w + n by omega), show dpx dep n d e = dep e from if_neg c]
      obtain ⟨g1, g2⟩ := hPAR e (by omega)
      refine ⟨g1, ?_⟩
      rcases g2 with h | ⟨p, h1, h2, h3⟩
      · exact Or.inl h
      · exact Or.inr ⟨p, h1, h2, by rw [show dpx dep n d p = dep p from if_neg (by omega)]; exact h3⟩
  · show upd me.2.2.2.2.2.2.2.2.2.2.2.2.2.2.2.1 n (vp_nar .boolean (0 : Int32)) e = 0 ∨ _
    by_cases c : e = n
    · subst c
      rw [upd_eq]
      exact Or.inl nar0
    · rw [upd_ne c]
      exact hRNG e
theorem PATH.grow {mp : Tmp} {d n : Nat} {dep : Nat → Nat} {d' : Nat} (hP : PATH mp d n dep) : PATH mp d (n + 1) (dpx dep n d') :=
  ⟨hP.1, hP.2.1, fun i hi => by
    obtain ⟨p, h1, h2, h3⟩ := hP.2.2 i hi
    exact ⟨p, h1, by omega, by rw [show dpx dep n d' p = dep p from if_neg (by omega)]; exact h3⟩⟩
theorem R_e149 {mc : Tmc} {mb : Tmb} {ms : Tms} {mu : Tmu} {ma : Tma} {me : Tme} {mr : Tmr} {mp : Tmp} {w z a l n c k d : Nat} {C F dep : Nat → Nat} {v3 z0 : Int32} (hC : CU mc a l) (hB : MB mb w z) (hO : SEC2 ms.2.2.2.2.1 ms.2.2.2.2.2 7) (hA : ABP ma c) (hk : k < c) (hL : LE mu me w n C F dep) (hR : REF mr a n) (hn : n < 400) (hd : d < 24) (hP : PATH mp d n dep) (hz : z0 = -1 ∨ ∃ p, z0 = nI p ∧ p < n ∧ d = dep p + 1) : TQ (X12_enters_149 mb ms ma mc mu me mr mp v3 (nI k) (nI n) (nI (400 * w + n)) z0 (nI (400 * w + n))) (EQ w a l C F) := by
  have hw := hB.2.1
  have i8 : inb (nI (400 * w + n)) 800 = true := inb_nI (by omega) (by decide)
  have i4 : inb (nI n) 400 = true := inb_nI hn (by decide)
  have i2 : inb (nI w) 2 = true := inb_nI (by omega) (by decide)
  unfold X12_enters_149
  rw [hB.1, nI_clamp (show w < 2 ^ 31 by omega), nI_clamp (show 400 * w + n < 2 ^ 31 by omega), nI_clamp (show n < 2 ^ 31 by omega), (hL.1 w hw).1, hL.2.2.2.1.1]
  refine tq_g i8 (tq_g i2 (tq_g i8 (tq_g i8 (tq_g i8 (tq_g i8 (tq_g i8 (tq_g i8 (tq_g i8 (tq_g i4 (tq_g i4 (tq_g i4 (tq_g i2 (tq_g i2 ?_)))))))))))))
  exact R_e258 hC (Nat.le_refl a) hB hO hA hk (hL.add hw hn hd hz) (hR.more (by omega)) (Nat.lt_succ_self n) hd (if_pos rfl) hP.grow
theorem R_enters {mc : Tmc} {mb : Tmb} {ms : Tms} {mu : Tmu} {ma : Tma} {me : Tme} {mr : Tmr} {mp : Tmp} {w z a l n c d : Nat} {C F dep : Nat → Nat} {v1 : Int64} {v3 : Int32} (hC : CU mc a l) (hB : MB mb w z) (hO : SEC2 ms.2.2.2.2.1 ms.2.2.2.2.2 7) (hA : ABP ma c) (hL : LE mu me w n C F dep) (hR : REF mr a n) (hP : PATH mp d n dep) : TQ (X12_enters mc mb ms mu ma me mr mp v1 v3) (EQ w a l C F) := by
  have hw := hB.2.1
  have hc := hA.2.1
  have i2 : inb (nI w) 2 = true := inb_nI (by omega) (by decide)
  have hn4 : n ≤ 400 := hL.2.2.2.1.2.1
  have en : me.1 w = nI n := hL.2.2.2.1.1
  have t75 : ∀ (m : Tmc) (k : Nat), CU m a l → (Rt m → k < c ∧ n < 400 ∧ d < 24) → TQ (X12_enters_75 mb ms ma m mu me mr mp v3 (nI k)) (EQ w a l C F) := by
    intro m k hm hrt
    unfold X12_enters_75
    refine tq_i (fun _ => tq_s ⟨a, n, dep, d, hm, Nat.le_refl a, hL, hR, hP⟩) (fun r => ?_)
    obtain ⟨hk, hn, hd⟩ := hrt (rt_1 r)
    have i40 : inb (nI k) 40 = true := inb_nI (by omega) (by decide)
    have i8 : inb (nI (400 * w + n)) 800 = true := inb_nI (by omega) (by decide)
    rw [hB.1, nI_clamp (show w < 2 ^ 31 by omega), en, ix400]
    refine tq_g i2 (tq_g i40 (tq_g i8 ?_))
    refine tq_i (fun _ => R_e149 hm hB hO hA hk hL hR hn hd hP (Or.inl rfl)) (fun cd => ?_)
    rw [hP.1] at cd
    cases d with
    | zero => exact absurd rfl cd
    | succ d =>
      rw [hP.1, nI_pred, nI_clamp (show d < 2 ^ 31 by omega)]
      obtain ⟨p, h1, h2, h3⟩ := hP.2.2 d (Nat.lt_succ_self d)
      rw [h1]
      exact tq_g (inb_nI (by omega) (by decide)) (R_e149 hm hB hO hA hk hL hR hn hd hP (Or.inr ⟨p, rfl, h2, by omega⟩))
  have t45 : ∀ (m : Tmc) (k : Nat), CU m a l → (Rt m → k < c) → TQ (X12_enters_45 mb ms ma m mu me mr mp v3 (nI k)) (EQ w a l C F) := by
    intro m k hm hrt
    unfold X12_enters_45 X12_enters_69
    rw [hB.1, nI_clamp (show w < 2 ^ 31 by omega), en, hP.1]
    refine tq_g i2 (tq_i (fun _ => tq_l (t75 _ k hm.fail (fun h => absurd h (rt_fail (by decide))))) (fun c4 => ?_))
    refine tq_i (fun _ => tq_l (t75 _ k hm.fail (fun h => absurd h (rt_fail (by decide))))) (fun c24 => ?_)
    refine t75 _ k hm (fun r => ⟨hrt r, ?_, ?_⟩)
    · rcases Nat.lt_or_ge n 400 with q | q
      · exact q
      · exact absurd (by rw [show n = 400 by omega]; rfl) c4
    · rcases Nat.lt_or_ge d 24 with q | q
      · exact q
      · exact absurd (by rw [show d = 24 by have := hP.2.1; omega]; rfl) c24
  have t30 : ∀ (m : Tmc) (k : Nat), CU m a l → k ≤ c → TQ (X12_enters_30 mb ms ma m mu me mr mp v3 (nI k)) (EQ w a l C F) := by
    intro m k hm hk
    unfold X12_enters_30
    rw [hA.1]
    refine tq_i (fun _ => tq_l (t45 _ k hm.fail (fun h => absurd h (rt_fail (by decide))))) (fun ck => ?_)
    refine t45 _ k hm (fun _ => ?_)
    rcases Nat.lt_or_ge k c with q | q
    · exact q
    · exact absurd (by rw [show k = c by omega]) ck
  unfold X12_enters X12_enters_3
  refine lp_m (fun st => st.1 = mc ∧ st.2.1 = mu ∧ st.2.2.1 = me ∧ st.2.2.2.1 = mr ∧ st.2.2.2.2.1 = mp ∧ st.2.2.2.2.2.2.1 = v3 ∧ ∃ k, k ≤ c ∧ st.2.2.2.2.2.2.2 = nI k) (fun st => 40 - st.2.2.2.2.2.2.2.toNatClampNeg) (fun rec st hI hrec => ?_) FU _ ⟨rfl, rfl, rfl, rfl, rfl, rfl, 0, Nat.zero_le _, rfl⟩ (by show 40 - _ < 1000000000000; omega)
  obtain ⟨mc', mu', me', mr', mp', s1, s3, s4⟩ := st
  obtain ⟨e1, e2, e3, e4, e5, e6, k, hk, e7⟩ := hI
  have e1 : mc' = mc := e1
  have e2 : mu' = mu := e2
  have e3 : me' = me := e3
  have e4 : mr' = mr := e4
  have e5 : mp' = mp := e5
  have e6 : s3 = v3 := e6
  have e7 : s4 = nI k := e7
  subst e1 e2 e3 e4 e5 e6 e7
  show TQ (X12_enters_3b mb ms ma (fun a0 a1 a2 a3 a4 a5 a6 a7 => rec (a0, a1, a2, a3, a4, a5, a6, a7)) mc' mu' me' mr' mp' s1 s3 (nI k)) _
  unfold X12_enters_3b
  rw [hA.1]
  refine tq_i (fun ck => ?_) (fun _ => t30 _ k hC hk)
  have hkc : k < c := (nI_ltI (by omega) (by omega)).mp ck
  refine tq_g (inb_nI (by omega) (by decide)) (tq_i (fun _ => t30 _ k hC hk) (fun _ => ?_))
  refine hrec _ ⟨rfl, rfl, rfl, rfl, rfl, rfl, k + 1, by omega, by show nI k + 1 = _; rw [nI_1]⟩ ?_
  show 40 - (nI k + 1).toNatClampNeg < 40 - (nI k).toNatClampNeg
  rw [nI_1, nI_clamp (by omega), nI_clamp (by omega)]
  omega
def NQ (w l : Nat) (C F : Nat → Nat) (q : Tmc × Tmu × Tme × Tmr × Tmp) : Prop := ∃ a n dep, CU q.1 a l ∧ LE q.2.1 q.2.2.1 w n C F dep ∧ REF q.2.2.2.1 a n
theorem R_entries {mc : Tmc} {mb : Tmb} {ms : Tms} {mu : Tmu} {ma : Tma} {me : Tme} {mr : Tmr} {mp : Tmp} {w z a l n c : Nat} {C F dep : Nat → Nat} {v1 : Int32} (hC : CU mc a l) (hB : MB mb w z) (hO : SEC2 ms.2.2.2.2.1 ms.2.2.2.2.2 7) (hA : ABP ma c) (hL : LE mu me w n C F dep) (hR : REF mr a n) : TQ (X12_entries mc mb ms mu ma me mr mp v1) (NQ w l C F) := by
  unfold X12_entries X12_entries_9
  refine lp_m (fun st => ∃ b n dep d, CU st.1 b l ∧ LE st.2.1 st.2.2.1 w n C F dep ∧ REF st.2.2.2.1 b n ∧ PATH st.2.2.2.2.1 d n dep ∧ (st.2.2.2.2.2.2.2 = 0 → st.2.2.2.2.2.2.1 = 0 ∨ 1 ≤ d)) (fun st => mz st.2.2.2.2.2.2.1 st.1) (fun rec st hI hrec => ?_) FU _ ⟨a, n, dep, 0, hC, hL, hR, ⟨rfl, by decide, fun i h => absurd h (by omega)⟩, fun h => absurd h (by show ¬ (1 : Int32) = 0; decide)⟩ (mz_FU _ _)
  obtain ⟨mc, mu, me, mr, mp, s1, s2, s3⟩ := st
  obtain ⟨b, n, dep, d, hC, hL, hR, hP, hf⟩ := hI
  have hC : CU mc b l := hC
  have hL : LE mu me w n C F dep := hL
  have hR : REF mr b n := hR
  have hP : PATH mp d n dep := hP
  have hf : s3 = 0 → s2 = 0 ∨ 1 ≤ d := hf
  show TQ (X12_entries_9b mb ms ma (fun a0 a1 a2 a3 a4 a5 a6 a7 => rec (a0, a1, a2, a3, a4, a5, a6, a7)) mc mu me mr mp s1 s2 s3) _
  have t105 : TQ (X12_entries_105 mb ms ma mc mu me mr mp s1) (NQ w l C F) := by
    unfold X12_entries_105
    refine tq_i (fun _ => tq_s ⟨b, n, dep, hC, hL, hR⟩) (fun _ => ?_)
    exact tq_i (fun _ => tq_l (tq_s ⟨b, n, dep, hC.fail, hL, hR⟩)) (fun _ => tq_s ⟨b, n, dep, hC, hL, hR⟩)
  unfold X12_entries_9b
  refine tq_i (fun _ => t105) (fun c2 => ?_)
  refine tq_i (fun _ => t105) (fun r => ?_)
  have r := rt_1 r
  have t87 : ∀ (m : Tmc) (u : Tmu) (x : Tme) (y : Tmr) (p : Tmp) (b' n' d' : Nat) (dep' : Nat → Nat), CU m b' l → b < b' → LE u x w n' C F dep' → REF y b' n' → PATH p d' n' dep' → TQ (X12_entries_87 mb ms ma (fun a0 a1 a2 a3 a4 a5 a6 a7 => rec (a0, a1, a2, a3, a4, a5, a6, a7)) m u x y p s1) (NQ w l C F) := by
    intro m u x y p b' n' d' dep' hm hb hl hr hp
    unfold X12_entries_87 X12_entries_101
    rw [hp.1]
    refine tq_i (fun cd => ?_) (fun _ => ?_)
    · refine hrec _ ⟨b', n', dep', d', hm, hl, hr, hp, fun _ => Or.inr ?_⟩ (mz_lt c2 hC r hm (fun _ => hb))
      rcases Nat.eq_zero_or_pos d' with q | q
      · subst q
        exact absurd cd (by decide)
      · exact q
    · exact hrec _ ⟨b', n', dep', d', hm, hl, hr, hp, fun _ => Or.inl rfl⟩ (mz_lt c2 hC r hm (fun _ => hb))
  have t59 : ∀ (m : Tmc) (b' : Nat) (v4 : Int32) (v5 : Int64), CU m b' l → b < b' → (v5 = 0 → s3 = 0) → TQ (X12_entries_59 mb ms ma (fun a0 a1 a2 a3 a4 a5 a6 a7 => rec (a0, a1, a2, a3, a4, a5, a6, a7)) m mu me mr mp s1 v4 v5) (NQ w l C F) := by
    intro m b' v4 v5 hm hb h5
    unfold X12_entries_59
    refine tq_i (fun c5 => ?_) (fun _ => ?_)
    · have hd : 1 ≤ d := by
        rcases hf (h5 c5) with h | h
        · exact absurd h c2
        · exact h
      obtain ⟨d', rfl⟩ : ∃ d', d = d' + 1 := ⟨d - 1, by omega⟩
      refine t87 _ _ _ _ _ b' n d' dep hm hb hL (hR.le (by omega)) ⟨?_, by have := hP.2.1; omega, fun i hi => hP.2.2 i (by omega)⟩
      show mp.2 - 1 = _
      rw [hP.1, nI_pred]
    · refine tq_b (R_enters hm hB hO hA hL (hR.le (by omega)) hP) (fun q hq => ?_)
      obtain ⟨b'', n', dep', d', g1, g2, g3, g4, g5⟩ := hq
      exact t87 _ _ _ _ _ b'' n' d' dep' g1 (by omega) g3 g4 g5
  refine tq_b (R_uleb hC hB) (fun q3 h3 => ?_)
  obtain ⟨b1, hb1, hle1, hr1⟩ := h3
  refine tq_i (fun _ => tq_s ⟨b1, n, dep, hb1, hL, hR.le hle1⟩) (fun r1 => ?_)
  have hlt := (hr1 (rt_1 r1)).1
  refine tq_i (fun c0 => ?_) (fun c0 => t59 _ b1 _ _ hb1 hlt (fun h => absurd h c0))
  refine tq_i (fun c3 => t59 _ b1 _ _ hb1 hlt (fun _ => c3)) (fun _ => ?_)
  exact tq_l (tq_s ⟨b1, n, dep, hb1.fail, hL, hR.le hle1⟩)
