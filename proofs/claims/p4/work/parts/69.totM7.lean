/-! totality of the reference: ranges -/
def PG (mg : Tmg) : Prop := ∀ h, h ≤ 1 → ∃ n, mg.1 h = nI n ∧ n ≤ 200
def GQ (q : Tmc × Tmg) : Prop := (∃ a l, CU q.1 a l) ∧ PG q.2
theorem R_range {mc : Tmc} {mb : Tmb} {mg : Tmg} {w z a l : Nat} {v1 v6 : Int32} {v2 v4 : Int64} (hC : CU mc a l) (hB : MB mb w z) (hG : PG mg) : TQ (X12_range mc mb mg v1 v2 v4 v6) (fun q => CU q.1 a l ∧ PG q.2) := by
  have hw := hB.2.1
  obtain ⟨n, hn, hn2⟩ := hG w hw
  have i2 : inb (nI w) 2 = true := inb_nI (by omega) (by decide)
  have e : (200 : Int32) * nI w + nI n = nI (200 * w + n) := by rw [show (200 : Int32) = nI 200 from rfl, nI_mul, nI_add]
  have t29 : ∀ m : Tmc, CU m a l → (Rt m → n < 200) → TQ (X12_range_29 mb m mg v1 v2 v4) (fun q => CU q.1 a l ∧ PG q.2) := by
    intro m hm hr
    unfold X12_range_29
    refine tq_i (fun _ => tq_s ⟨hm, hG⟩) (fun r => ?_)
    have hn3 := hr (rt_1 r)
    have i4 : inb (nI (200 * w + n)) 400 = true := inb_nI (by omega) (by decide)
    rw [hB.1, nI_clamp (show w < 2 ^ 31 by omega), hn, e]
    refine tq_g i2 (tq_g i4 (tq_g i4 (tq_g i4 (tq_g i2 (tq_g i2 (tq_s ⟨hm, fun h hh => ?_⟩))))))
    show ∃ k, upd mg.1 w (nI n + 1) h = nI k ∧ k ≤ 200
    by_cases c : h = w
    · subst c
      exact ⟨n + 1, by rw [upd_eq, nI_1], by omega⟩
    · rw [upd_ne c]
      exact hG h hh
  unfold X12_range
  refine tq_i (fun r => t29 _ hC (fun h => absurd h (rt_0 r))) (fun _ => ?_)
  rw [hB.1, nI_clamp (show w < 2 ^ 31 by omega), hn]
  refine tq_g i2 (tq_i (fun _ => tq_l (t29 _ hC.fail (fun h => absurd h (rt_fail (by decide))))) (fun c => t29 _ hC (fun _ => ?_)))
  rcases Nat.lt_or_ge n 200 with q | q
  · exact q
  · exact absurd (by rw [show n = 200 by omega]; rfl) c
theorem R_spans {mc : Tmc} {mb : Tmb} {mg : Tmg} {w z a l : Nat} {v1 v6 v7 : Int32} {v2 v4 : Int64} (hC : CU mc a l) (hB : MB mb w z) (hG : PG mg) : TQ (X12_spans mc mb mg v1 v2 v4 v6 v7) (fun q => CU q.1 a l ∧ PG q.2) := by
  have t19 : ∀ m : Tmc, CU m a l → TQ (X12_spans_19 mb m mg v1 v2 v4 v7) (fun q => CU q.1 a l ∧ PG q.2) := fun m hm => by
    unfold X12_spans_19
    exact tq_b (R_range hm hB hG) (fun q hq => tq_s hq)
  unfold X12_spans X12_spans_12
  refine tq_i (fun _ => tq_l (t19 _ hC.fail)) (fun _ => ?_)
  exact tq_i (fun _ => tq_l (t19 _ hC.fail)) (fun _ => t19 _ hC)
theorem R_list81 {mc : Tmc} {mb : Tmb} {ms : Tms} {mu : Tmu} {me : Tme} {mg : Tmg} {w z a l : Nat} {v1 v5 : Int32} {v3 : Int64} (hC : CU mc a l) (hB : MB mb w z) (hG : PG mg) : TQ (X12_list_81 mb ms mu me FU (mc, mg, v1, v3, v5)) GQ := by
  unfold X12_list_81
  refine lp_m (fun st => (∃ b, CU st.1 b l) ∧ PG st.2.1) (fun st => mz st.2.2.2.2 st.1) (fun rec st hI hrec => ?_) FU _ ⟨⟨a, hC⟩, hG⟩ (mz_FU _ _)
  obtain ⟨m, g, s1, s3, s5⟩ := st
  obtain ⟨⟨b, hC⟩, hG⟩ := hI
  have hC : CU m b l := hC
  have hG : PG g := hG
  show TQ (X12_list_81b mb ms mu me (fun a0 a1 a2 a3 a4 => rec (a0, a1, a2, a3, a4)) m g s1 s3 s5) _
  unfold X12_list_81b X12_list_123
  refine tq_i (fun _ => tq_s ⟨⟨b, l, hC⟩, hG⟩) (fun c5 => ?_)
  refine tq_i (fun _ => tq_s ⟨⟨b, l, hC⟩, hG⟩) (fun r => ?_)
  have r := rt_1 r
  have k81 : ∀ (m' : Tmc) (g' : Tmg) (b' : Nat) (y1 y5 : Int32) (y3 : Int64), CU m' b' l → b < b' → PG g' → TQ (rec (m', g', y1, y3, y5)) GQ := fun m' g' b' y1 y5 y3 hm hb hg => hrec _ ⟨⟨b', hm⟩, hg⟩ (mz_lt c5 hC r hm (fun _ => hb))
  have t124 : ∀ (m' : Tmc) (b' : Nat) (v6 v7 z0 : Int32), CU m' b' l → (z0 = 0 ∨ b < b') → TQ (X12_list_124 mb ms mu me (fun a0 a1 a2 a3 a4 => rec (a0, a1, a2, a3, a4)) m' g s1 s3 v6 v7 z0) GQ := by
    intro m' b' v6 v7 z0 hm hb
    unfold X12_list_124
    refine tq_i (fun e => ?_) (fun e => ?_)
    · rw [e]
      exact hrec _ ⟨⟨b', hm⟩, hG⟩ (mz_0 c5 hC r)
    have hb : b < b' := by
      rcases hb with h | h
      · exact absurd h e
      · exact h
    unfold X12_list_188 X12_list_189 X12_list_215 X12_list_308 X12_list_309 X12_list_314 X12_list_382 X12_list_383 X12_list_388 X12_list_398
    refine tq_i (fun _ => ?_) (fun _ => ?_)
    · refine tq_b (R_uleb hm hB) (fun q h => ?_)
      obtain ⟨b1, g1, l1, -⟩ := h
      refine tq_b (R_uleb g1 hB) (fun q' h => ?_)
      obtain ⟨b2, g2, l2, -⟩ := h
      have fin : ∀ (x y : Int64) (z9 : Int32), TQ (if (X12_isRight q'.2) = 0 then rec (q'.2, g, s1, s3, z0) else ((X12_spans q'.2 mb g s1 x y z9 v6).bind fun q2 => rec (q2.1, q2.2, s1, s3, z0))) GQ := fun x y z9 => by
        refine tq_i (fun _ => k81 _ _ b2 _ _ _ g2 (by omega) hG) (fun _ => ?_)
        exact tq_b (R_spans g2 hB hG) (fun q hq => k81 _ _ b2 _ _ _ hq.1 (by omega) hq.2)
      refine tq_i (fun _ => fin _ _ _) (fun _ => ?_)
      refine tq_i (fun _ => fin _ _ _) (fun _ => ?_)
      refine tq_i (fun _ => fin _ _ _) (fun _ => ?_)
      exact tq_i (fun _ => fin _ _ _) (fun _ => fin _ _ _)
    refine tq_i (fun _ => ?_) (fun _ => ?_)
    · refine tq_b (R_number hm hB (show (8 : Int32) = nI 8 from rfl) (by decide)) (fun q h => ?_)
      obtain ⟨b1, g1, l1, -⟩ := h
      refine tq_i (fun _ => k81 _ _ b1 _ _ _ g1 (by omega) hG) (fun _ => ?_)
      exact tq_i (fun _ => tq_l (k81 _ _ b1 _ _ _ g1.fail (by omega) hG)) (fun _ => k81 _ _ b1 _ _ _ g1 (by omega) hG)
    refine tq_i (fun _ => ?_) (fun _ => ?_)
    · refine tq_b (R_number hm hB (show (8 : Int32) = nI 8 from rfl) (by decide)) (fun q h => ?_)
      obtain ⟨b1, g1, l1, -⟩ := h
      refine tq_b (R_number g1 hB (show (8 : Int32) = nI 8 from rfl) (by decide)) (fun q' h => ?_)
      obtain ⟨b2, g2, l2, -⟩ := h
      have fin : ∀ (x y : Int64) (z9 z8 : Int32), TQ ((X12_spans q'.2 mb g z8 x y z9 v6).bind fun q2 => rec (q2.1, q2.2, s1, s3, z0)) GQ := fun x y z9 z8 => tq_b (R_spans g2 hB hG) (fun q hq => k81 _ _ b2 _ _ _ hq.1 (by omega) hq.2)
      refine tq_i (fun _ => k81 _ _ b2 _ _ _ g2 (by omega) hG) (fun _ => ?_)
      refine tq_i (fun _ => fin _ _ _ _) (fun _ => ?_)
      exact tq_i (fun _ => fin _ _ _ _) (fun _ => fin _ _ _ _)
    refine tq_i (fun _ => ?_) (fun _ => tq_l (k81 _ _ b' _ _ _ hm.fail hb hG))
    refine tq_b (R_number hm hB (show (8 : Int32) = nI 8 from rfl) (by decide)) (fun q h => ?_)
    obtain ⟨b1, g1, l1, -⟩ := h
    refine tq_b (R_uleb g1 hB) (fun q' h => ?_)
    obtain ⟨b2, g2, l2, -⟩ := h
    have fin : ∀ (x y : Int64) (z9 z8 : Int32), TQ ((X12_spans q'.2 mb g z8 x y z9 v6).bind fun q2 => rec (q2.1, q2.2, s1, s3, z0)) GQ := fun x y z9 z8 => tq_b (R_spans g2 hB hG) (fun q hq => k81 _ _ b2 _ _ _ hq.1 (by omega) hq.2)
    refine tq_i (fun _ => k81 _ _ b2 _ _ _ g2 (by omega) hG) (fun _ => ?_)
    refine tq_i (fun _ => fin _ _ _ _) (fun _ => ?_)
    refine tq_i (fun _ => fin _ _ _ _) (fun _ => ?_)
    exact tq_i (fun _ => fin _ _ _ _) (fun _ => fin _ _ _ _)
  refine tq_b (R_number hC hB (show (1 : Int32) = nI 1 from rfl) (by decide)) (fun q h => ?_)
  obtain ⟨b1, g1, l1, -, hr1⟩ := h
  refine tq_i (fun _ => t124 _ b1 _ _ _ g1 (Or.inl rfl)) (fun r1 => ?_)
  have hb1 := (hr1 (rt_1 r1)).1
  exact tq_i (fun _ => t124 _ b1 _ _ _ g1 (Or.inl rfl)) (fun _ => t124 _ b1 _ _ _ g1 (Or.inr (by omega)))
theorem R_list {mc : Tmc} {mb : Tmb} {ms : Tms} {mu : Tmu} {me : Tme} {mg : Tmg} {w z a l n e y t : Nat} {C F dep : Nat → Nat} (hC : CU mc a l) (hB : MB mb w z) (hO : SEC2 ms.2.2.2.2.1 ms.2.2.2.2.2 7) (hPU : PU mu C F) (hE : HE mu me w n (C w) dep) (hG : PG mg) (he : e < n) (hy : ms.2.2.2.2.2 6 = nI y) (hy8 : y ≤ 8000) (ht : me.2.2.2.2.2.2.2.2.2.2.2.2.2.2.2.2.2.2 e = lN t) (hty : t < y) : TQ (X12_list mc mb ms mu me mg (nI e)) GQ := by
  have hw := hB.2.1
  have h400 := hE.2.1
  have hCw := (hPU w hw).2.1
  obtain ⟨x6, y6, hx6, hy6, hxy6⟩ := hO 6 (by decide)
  have : y6 = y := (nI_eq (by omega) (by omega)).mp (hy6.symm.trans hy)
  subst this
  have c6 : ((6 : Int32)).toNatClampNeg = 6 := by decide
  have i4 : inb (nI e) 400 = true := inb_nI (by omega) (by decide)
  have t48 : ∀ z0 : Int64, TQ (X12_list_48 mb ms mu me mc mg (nI e) z0) GQ := by
    intro z0
    unfold X12_list_48
    refine tq_g (by decide) (tq_g i4 ?_)
    refine tq_b (R_endOf (o := 6) (by decide) (show (6 : Int32) = nI 6 from rfl) hx6 hy6) (fun q3 h3 => ?_)
    rw [c6, hx6, nI_clamp (show e < 2 ^ 31 by omega), ht, lN_i, nI_add, h3]
    exact R_list81 (a := x6 + t) (l := x6 + y6) ⟨rfl, rfl, by omega, by omega⟩ hB hG
  obtain ⟨x, k, h1, h2, h3, h4⟩ := hE.2.2.1 e he
  have e20 : (20 : Int32) * nI w + nI x = nI (20 * w + x) := by rw [show (20 : Int32) = nI 20 from rfl, nI_mul, nI_add]
  have ik : inb (nI k) 400 = true := inb_nI (by omega) (by decide)
  unfold X12_list
  rw [hB.1, ix400, nI_clamp (show 400 * w + e < 2 ^ 31 by omega), h1, e20, nI_clamp (show 20 * w + x < 2 ^ 31 by omega), h3]
  refine tq_g (inb_nI (by omega) (by decide)) (tq_g (inb_nI (by omega) (by decide)) (tq_g ik ?_))
  exact tq_i (fun _ => t48 _) (fun _ => tq_g ik (t48 _))
theorem l_lt {v : Int64} {y : Nat} (hy : y < 2 ^ 31) (h0 : ¬ v < 0) (h : v < lN y) : ∃ t, v = lN t ∧ t < y := by
  have e0 := Int64.le_iff_toInt_le.mp (Int64.not_lt.mp h0)
  have e1 := Int64.lt_iff_toInt_lt.mp h
  rw [show (0 : Int64).toInt = 0 by decide] at e0
  rw [lN_toInt hy] at e1
  refine ⟨v.toInt.toNat, ?_, by omega⟩
  apply Int64.toInt_inj.mp
  rw [show (lN v.toInt.toNat).toInt = ((v.toInt.toNat : Nat) : Int) from lN_toInt (by omega)]
  omega
theorem R_ranges {mc : Tmc} {mb : Tmb} {ms : Tms} {mu : Tmu} {me : Tme} {mg : Tmg} {w z a l : Nat} {C F : Nat → Nat} (hC : CU mc a l) (hB : MB mb w z) (hO : SEC2 ms.2.2.2.2.1 ms.2.2.2.2.2 7) (hE : EB mu me C F) (hG : PG mg) : TQ (X12_ranges mc mb ms mu me mg) GQ := by
  have hw := hB.2.1
  obtain ⟨n, dep, hH, -⟩ := hE.2.1 w hw
  have h400 := hH.2.1
  obtain ⟨x6, y6, hx6, hy6, hxy6⟩ := hO 6 (by decide)
  have c6 : ((6 : Int32)).toNatClampNeg = 6 := by decide
  have i2 : inb (nI w) 2 = true := inb_nI (by omega) (by decide)
  unfold X12_ranges X12_ranges_2
  refine lp_m (fun st => (∃ b l, CU st.1 b l) ∧ PG st.2.1 ∧ ∃ e, e ≤ n ∧ st.2.2 = nI e) (fun st => 400 - st.2.2.toNatClampNeg) (fun rec st hI hrec => ?_) FU _ ⟨⟨a, l, hC⟩, hG, 0, Nat.zero_le _, rfl⟩ (by show 400 - _ < 1000000000000; omega)
  obtain ⟨m, g, s1⟩ := st
  obtain ⟨⟨b, l, hC⟩, hG, e, he, e1⟩ := hI
  have hC : CU m b l := hC
  have hG : PG g := hG
  have e1 : s1 = nI e := e1
  subst e1
  show TQ (X12_ranges_2b mb ms mu me (fun a0 a1 a2 => rec (a0, a1, a2)) m g (nI e)) _
  unfold X12_ranges_2b
  rw [hB.1, nI_clamp (show w < 2 ^ 31 by omega), hH.1]
  refine tq_g i2 (tq_i (fun ce => ?_) (fun _ => tq_s ⟨⟨b, l, hC⟩, hG⟩))
  have hen : e < n := (nI_ltI (by omega) (by omega)).mp ce
  refine tq_i (fun _ => tq_s ⟨⟨b, l, hC⟩, hG⟩) (fun _ => ?_)
  have i4 : inb (nI e) 400 = true := inb_nI (by omega) (by decide)
  have ec : (nI e).toNatClampNeg = e := nI_clamp (by omega)
  rw [ix400]
  have nx : ∀ (m : Tmc) (g : Tmg), (∃ b l, CU m b l) → PG g → TQ (X12_ranges_162 mb ms mu me (fun a0 a1 a2 => rec (a0, a1, a2)) m g (nI e)) GQ := fun m g hm hg => by
    unfold X12_ranges_162
    refine hrec _ ⟨hm, hg, e + 1, by omega, nI_1 e⟩ ?_
    show 400 - (nI e + 1).toNatClampNeg < 400 - (nI e).toNatClampNeg
    rw [nI_1, nI_clamp (by omega), nI_clamp (by omega)]
    omega
  have t121 : ∀ v2 : Int32, TQ (X12_ranges_121 mb ms mu me (fun a0 a1 a2 => rec (a0, a1, a2)) m g (nI e) v2) GQ := by
    intro v2
    unfold X12_ranges_121
    rw [ec, c6, hy6, nI_l (show y6 < 2 ^ 31 by omega)]
    refine tq_g i4 (tq_i (fun _ => nx _ _ ⟨b, l, hC⟩ hG) (fun ch => tq_g i4 (tq_g (by decide) ?_)))
    refine tq_i (fun ct => ?_) (fun _ => tq_l (nx _ _ ⟨b, l, hC.fail⟩ hG))
    rcases hE.2.2.1 e with h | h
    · exact absurd h ch
    obtain ⟨t, ht, hty⟩ := l_lt (by omega) h ct
    exact tq_b (R_list hC hB hO hE.1 hH hG hen hy6 (by omega) ht hty) (fun q hq => nx _ _ hq.1 hq.2)
  have t87 : ∀ (v2 : Int32) (z0 : Int64), TQ (X12_ranges_87 mb ms mu me (fun a0 a1 a2 => rec (a0, a1, a2)) m g (nI e) v2 z0) GQ := by
    intro v2 z0
    have t105 : ∀ m : Tmc, CU m b l → TQ (X12_ranges_105 mb ms mu me (fun a0 a1 a2 => rec (a0, a1, a2)) m g (nI e) v2 z0) GQ := fun m hm => by
      unfold X12_ranges_105
      exact tq_g i4 (tq_b (R_range hm hB hG) (fun q hq => nx _ _ ⟨b, l, hq.1⟩ hq.2))
    unfold X12_ranges_87
    exact tq_g i4 (tq_i (fun _ => tq_l (t105 _ hC.fail)) (fun _ => t105 _ hC))
  refine tq_g (inb_nI (by omega) (by decide)) (tq_g i4 (tq_i (fun _ => t121 _) (fun _ => tq_g i4 ?_)))
  refine tq_i (fun _ => t121 _) (fun _ => tq_g i4 ?_)
  exact tq_i (fun _ => tq_g i4 (t87 _ _)) (fun _ => tq_g i4 (tq_g i4 (t87 _ _)))
