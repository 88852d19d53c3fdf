/-! totality of the reference: questions -/
section
variable {mt : Tmt} {mb : Tmb} {mo : Tmo} {ms : Tms} {my : Tmy} {mu : Tmu} {me : Tme} {mg : Tmg} {mw : Tmw} {mf : Tmf} {mq : Tmq} {t n u ny : Nat} {dep : Nat → Nat}
theorem it2 (ht1 : t ≤ 1) : inb (nI t) 2 = true := inb_nI (by omega) (by decide)
theorem R_isEntry {v1 : Int32} (ht : mo.1 = nI t) (ht1 : t ≤ 1) (hH : HE mu me t n u dep) : TQ (X12_isEntry mo me v1) (fun q => q = 0 ∨ ∃ e, v1 = nI e ∧ e < n) := by
  have h400 := hH.2.1
  unfold X12_isEntry
  rw [ht, nI_clamp (show t < 2 ^ 31 by omega), hH.1]
  refine tq_i (fun _ => tq_s (Or.inl rfl)) (fun c0 => tq_g (it2 ht1) ?_)
  obtain ⟨j, hj, rfl⟩ := nI_of c0
  exact tq_i (fun c => tq_s (Or.inr ⟨j, rfl, (nI_ltI hj (by omega)).mp c⟩)) (fun _ => tq_s (Or.inl rfl))
theorem R_named {v1 : Int32} (ht : mo.1 = nI t) (ht1 : t ≤ 1) (hH : HE mu me t n u dep) (hv : v1 = -1 ∨ ∃ e, v1 = nI e ∧ e < n) : TQ (X12_named mo me v1) (fun q => q = -1 ∨ ∃ e, q = nI e ∧ e < n ∧ ¬ me.2.2.2.2.2.2.2.1 (400 * t + e) = -1) := by
  have h400 := hH.2.1
  unfold X12_named X12_named_4
  refine lp_m (fun st => (st.1 = -1 ∨ ∃ e, st.1 = nI e ∧ e < n) ∧ ∃ k, k ≤ 9 ∧ st.2 = nI k) (fun st => 9 - st.2.toNatClampNeg) (fun rec st hI hrec => ?_) FU _ ⟨hv, 0, by decide, rfl⟩ (by show 9 - _ < 1000000000000; omega)
  obtain ⟨s2, s3⟩ := st
  obtain ⟨h2, k, hk, e3⟩ := hI
  have h2 : s2 = -1 ∨ ∃ e, s2 = nI e ∧ e < n := h2
  have e3 : s3 = nI k := e3
  subst e3
  show TQ (X12_named_4b mo me (fun a0 a1 => rec (a0, a1)) s2 (nI k)) _
  unfold X12_named_4b
  refine tq_i (fun _ => tq_s (Or.inl rfl)) (fun c8 => ?_)
  have hk8 : k ≤ 8 := by
    rcases Nat.lt_or_ge 8 k with q | q
    · exact absurd (nI_lt (a := 8) q (by omega)) c8
    · exact q
  refine tq_i (fun _ => tq_s (Or.inl rfl)) (fun c1 => ?_)
  rcases h2 with h | ⟨e, rfl, he⟩
  · exact absurd h c1
  have i8 : inb (nI (400 * t + e)) 800 = true := inb_nI (by omega) (by decide)
  rw [ht, ix400, nI_clamp (show 400 * t + e < 2 ^ 31 by omega)]
  refine tq_g i8 (tq_i (fun _ => tq_g i8 ?_) (fun c => tq_s (Or.inr ⟨e, rfl, he, c⟩)))
  refine hrec _ ⟨?_, k + 1, by omega, nI_1 k⟩ ?_
  · rcases hH.2.2.2.1 e he with h | ⟨x, h1, h2⟩
    · exact Or.inl h
    · exact Or.inr ⟨x, h1, h2⟩
  · show 9 - (nI k + 1).toNatClampNeg < 9 - (nI k).toNatClampNeg
    rw [nI_1, nI_clamp (by omega), nI_clamp (by omega)]
    omega
theorem R_signsOf {v1 : Int32} (ht : mo.1 = nI t) (ht1 : t ≤ 1) (hH : HE mu me t n u dep) (hv : v1 = -1 ∨ ∃ e, v1 = nI e ∧ e < n) : TQ (X12_signsOf mo me v1) (fun _ => True) := by
  have h400 := hH.2.1
  unfold X12_signsOf
  refine tq_b (R_named ht ht1 hH hv) (fun q hq => ?_)
  refine tq_i (fun _ => tq_s trivial) (fun c => ?_)
  rcases hq with h | ⟨e, rfl, he, -⟩
  · exact absurd h c
  rw [ht, ix400]
  exact tq_g (inb_nI (by omega) (by decide)) (tq_s trivial)
theorem ix200 {w e : Nat} : (200 : Int32) * nI w + nI e = nI (200 * w + e) := by
  rw [show (200 : Int32) = nI 200 from rfl, nI_mul, nI_add]
theorem R_rangesOf {v1 : Int32} (ht : mo.1 = nI t) (ht1 : t ≤ 1) (hG : PG mg) : TQ (X12_rangesOf mo mg v1) (fun _ => True) := by
  obtain ⟨nr, hn, hn2⟩ := hG t ht1
  unfold X12_rangesOf X12_rangesOf_4
  refine lp_m (fun st => ∃ k, k ≤ nr ∧ st.2.2 = nI k) (fun st => 201 - st.2.2.toNatClampNeg) (fun rec st hI hrec => ?_) FU _ ⟨0, Nat.zero_le _, rfl⟩ (by show 201 - _ < 1000000000000; omega)
  obtain ⟨s1, s2, s3⟩ := st
  obtain ⟨k, hk, e3⟩ := hI
  have e3 : s3 = nI k := e3
  subst e3
  show TQ (X12_rangesOf_4b mo mg (fun a0 a1 a2 => rec (a0, a1, a2)) s1 s2 (nI k)) _
  unfold X12_rangesOf_4b X12_rangesOf_42
  rw [ht, nI_clamp (show t < 2 ^ 31 by omega), hn, ix200]
  refine tq_g (it2 ht1) (tq_i (fun ck => ?_) (fun _ => tq_s trivial))
  have hkn : k < nr := (nI_ltI (by omega) (by omega)).mp ck
  have nx : ∀ v : Int32, TQ (rec (s1, v, nI k + 1)) (fun _ => True) := fun v => by
    refine hrec _ ⟨k + 1, by omega, nI_1 k⟩ ?_
    show 201 - (nI k + 1).toNatClampNeg < 201 - (nI k).toNatClampNeg
    rw [nI_1, nI_clamp (by omega), nI_clamp (by omega)]
    omega
  exact tq_g (inb_nI (by omega) (by decide)) (tq_i (fun _ => nx _) (fun _ => nx _))
theorem R_entry {v1 v2 : Int32} (ht : mo.1 = nI t) (ht1 : t ≤ 1) (hH : HE mu me t n u dep) (hG : PG mg) : TQ (X12_entry mo me mg v1 v2) (fun _ => True) := by
  have h400 := hH.2.1
  unfold X12_entry
  refine tq_b (R_isEntry ht ht1 hH) (fun q hq => ?_)
  refine tq_i (fun _ => tq_s trivial) (fun c => ?_)
  rcases hq with h | ⟨e, rfl, he⟩
  · exact absurd h c
  rw [ht, ix400]
  have i8 : inb (nI (400 * t + e)) 800 = true := inb_nI (by omega) (by decide)
  refine tq_i (fun _ => tq_g i8 (tq_s trivial)) (fun _ => ?_)
  refine tq_i (fun _ => tq_g i8 (tq_s trivial)) (fun _ => ?_)
  refine tq_i (fun _ => tq_g i8 (tq_s trivial)) (fun _ => ?_)
  refine tq_i (fun _ => tq_g i8 (tq_s trivial)) (fun _ => ?_)
  refine tq_i (fun _ => tq_b (R_rangesOf ht ht1 hG) (fun _ _ => tq_s trivial)) (fun _ => ?_)
  refine tq_i (fun _ => tq_g i8 (tq_s trivial)) (fun _ => ?_)
  refine tq_i (fun _ => tq_b (R_signsOf ht ht1 hH (Or.inr ⟨e, rfl, he⟩)) (fun _ _ => tq_s trivial)) (fun _ => ?_)
  refine tq_i (fun _ => tq_g i8 (tq_i (fun _ => tq_s trivial) (fun _ => tq_g i8 (tq_s trivial)))) (fun _ => ?_)
  exact tq_i (fun _ => tq_g i8 (tq_i (fun _ => tq_s trivial) (fun _ => tq_g i8 (tq_s trivial)))) (fun _ => tq_s trivial)
theorem R_holds {v1 : Int32} {v2 : Int64} (ht : mo.1 = nI t) (ht1 : t ≤ 1) (hH : HE mu me t n u dep) (hG : PG mg) : TQ (X12_holds mo me mg v1 v2) (fun _ => True) := by
  obtain ⟨nr, hn, hn2⟩ := hG t ht1
  have e200 : (200 : Int32) * mo.1 = nI (200 * t) := by rw [ht, show (200 : Int32) = nI 200 from rfl, nI_mul]
  unfold X12_holds X12_holds_13
  rw [e200]
  refine lp_m (fun st => bz st.2.2.1 = true ∧ ∃ k, k ≤ nr ∧ st.2.2.2 = nI (200 * t + k)) (fun st => 401 - st.2.2.2.toNatClampNeg) (fun rec st hI hrec => ?_) FU _ ⟨by show bz 0 = true; decide, 0, Nat.zero_le _, rfl⟩ (by show 401 - _ < 1000000000000; omega)
  obtain ⟨s1, s2, s4, s5⟩ := st
  obtain ⟨hb, k, hk, e5⟩ := hI
  have hb : bz s4 = true := hb
  have e5 : s5 = nI (200 * t + k) := e5
  subst e5
  show TQ (X12_holds_13b mo me mg (fun a0 a1 a2 a3 => rec (a0, a1, a2, a3)) s1 s2 s4 (nI (200 * t + k))) _
  unfold X12_holds_13b X12_holds_84 X12_holds_88 X12_holds_89
  rw [e200, ht, nI_clamp (show t < 2 ^ 31 by omega), hn, nI_add]
  refine tq_g (it2 ht1) (tq_i (fun ck => ?_) (fun _ => tq_g hb (tq_s trivial)))
  have hkn : 200 * t + k < 200 * t + nr := (nI_ltI (by omega) (by omega)).mp ck
  have nx : ∀ v : Int32, bz v = true → TQ (rec (s1, s2, v, nI (200 * t + k) + 1)) (fun _ => True) := fun v hv => by
    refine hrec _ ⟨hv, k + 1, by omega, nI_1 _⟩ ?_
    show 401 - (nI (200 * t + k) + 1).toNatClampNeg < 401 - (nI (200 * t + k)).toNatClampNeg
    rw [nI_1, nI_clamp (by omega), nI_clamp (by omega)]
    omega
  have i4 : inb (nI (200 * t + k)) 400 = true := inb_nI (by omega) (by decide)
  refine tq_b (R_isEntry ht ht1 hH) (fun q _ => ?_)
  refine tq_i (fun _ => tq_g hb (tq_s trivial)) (fun _ => ?_)
  refine tq_i (fun _ => tq_g i4 ?_) (fun _ => nx _ (by decide))
  refine tq_i (fun _ => tq_g i4 ?_) (fun _ => nx _ (by decide))
  refine tq_i (fun _ => nx _ (by decide)) (fun _ => tq_g i4 ?_)
  exact tq_i (fun _ => nx _ (by decide)) (fun _ => nx _ (by decide))
theorem ix600 {w e : Nat} : (600 : Int32) * nI w + nI e = nI (600 * w + e) := by
  rw [show (600 : Int32) = nI 600 from rfl, nI_mul, nI_add]
theorem R_row {v1 v2 : Int32} (ht : mo.1 = nI t) (ht1 : t ≤ 1) (hW : PW mw) : TQ (X12_row mo mw v1 v2) (fun _ => True) := by
  obtain ⟨nr, hn, hn2⟩ := hW t ht1
  unfold X12_row
  rw [ht, nI_clamp (show t < 2 ^ 31 by omega), hn]
  refine tq_i (fun _ => tq_s trivial) (fun c0 => tq_g (it2 ht1) (tq_i (fun c => ?_) (fun _ => tq_s trivial)))
  obtain ⟨j, hj, rfl⟩ := nI_of c0
  have hjn : j < nr := (nI_ltI hj (by omega)).mp c
  rw [ix600]
  have i12 : inb (nI (600 * t + j)) 1200 = true := inb_nI (by omega) (by decide)
  refine tq_i (fun _ => tq_g i12 (tq_s trivial)) (fun _ => ?_)
  refine tq_i (fun _ => tq_g i12 (tq_s trivial)) (fun _ => ?_)
  refine tq_i (fun _ => tq_g i12 (tq_s trivial)) (fun _ => ?_)
  exact tq_i (fun _ => tq_g i12 (tq_i (fun _ => tq_s trivial) (fun _ => tq_s trivial))) (fun _ => tq_s trivial)
theorem R_rowAt {v1 : Int32} (ht : mo.1 = nI t) (ht1 : t ≤ 1) (hW : PW mw) : TQ (X12_rowAt mo mw v1) (fun _ => True) := by
  obtain ⟨nr, hn, hn2⟩ := hW t ht1
  unfold X12_rowAt
  rw [ht, nI_clamp (show t < 2 ^ 31 by omega), hn]
  refine tq_i (fun _ => tq_s trivial) (fun c0 => tq_g (it2 ht1) (tq_i (fun c => ?_) (fun _ => tq_s trivial)))
  obtain ⟨j, hj, rfl⟩ := nI_of c0
  have hjn : j < nr := (nI_ltI hj (by omega)).mp c
  rw [ix600]
  exact tq_g (inb_nI (by omega) (by decide)) (tq_s trivial)
theorem R_governs {v1 : Int32} {v2 : Int64} (ht : mo.1 = nI t) (ht1 : t ≤ 1) (hW : PW mw) : TQ (X12_governs mo mw v1 v2) (fun q => q = -1 ∨ ∃ r, q = nI r ∧ r < 1200) := by
  obtain ⟨nr, hn, hn2⟩ := hW t ht1
  have e600 : (600 : Int32) * mo.1 = nI (600 * t) := by rw [ht, show (600 : Int32) = nI 600 from rfl, nI_mul]
  unfold X12_governs X12_governs_10
  rw [e600]
  refine lp_m (fun st => ∃ k, k ≤ 1200 ∧ st.2.2 = nI k) (fun st => 1201 - st.2.2.toNatClampNeg) (fun rec st hI hrec => ?_) FU _ ⟨600 * t, by omega, rfl⟩ (by show 1201 - _ < 1000000000000; omega)
  obtain ⟨s1, s2, s4⟩ := st
  obtain ⟨k, hk, e4⟩ := hI
  have e4 : s4 = nI k := e4
  subst e4
  show TQ (X12_governs_10b mo mw (fun a0 a1 a2 => rec (a0, a1, a2)) s1 s2 (nI k)) _
  unfold X12_governs_10b X12_governs_85
  rw [e600, ht, nI_clamp (show t < 2 ^ 31 by omega), hn, nI_add, nI_1]
  refine tq_g (it2 ht1) (tq_i (fun ck => ?_) (fun _ => tq_s (Or.inl rfl)))
  have hkn : k + 1 < 600 * t + nr := (nI_ltI (by omega) (by omega)).mp ck
  have nx : TQ (rec (s1, s2, nI (k + 1))) (fun q => q = -1 ∨ ∃ r, q = nI r ∧ r < 1200) := by
    refine hrec _ ⟨k + 1, by omega, rfl⟩ ?_
    show 1201 - (nI (k + 1)).toNatClampNeg < 1201 - (nI k).toNatClampNeg
    rw [nI_clamp (by omega), nI_clamp (by omega)]
    omega
  have i12 : inb (nI k) 1200 = true := inb_nI (by omega) (by decide)
  have i13 : inb (nI (k + 1)) 1200 = true := inb_nI (by omega) (by decide)
  refine tq_g i12 (tq_i (fun _ => tq_g i12 ?_) (fun _ => nx))
  refine tq_i (fun _ => tq_g i12 ?_) (fun _ => nx)
  refine tq_i (fun _ => nx) (fun _ => tq_g i13 ?_)
  exact tq_i (fun _ => tq_s (Or.inr ⟨k, rfl, by omega⟩)) (fun _ => nx)
theorem R_holder {v1 : Int32} {v2 : Int64} (ht : mo.1 = nI t) (ht1 : t ≤ 1) (hH : HE mu me t n u dep) (hG : PG mg) : TQ (X12_holder mo me mg v1 v2) (fun q => q = -1 ∨ ∃ e, q = nI e ∧ e < n ∧ (v1 = -1 ∨ me.2.2.1 (400 * t + e) = v1)) := by
  have h400 := hH.2.1
  unfold X12_holder X12_holder_3
  refine lp_m (fun st => st.1 = v1 ∧ ∃ k, k ≤ n ∧ st.2.2 = nI k) (fun st => 401 - st.2.2.toNatClampNeg) (fun rec st hI hrec => ?_) FU _ ⟨rfl, 0, Nat.zero_le _, rfl⟩ (by show 401 - _ < 1000000000000; omega)
  obtain ⟨s1, s2, s4⟩ := st
  obtain ⟨e1, k, hk, e4⟩ := hI
  have e1 : s1 = v1 := e1
  have e4 : s4 = nI k := e4
  subst e1 e4
  show TQ (X12_holder_3b mo me mg (fun a0 a1 a2 => rec (a0, a1, a2)) s1 s2 (nI k)) _
  unfold X12_holder_3b X12_holder_96 X12_holder_100
  rw [ht, nI_clamp (show t < 2 ^ 31 by omega), hH.1, ix400]
  refine tq_g (it2 ht1) (tq_i (fun ck => ?_) (fun _ => tq_s (Or.inl rfl)))
  have hkn : k < n := (nI_ltI (by omega) (by omega)).mp ck
  have i8 : inb (nI (400 * t + k)) 800 = true := inb_nI (by omega) (by decide)
  have nx : TQ (X12_holder_121 mo me mg (fun a0 a1 a2 => rec (a0, a1, a2)) s1 s2 (nI k)) (fun q => q = -1 ∨ ∃ e, q = nI e ∧ e < n ∧ (s1 = -1 ∨ me.2.2.1 (400 * t + e) = s1)) := by
    unfold X12_holder_121
    refine hrec _ ⟨rfl, k + 1, by omega, nI_1 k⟩ ?_
    show 401 - (nI k + 1).toNatClampNeg < 401 - (nI k).toNatClampNeg
    rw [nI_1, nI_clamp (by omega), nI_clamp (by omega)]
    omega
  have t101 : ∀ z0 : Int32, (s1 = -1 ∨ me.2.2.1 (400 * t + k) = s1 ∨ z0 = 0) → TQ (X12_holder_101 mo me mg (fun a0 a1 a2 => rec (a0, a1, a2)) s1 s2 (nI k) z0) (fun q => q = -1 ∨ ∃ e, q = nI e ∧ e < n ∧ (s1 = -1 ∨ me.2.2.1 (400 * t + e) = s1)) := by
    intro z0 hz
    unfold X12_holder_101
    refine tq_i (fun _ => nx) (fun cz => ?_)
    refine tq_b (R_holds ht ht1 hH hG) (fun q _ => ?_)
    refine tq_i (fun _ => nx) (fun _ => tq_s (Or.inr ⟨k, rfl, hkn, ?_⟩))
    rcases hz with h | h | h
    · exact Or.inl h
    · exact Or.inr h
    · exact absurd h cz
  rw [nI_clamp (show 400 * t + k < 2 ^ 31 by omega)]
  refine tq_i (fun c1 => tq_g i8 ?_) (fun _ => tq_g i8 ?_)
  · exact tq_i (fun _ => t101 _ (Or.inl c1)) (fun _ => t101 _ (Or.inl c1))
  · refine tq_i (fun cp => tq_g i8 ?_) (fun _ => t101 _ (Or.inr (Or.inr rfl)))
    refine tq_i (fun _ => t101 _ (Or.inr (Or.inl cp))) (fun _ => tq_g i8 ?_)
    exact tq_i (fun _ => t101 _ (Or.inr (Or.inl cp))) (fun _ => t101 _ (Or.inr (Or.inr rfl)))
def SYg (mq : Tmq) (ny : Nat) : Prop := mq.2.2.2.2.1 = -1 ∨ ∃ s, mq.2.2.2.2.1 = nI s ∧ s < ny
def CHg (mq : Tmq) (c n : Nat) : Prop := mq.1 = nI c ∧ c ≤ 24 ∧ ∀ i, i < c → ∃ e, mq.2.1 i = nI e ∧ e < n
theorem R_symbolOf {v1 : Int64} {c : Nat} (ht : mo.1 = nI t) (ht1 : t ≤ 1) (hY : HY my t ny) (hS : SYg mq ny) (hC : CHg mq c n) : TQ (X12_symbolOf mo my mq v1) (fun q => CHg q c n ∧ SYg q ny) := by
  have hny := hY.2.1
  have ix : ∀ e : Nat, (100 : Int32) * nI t + nI e = nI (100 * t + e) := fun e => by rw [show (100 : Int32) = nI 100 from rfl, nI_mul, nI_add]
  unfold X12_symbolOf X12_symbolOf_2
  refine lp_m (fun st => CHg st.1 c n ∧ SYg st.1 ny ∧ ∃ k, k ≤ ny ∧ st.2.2 = nI k) (fun st => 101 - st.2.2.toNatClampNeg) (fun rec st hI hrec => ?_) FU _ ⟨hC, hS, 0, Nat.zero_le _, rfl⟩ (by show 101 - _ < 1000000000000; omega)
  obtain ⟨m, s1, s3⟩ := st
  obtain ⟨hC, hS, k, hk, e3⟩ := hI
  have hC : CHg m c n := hC
  have hS : SYg m ny := hS
  have e3 : s3 = nI k := e3
  subst e3
  show TQ (X12_symbolOf_2b mo my (fun a0 a1 a2 => rec (a0, a1, a2)) m s1 (nI k)) _
  unfold X12_symbolOf_2b X12_symbolOf_100 X12_symbolOf_119
  rw [ht, nI_clamp (show t < 2 ^ 31 by omega), hY.1, ix]
  refine tq_g (it2 ht1) (tq_i (fun ck => ?_) (fun _ => tq_s ⟨hC, hS⟩))
  have hkn : k < ny := (nI_ltI (by omega) (by omega)).mp ck
  have i2 : inb (nI (100 * t + k)) 200 = true := inb_nI (by omega) (by decide)
  have nx : ∀ m : Tmq, CHg m c n → SYg m ny → TQ (rec (m, s1, nI k + 1)) (fun q => CHg q c n ∧ SYg q ny) := fun m h1 h2 => by
    refine hrec _ ⟨h1, h2, k + 1, by omega, nI_1 k⟩ ?_
    show 101 - (nI k + 1).toNatClampNeg < 101 - (nI k).toNatClampNeg
    rw [nI_1, nI_clamp (by omega), nI_clamp (by omega)]
    omega
  have nw : TQ (if inb (nI (100 * t + k)) 200 = true then rec ((m.1, m.2.1, m.2.2.1, m.2.2.2.1, nI k, (s1 - my.2.1 (nI (100 * t + k)).toNatClampNeg).toInt32), s1, nI k + 1) else none) (fun q => CHg q c n ∧ SYg q ny) := tq_g i2 (nx _ hC (Or.inr ⟨k, rfl, hkn⟩))
  refine tq_g i2 (tq_i (fun _ => nx _ hC hS) (fun _ => tq_g i2 (tq_g i2 ?_)))
  refine tq_i (fun _ => ?_) (fun _ => nx _ hC hS)
  refine tq_i (fun _ => nw) (fun cs => tq_g i2 ?_)
  rcases hS with h | ⟨s, hs, hsn⟩
  · exact absurd h cs
  rw [hs, ix]
  exact tq_g (inb_nI (by omega) (by decide)) (tq_i (fun _ => nw) (fun _ => nx _ hC (Or.inr ⟨s, hs, hsn⟩)))
theorem R_f107 {v1 : Int64} {c : Nat} (ht : mo.1 = nI t) (ht1 : t ≤ 1) (hH : HE mu me t n u dep) (hY : HY my t ny) (hW : PW mw) (hC : CHg mq c n) (hS : SYg mq ny) : TQ (X12_find_107 mo my me mg mw FU (mq, v1, (0 : Int32))) (fun q => (∃ c, CHg q.2 c n) ∧ SYg q.2 ny) := by
  have h400 := hH.2.1
  unfold X12_find_107
  refine lp_m (fun st => CHg st.1 c n ∧ SYg st.1 ny ∧ ∃ k, k ≤ c ∧ st.2.2 = nI k) (fun st => 25 - st.2.2.toNatClampNeg) (fun rec st hI hrec => ?_) FU _ ⟨hC, hS, 0, Nat.zero_le _, rfl⟩ (by show 25 - _ < 1000000000000; omega)
  obtain ⟨m, s1, s4⟩ := st
  obtain ⟨hC, hS, k, hk, e4⟩ := hI
  have hC : CHg m c n := hC
  have hS : SYg m ny := hS
  have e4 : s4 = nI k := e4
  subst e4
  have hc24 := hC.2.1
  show TQ (X12_find_107b mo my me mg mw (fun a0 a1 a2 => rec (a0, a1, a2)) m s1 (nI k)) _
  unfold X12_find_107b
  rw [hC.1]
  refine tq_i (fun ck => ?_) (fun _ => ?_)
  rotate_left
  · refine tq_i (fun _ => ?_) (fun _ => tq_s ⟨⟨c, hC⟩, hS⟩)
    exact tq_b (R_symbolOf ht ht1 hY hS hC) (fun q hq => tq_s ⟨⟨c, hq.1⟩, hq.2⟩)
  have hkc : k < c := (nI_ltI (by omega) (by omega)).mp ck
  have i24 : inb (nI k) 24 = true := inb_nI (by omega) (by decide)
  have nx : ∀ m : Tmq, CHg m c n → SYg m ny → TQ (rec (m, s1, nI k + 1)) (fun q => (∃ c, CHg q.2 c n) ∧ SYg q.2 ny) := fun m h1 h2 => by
    refine hrec _ ⟨h1, h2, k + 1, by omega, nI_1 k⟩ ?_
    show 25 - (nI k + 1).toNatClampNeg < 25 - (nI k).toNatClampNeg
    rw [nI_1, nI_clamp (by omega), nI_clamp (by omega)]
    omega
  have t286 : ∀ (m : Tmq) (z0 : Int32), CHg m c n → SYg m ny → TQ (X12_find_286 mo my me mg mw (fun a0 a1 a2 => rec (a0, a1, a2)) m s1 (nI k) z0 (nI k)) (fun q => (∃ c, CHg q.2 c n) ∧ SYg q.2 ny) := fun m z0 h1 h2 => by
    unfold X12_find_286
    exact tq_g i24 (nx _ h1 h2)
  have t233 : ∀ (v5 v6 z0 : Int32), (0 < nI k → ∃ x, v5 = nI x ∧ x < 800) → (v6 = -1 ∨ ∃ r, v6 = nI r ∧ r < 1200) → TQ (X12_find_233 mo my me mg mw (fun a0 a1 a2 => rec (a0, a1, a2)) m s1 (nI k) v5 v6 z0 (nI k)) (fun q => (∃ c, CHg q.2 c n) ∧ SYg q.2 ny) := by
    intro v5 v6 z0 h5 h6
    unfold X12_find_233
    refine tq_g i24 (tq_i (fun c0 => ?_) (fun _ => ?_))
    · obtain ⟨x, rfl, hx⟩ := h5 c0
      have i8 : inb (nI x) 800 = true := inb_nI hx (by decide)
      exact tq_g i8 (tq_i (fun _ => t286 _ _ hC hS) (fun _ => tq_g i8 (t286 _ _ hC hS)))
    · refine tq_i (fun _ => t286 _ _ hC hS) (fun c6 => ?_)
      rcases h6 with h | ⟨r, rfl, hr⟩
      · exact absurd h c6
      · exact tq_g (inb_nI hr (by decide)) (t286 _ _ hC hS)
  have t179 : ∀ (v5 z0 : Int32), (0 < nI k → ∃ x, v5 = nI x ∧ x < 800) → (z0 = -1 ∨ ∃ r, z0 = nI r ∧ r < 1200) → TQ (X12_find_179 mo my me mg mw (fun a0 a1 a2 => rec (a0, a1, a2)) m s1 (nI k) v5 z0) (fun q => (∃ c, CHg q.2 c n) ∧ SYg q.2 ny) := by
    intro v5 z0 h5 h6
    unfold X12_find_179
    refine tq_i (fun c0 => ?_) (fun _ => ?_)
    · obtain ⟨x, rfl, hx⟩ := h5 c0
      have i8 : inb (nI x) 800 = true := inb_nI hx (by decide)
      exact tq_g i8 (tq_i (fun _ => t233 _ _ _ h5 h6) (fun _ => tq_g i8 (t233 _ _ _ h5 h6)))
    · refine tq_i (fun _ => t233 _ _ _ h5 h6) (fun c6 => ?_)
      rcases h6 with h | ⟨r, rfl, hr⟩
      · exact absurd h c6
      · exact tq_g (inb_nI hr (by decide)) (t233 _ _ _ h5 (Or.inr ⟨r, rfl, hr⟩))
  have t143 : ∀ z0 : Int32, (0 < nI k → ∃ x, z0 = nI x ∧ x < 800) → TQ (X12_find_143 mo my me mg mw (fun a0 a1 a2 => rec (a0, a1, a2)) m s1 (nI k) z0) (fun q => (∃ c, CHg q.2 c n) ∧ SYg q.2 ny) := by
    intro z0 h5
    unfold X12_find_143
    refine tq_i (fun _ => t179 _ _ h5 (Or.inl rfl)) (fun _ => tq_g (by decide) ?_)
    obtain ⟨e, he, hen⟩ := hC.2.2 0 (by omega)
    rw [show ((0 : Int32)).toNatClampNeg = 0 by decide, he, ht, ix400]
    refine tq_g (inb_nI (by omega) (by decide)) ?_
    exact tq_b (R_governs ht ht1 hW) (fun q hq => t179 _ _ h5 hq)
  refine tq_i (fun c0 => t143 _ (fun h => ?_)) (fun c0 => ?_)
  · rw [c0] at h
    exact absurd h (by decide)
  · cases k with
    | zero => exact absurd rfl c0
    | succ k =>
      rw [nI_pred, nI_clamp (show k < 2 ^ 31 by omega)]
      obtain ⟨e, he, hen⟩ := hC.2.2 k (by omega)
      rw [he, ht, ix400]
      exact tq_g (inb_nI (by omega) (by decide)) (t143 _ (fun _ => ⟨_, rfl, by omega⟩))
theorem R_find {v1 : Int64} (ht : mo.1 = nI t) (ht1 : t ≤ 1) (hH : HE mu me t n u dep) (hY : HY my t ny) (hG : PG mg) (hW : PW mw) : TQ (X12_find mo my me mg mw mq v1) (fun q => LQ q.2 n ny) := by
  have h400 := hH.2.1
  unfold X12_find
  refine tq_b (R_holder ht ht1 hH hG) (fun q hq => ?_)
  show TQ _ (fun q : Int32 × Tmq => (∃ c, CHg q.2 c n) ∧ SYg q.2 ny)
  unfold X12_find_17
  refine lp_m (fun st => SYg st.1 ny ∧ ∃ c, CHg st.1 c n ∧ (st.2.2 = -1 ∨ ∃ e, st.2.2 = nI e ∧ e < n ∧ c ≤ dep e)) (fun st => if st.2.2 = -1 then 0 else 25 - dep st.2.2.toNatClampNeg) (fun rec st hI hrec => ?_) FU _ ⟨Or.inl rfl, 0, ⟨rfl, by decide, fun i h => absurd h (by omega)⟩, ?_⟩ (by show (if _ then _ else 25 - dep (Int32.toNatClampNeg q)) < 1000000000000; split; exact (by decide); exact Nat.lt_of_le_of_lt (Nat.sub_le _ _) (by decide))
  rotate_left
  · rcases hq with h | ⟨e, h1, h2, -⟩
    · exact Or.inl h
    · exact Or.inr ⟨e, h1, h2, Nat.zero_le _⟩
  obtain ⟨m, s1, s3⟩ := st
  obtain ⟨hS, c, hC, h3⟩ := hI
  have hS : SYg m ny := hS
  have hC : CHg m c n := hC
  have h3 : s3 = -1 ∨ ∃ e, s3 = nI e ∧ e < n ∧ c ≤ dep e := h3
  show TQ (X12_find_17b mo my me mg mw (fun a0 a1 a2 => rec (a0, a1, a2)) m s1 s3) _
  unfold X12_find_17b
  refine tq_i (fun _ => R_f107 ht ht1 hH hY hW hC hS) (fun c3 => ?_)
  rcases h3 with h | ⟨e, rfl, hen, hce⟩
  · exact absurd h c3
  rw [ht, ix400]
  have hde := (hH.2.2.2.2.2 e hen).1
  have t94 : ∀ (m : Tmq) (c' : Nat), SYg m ny → CHg m c' n → c' ≤ dep e + 1 → TQ (X12_find_94 mo my me mg mw (fun a0 a1 a2 => rec (a0, a1, a2)) m s1 (nI e)) (fun q => (∃ c, CHg q.2 c n) ∧ SYg q.2 ny) := by
    intro m c' hs hc hcd
    unfold X12_find_94
    refine tq_b (R_holder ht ht1 hH hG) (fun q hq => ?_)
    rcases hq with h | ⟨e', h1, h2, h3⟩
    · refine hrec _ ⟨hs, c', hc, Or.inl h⟩ ?_
      show (if q = -1 then 0 else 25 - dep q.toNatClampNeg) < (if nI e = -1 then 0 else 25 - dep (nI e).toNatClampNeg)
      rw [if_pos h, if_neg c3, nI_clamp (by omega)]
      omega
    · have hp : me.2.2.1 (400 * t + e') = nI e := by
        rcases h3 with h | h
        · exact absurd h c3
        · exact h
      have hd' : dep e' < 24 ∧ dep e' = dep e + 1 := by
        obtain ⟨g1, g2⟩ := hH.2.2.2.2.2 e' h2
        refine ⟨g1, ?_⟩
        rcases g2 with h | ⟨p, p1, p2, p3⟩
        · exact absurd (hp.symm.trans h) c3
        · have : p = e := (nI_eq (by omega) (by omega)).mp (p1.symm.trans hp)
          rw [← this]
          exact p3
      refine hrec _ ⟨hs, c', hc, Or.inr ⟨e', h1, h2, by omega⟩⟩ ?_
      show (if q = -1 then 0 else 25 - dep q.toNatClampNeg) < (if nI e = -1 then 0 else 25 - dep (nI e).toNatClampNeg)
      rw [if_neg (by rw [h1]; exact nI_neg1 (by omega)), if_neg c3, h1, nI_clamp (by omega), nI_clamp (by omega)]
      omega
  refine tq_g (inb_nI (by omega) (by decide)) (tq_i (fun _ => t94 _ c hS hC (by omega)) (fun _ => ?_))
  unfold X12_find_50
  refine lp_m (fun st => SYg st.1 ny ∧ st.1.1 = nI c ∧ st.2.1 = s1 ∧ st.2.2.1 = nI e ∧ ∃ j, j ≤ c ∧ st.2.2.2 = nI j ∧ ∀ i, i ≤ c → i ≠ j → ∃ e, st.1.2.1 i = nI e ∧ e < n) (fun st => st.2.2.2.toNatClampNeg) (fun rec2 st hI hrec2 => ?_) FU _ ⟨hS, hC.1, rfl, rfl, c, Nat.le_refl c, hC.1, fun i h1 h2 => hC.2.2 i (by omega)⟩ (by show (m.1).toNatClampNeg < 1000000000000; rw [hC.1, nI_clamp (by have := hC.2.1; omega)]; have := hC.2.1; omega)
  obtain ⟨m', x1, x3, x4⟩ := st
  obtain ⟨hS', e1, e2, e3, j, hj, e4, hg⟩ := hI
  have hS' : SYg m' ny := hS'
  have e1 : m'.1 = nI c := e1
  have e2 : x1 = s1 := e2
  have e3 : x3 = nI e := e3
  have e4 : x4 = nI j := e4
  have hg : ∀ i, i ≤ c → i ≠ j → ∃ e, m'.2.1 i = nI e ∧ e < n := hg
  subst e2 e3 e4
  show TQ (X12_find_50b mo my me mg mw (fun a0 a1 a2 => rec (a0, a1, a2)) (fun a0 a1 a2 a3 => rec2 (a0, a1, a2, a3)) m' x1 (nI e) (nI j)) _
  unfold X12_find_50b
  refine tq_i (fun c0 => ?_) (fun c0 => ?_)
  · cases j with
    | zero => exact absurd c0 (by decide)
    | succ j =>
      have em : nI (j + 1) + (-1 : Int32) = nI j := by
        rw [← nI_1, Int32.add_assoc, show (1 : Int32) + (-1) = 0 by decide, Int32.add_zero]
      rw [nI_pred, em, nI_clamp (show j < 2 ^ 31 by omega), nI_clamp (show j + 1 < 2 ^ 31 by omega)]
      refine tq_g (inb_nI (by omega) (by decide)) (tq_g (inb_nI (by omega) (by decide)) ?_)
      refine hrec2 _ ⟨hS', e1, rfl, rfl, j, by omega, rfl, fun i h1 h2 => ?_⟩ ?_
      · show ∃ e, upd m'.2.1 (j + 1) (m'.2.1 j) i = nI e ∧ e < n
        by_cases ci : i = j + 1
        · subst ci
          rw [upd_eq]
          exact hg j (by omega) (by omega)
        · rw [upd_ne ci]
          exact hg i h1 ci
      · show (nI j).toNatClampNeg < (nI (j + 1)).toNatClampNeg
        rw [nI_clamp (by omega), nI_clamp (by omega)]
        omega
  · have hj0 : j = 0 := by
      rcases Nat.eq_zero_or_pos j with h | h
      · exact h
      · exact absurd (nI_lt (a := 0) h (by omega)) c0
    subst hj0
    refine tq_g (by decide) (t94 _ (c + 1) hS' ⟨?_, by omega, fun i hi => ?_⟩ (by omega))
    · show m'.1 + 1 = _
      rw [e1, nI_1]
    · show ∃ e', upd m'.2.1 ((0 : Int32)).toNatClampNeg (nI e) i = nI e' ∧ e' < n
      rw [show ((0 : Int32)).toNatClampNeg = 0 by decide]
      by_cases ci : i = 0
      · subst ci
        exact ⟨e, upd_eq, hen⟩
      · rw [upd_ne ci]
        exact hg i (by omega) ci
theorem R_fileOf {C F : Nat → Nat} {c i : Nat} (ht : mo.1 = nI t) (ht1 : t ≤ 1) (hPU : PU mu C F) (hF40 : F t ≤ 40) (hH : HE mu me t n (C t) dep) (hC : CHg mq c n) (hi : i < c) : TQ (X12_fileOf mo mu me mq (nI i)) (fun q => q = -1 ∨ ∃ f, q = nI (40 * t + f) ∧ f < F t) := by
  have h400 := hH.2.1
  have hc24 := hC.2.1
  obtain ⟨g1, g2, g3⟩ := hPU t ht1
  obtain ⟨e, he, hen⟩ := hC.2.2 i hi
  obtain ⟨x, k, h1, h2, -, -⟩ := hH.2.2.1 e hen
  obtain ⟨y, z, y1, y2, y3⟩ := g3 x h2
  have i24 : inb (nI i) 24 = true := inb_nI (by omega) (by decide)
  have e20 : (20 : Int32) * nI t + nI x = nI (20 * t + x) := by rw [show (20 : Int32) = nI 20 from rfl, nI_mul, nI_add]
  have i40 : inb (nI (20 * t + x)) 40 = true := inb_nI (by omega) (by decide)
  unfold X12_fileOf
  rw [nI_clamp (show i < 2 ^ 31 by omega), he, ht, ix400, nI_clamp (show 400 * t + e < 2 ^ 31 by omega), h1, e20, nI_clamp (show 20 * t + x < 2 ^ 31 by omega), y1, y2]
  refine tq_g i24 (tq_g (inb_nI (by omega) (by decide)) (tq_g i24 ?_))
  refine tq_i (fun _ => tq_s (Or.inl rfl)) (fun c0 => tq_g i40 (tq_i (fun c1 => tq_g i40 (tq_s (Or.inr ?_))) (fun _ => tq_s (Or.inl rfl))))
  obtain ⟨j, hj, ej⟩ := nI_of c0
  rw [ej] at c1 ⊢
  have hjz : j < z := (nI_ltI hj (by omega)).mp c1
  refine ⟨y + j, ?_, by omega⟩
  rw [show (40 : Int32) = nI 40 from rfl, nI_mul, nI_add, nI_add, show 40 * t + y + j = 40 * t + (y + j) by omega]
theorem R_sign {a l : Nat} {v1 v2 v3 : Int32} (ht : mo.1 = nI t) (ht1 : t ≤ 1) (h1 : v1 = nI a) (h2 : v2 = nI l) (hal : a + l ≤ 8000) : TQ (X12_sign mb mo v1 v2 v3) (fun _ => True) := by
  subst h1 h2
  unfold X12_sign
  refine tq_i (fun _ => tq_s trivial) (fun c0 => tq_i (fun c => ?_) (fun _ => tq_s trivial))
  obtain ⟨j, hj, rfl⟩ := nI_of c0
  have hjl : j < l := (nI_ltI hj (by omega)).mp c
  rw [ht, show (8000 : Int32) = nI 8000 from rfl, nI_mul, nI_add, nI_add]
  exact tq_g (inb_nI (by omega) (by decide)) (tq_s trivial)
theorem R_frame {C F : Nat → Nat} {v1 v2 : Int32} (ht : mo.1 = nI t) (ht1 : t ≤ 1) (hPU : PU mu C F) (hF40 : F t ≤ 40) (hH : HE mu me t n (C t) dep) (hQ : LQ mq n ny) : TQ (X12_frame mo mu me mf mq v1 v2) (fun _ => True) := by
  obtain ⟨⟨c, hC⟩, -⟩ := hQ
  have hC : CHg mq c n := hC
  have hc24 := hC.2.1
  unfold X12_frame
  rw [hC.1]
  refine tq_i (fun _ => tq_s trivial) (fun c0 => tq_i (fun cc => ?_) (fun _ => tq_s trivial))
  obtain ⟨i, hi, rfl⟩ := nI_of c0
  have hic : i < c := (nI_ltI hi (by omega)).mp cc
  have i24 : inb (nI i) 24 = true := inb_nI (by omega) (by decide)
  obtain ⟨e, he, hen⟩ := hC.2.2 i hic
  refine tq_i (fun _ => tq_g i24 (tq_s trivial)) (fun _ => ?_)
  refine tq_i (fun _ => tq_g i24 (tq_s trivial)) (fun _ => ?_)
  refine tq_i (fun _ => tq_g i24 (tq_s trivial)) (fun _ => ?_)
  refine tq_i (fun _ => tq_g i24 (tq_b (R_signsOf ht ht1 hH (Or.inr ⟨e, by rw [nI_clamp (by omega)]; exact he, hen⟩)) (fun _ _ => tq_s trivial))) (fun _ => ?_)
  refine tq_i (fun _ => ?_) (fun _ => tq_s trivial)
  obtain ⟨q, eq, hq⟩ := R_fileOf (mq := mq) ht ht1 hPU hF40 hH hC hic
  rw [eq]
  simp only [Option.bind_some]
  refine tq_i (fun _ => tq_s trivial) (fun cq => ?_)
  rcases hq with h | ⟨f, rfl, hf⟩
  · exact absurd h cq
  · exact tq_g (inb_nI (by omega) (by decide)) (tq_s trivial)
theorem R_file {C F : Nat → Nat} {v1 v2 : Int32} (ht : mo.1 = nI t) (ht1 : t ≤ 1) (hPU : PU mu C F) (hPL : PL mf F) (hH : HE mu me t n (C t) dep) (hQ : LQ mq n ny) : TQ (X12_file mb mo mu me mf mq v1 v2) (fun _ => True) := by
  obtain ⟨⟨c, hC⟩, -⟩ := hQ
  have hC : CHg mq c n := hC
  have hc24 := hC.2.1
  obtain ⟨-, hF40, hfl⟩ := hPL t ht1
  unfold X12_file
  rw [hC.1]
  refine tq_i (fun _ => tq_s trivial) (fun c0 => tq_i (fun cc => ?_) (fun _ => tq_s trivial))
  obtain ⟨i, hi, rfl⟩ := nI_of c0
  have hic : i < c := (nI_ltI hi (by omega)).mp cc
  obtain ⟨q, eq, hq⟩ := R_fileOf (mq := mq) ht ht1 hPU hF40 hH hC hic
  rw [eq]
  simp only [Option.bind_some]
  refine tq_i (fun _ => tq_s trivial) (fun cq => ?_)
  rcases hq with h | ⟨f, rfl, hf⟩
  · exact absurd h cq
  have i80 : inb (nI (40 * t + f)) 80 = true := inb_nI (by omega) (by decide)
  obtain ⟨x, y, h1, h2, h3⟩ := hfl f hf
  rw [nI_clamp (show 40 * t + f < 2 ^ 31 by omega), h1, h2]
  exact tq_g i80 (tq_g i80 (tq_b (R_sign ht ht1 rfl rfl h3) (fun _ _ => tq_s trivial)))
theorem R_name {v1 v2 : Int32} (ht : mo.1 = nI t) (ht1 : t ≤ 1) (hH : HE mu me t n u dep) (hY : HY my t ny) (hQ : LQ mq n ny) : TQ (X12_name mb mo my me mq v1 v2) (fun _ => True) := by
  obtain ⟨⟨c, hC⟩, hS⟩ := hQ
  have hC : CHg mq c n := hC
  have hc24 := hC.2.1
  have h400 := hH.2.1
  have hny := hY.2.1
  have t53 : TQ (X12_name_53 mb mo my me mq v1 v2) (fun _ => True) := by
    unfold X12_name_53
    rw [hC.1]
    refine tq_i (fun _ => tq_s trivial) (fun c0 => tq_i (fun cc => ?_) (fun _ => tq_s trivial))
    obtain ⟨i, hi, rfl⟩ := nI_of c0
    have hic : i < c := (nI_ltI hi (by omega)).mp cc
    obtain ⟨e, he, hen⟩ := hC.2.2 i hic
    rw [nI_clamp (show i < 2 ^ 31 by omega), he]
    refine tq_g (inb_nI (by omega) (by decide)) ?_
    refine tq_b (R_named ht ht1 hH (Or.inr ⟨e, rfl, hen⟩)) (fun q hq => ?_)
    refine tq_i (fun _ => tq_s trivial) (fun cq => ?_)
    rcases hq with h | ⟨e', rfl, he', hl⟩
    · exact absurd h cq
    have i8 : inb (nI (400 * t + e')) 800 = true := inb_nI (by omega) (by decide)
    rw [ht, ix400, nI_clamp (show 400 * t + e' < 2 ^ 31 by omega)]
    rcases hH.2.2.2.2.1 e' he' with h | ⟨x, y, h1, h2, h3⟩
    · exact absurd h hl
    rw [h1, h2]
    exact tq_g i8 (tq_g i8 (tq_b (R_sign ht ht1 rfl rfl h3) (fun _ _ => tq_s trivial)))
  unfold X12_name
  refine tq_i (fun _ => tq_i (fun _ => t53) (fun cs => ?_)) (fun _ => t53)
  rcases hS with h | ⟨s, hs, hsn⟩
  · exact absurd h cs
  have e100 : (100 : Int32) * nI t + nI s = nI (100 * t + s) := by rw [show (100 : Int32) = nI 100 from rfl, nI_mul, nI_add]
  have i2 : inb (nI (100 * t + s)) 200 = true := inb_nI (by omega) (by decide)
  obtain ⟨x, y, h1, h2, h3⟩ := hY.2.2 s hsn
  rw [hs, ht, e100, nI_clamp (show 100 * t + s < 2 ^ 31 by omega), h1, h2]
  exact tq_g i2 (tq_g i2 (tq_b (R_sign ht ht1 rfl rfl h3) (fun _ _ => tq_s trivial)))
theorem R_symbol {v1 : Int32} (ht : mo.1 = nI t) (ht1 : t ≤ 1) (hY : HY my t ny) (hQ : LQ mq n ny) : TQ (X12_symbol mo my mq v1) (fun _ => True) := by
  have hny := hY.2.1
  unfold X12_symbol
  refine tq_i (fun _ => tq_s trivial) (fun cs => ?_)
  rcases hQ.2 with h | ⟨s, hs, hsn⟩
  · exact absurd h cs
  have e100 : (100 : Int32) * nI t + nI s = nI (100 * t + s) := by rw [show (100 : Int32) = nI 100 from rfl, nI_mul, nI_add]
  rw [hs, ht, e100]
  refine tq_i (fun _ => tq_s trivial) (fun _ => ?_)
  refine tq_i (fun _ => tq_g (inb_nI (by omega) (by decide)) (tq_s trivial)) (fun _ => ?_)
  exact tq_i (fun _ => tq_s trivial) (fun _ => tq_s trivial)
theorem R_count {v1 : Int32} (ht : mo.1 = nI t) (ht1 : t ≤ 1) : TQ (X12_count mt mo ms my mu me mg mw mf v1) (fun _ => True) := by
  have i2 : inb mo.1 2 = true := by rw [ht]; exact it2 ht1
  unfold X12_count
  refine tq_i (fun _ => tq_s trivial) (fun _ => ?_)
  refine tq_i (fun _ => tq_g i2 (tq_s trivial)) (fun _ => ?_)
  refine tq_i (fun _ => tq_g i2 (tq_s trivial)) (fun _ => ?_)
  refine tq_i (fun _ => tq_g i2 (tq_s trivial)) (fun _ => ?_)
  refine tq_i (fun _ => tq_g i2 (tq_s trivial)) (fun _ => ?_)
  refine tq_i (fun _ => tq_g i2 (tq_s trivial)) (fun _ => ?_)
  refine tq_i (fun _ => tq_g i2 (tq_s trivial)) (fun _ => ?_)
  exact tq_i (fun _ => tq_g i2 (tq_s trivial)) (fun _ => tq_s trivial)
end
