/-! totality of the reference: lines -/
def PW (mw : Tmw) : Prop := ∀ h, h ≤ 1 → ∃ n, mw.1 h = nI n ∧ n ≤ 600
def PL (mf : Tmf) (F : Nat → Nat) : Prop := ∀ h, h ≤ 1 → mf.1 h = nI (F h) ∧ F h ≤ 40 ∧ ∀ f, f < F h → ∃ x y, mf.2.1 (40 * h + f) = nI x ∧ mf.2.2 (40 * h + f) = nI y ∧ x + y ≤ 8000
def LC (ml : Tml) : Prop := (∃ o, ml.2.2.2.1 = nI o ∧ o ≤ 20) ∧ ¬ ml.2.2.1 = 0
theorem R_constants {mc : Tmc} {mb : Tmb} {ml : Tml} {w z a l : Nat} (hC : CU mc a l) (hB : MB mb w z) : TQ (X12_constants mc mb ml) (fun q => ∃ a', CU q.1 a' l ∧ (Rt q.1 → LC q.2)) := by
  have t131 : ∀ (m : Tmc) (b : Nat) (x : Tml), CU m b l → (Rt m → LC x) → TQ (X12_constants_129 mb m x) (fun q => ∃ a', CU q.1 a' l ∧ (Rt q.1 → LC q.2)) := by
    intro m b x hm hx
    unfold X12_constants_129 X12_constants_131
    refine lp_m (fun st => (∃ b, CU st.1 b l) ∧ (Rt st.1 → LC st.2.1) ∧ ∃ k, k ≤ 20 ∧ st.2.2 = nI k) (fun st => 21 - st.2.2.toNatClampNeg) (fun rec st hI hrec => ?_) FU _ ⟨⟨b, hm⟩, hx, 1, by decide, rfl⟩ (by show 21 - _ < 1000000000000; omega)
    obtain ⟨m, x, s2⟩ := st
    obtain ⟨⟨b, hm⟩, hx, k, hk, e2⟩ := hI
    have hm : CU m b l := hm
    have hx : Rt m → LC x := hx
    have e2 : s2 = nI k := e2
    subst e2
    show TQ (X12_constants_131b mb (fun a0 a1 a2 => rec (a0, a1, a2)) m x (nI k)) _
    unfold X12_constants_131b X12_constants_179 X12_constants_173 X12_constants_179
    refine tq_i (fun ck => ?_) (fun _ => tq_s ⟨b, hm, hx⟩)
    refine tq_i (fun _ => tq_s ⟨b, hm, hx⟩) (fun r => ?_)
    have hL := hx (rt_1 r)
    obtain ⟨o, ho, ho20⟩ := id hL.1
    rw [ho] at ck
    have hko : k < o := (nI_ltI (by omega) (by omega)).mp ck
    have i20 : inb (nI k) 20 = true := inb_nI (by omega) (by decide)
    refine tq_b (R_number hm hB (show (1 : Int32) = nI 1 from rfl) (by decide)) (fun q h => tq_g i20 ?_)
    obtain ⟨b1, g1, -⟩ := h
    have nx : ∀ (m : Tmc) (x : Tml), CU m b1 l → LC x → TQ (X12_constants_214 mb (fun a0 a1 a2 => rec (a0, a1, a2)) m x (nI k)) (fun q => ∃ a', CU q.1 a' l ∧ (Rt q.1 → LC q.2)) := fun m x hm hx => by
      unfold X12_constants_214
      refine hrec _ ⟨⟨b1, hm⟩, fun _ => hx, k + 1, by omega, nI_1 k⟩ ?_
      show 21 - (nI k + 1).toNatClampNeg < 21 - (nI k).toNatClampNeg
      rw [nI_1, nI_clamp (by omega), nI_clamp (by omega)]
      omega
    have t184 : ∀ (x : Tml) (v1 z0 : Int32), LC x → TQ (X12_constants_184 mb (fun a0 a1 a2 => rec (a0, a1, a2)) q.2 x v1 (nI k) z0) (fun q => ∃ a', CU q.1 a' l ∧ (Rt q.1 → LC q.2)) := fun x v1 z0 hx => by
      unfold X12_constants_184
      refine tq_i (fun _ => nx _ _ g1 hx) (fun _ => ?_)
      refine tq_i (fun _ => tq_g i20 ?_) (fun _ => nx _ _ g1 hx)
      exact tq_i (fun _ => nx _ _ g1 hx) (fun _ => tq_l (nx _ _ g1.fail hx))
    refine tq_i (fun _ => tq_i (fun _ => t184 _ _ _ hL) (fun _ => t184 _ _ _ hL)) (fun _ => ?_)
    exact tq_i (fun _ => tq_i (fun _ => t184 _ _ _ hL) (fun _ => t184 _ _ _ hL)) (fun _ => t184 _ _ _ hL)
  have t83 : ∀ (m : Tmc) (b : Nat) (x : Tml), CU m b l → (Rt m → ¬ x.2.2.1 = 0) → TQ (X12_constants_83 mb m x) (fun q => ∃ a', CU q.1 a' l ∧ (Rt q.1 → LC q.2)) := by
    intro m b x hm hx
    unfold X12_constants_83 X12_constants_123
    refine tq_b (R_number hm hB (show (1 : Int32) = nI 1 from rfl) (by decide)) (fun q h => ?_)
    obtain ⟨b1, g1, -, hv, hr⟩ := h
    obtain ⟨o, ho, ev⟩ := hv (by decide)
    rw [ev, lN_i]
    refine tq_i (fun r => t131 _ b1 _ g1 (fun h => absurd h (rt_0 r))) (fun r => ?_)
    have rm := (hr (rt_1 r)).2
    refine tq_i (fun _ => tq_l (t131 _ b1 _ g1.fail (fun h => absurd h (rt_fail (by decide))))) (fun _ => ?_)
    refine tq_i (fun _ => tq_l (t131 _ b1 _ g1.fail (fun h => absurd h (rt_fail (by decide))))) (fun c20 => ?_)
    refine t131 _ b1 _ g1 (fun _ => ⟨⟨o, rfl, ?_⟩, hx rm⟩)
    rcases Nat.lt_or_ge 20 o with q | q
    · exact absurd (nI_lt (a := 20) q (by omega)) c20
    · exact q
  have t37 : ∀ (m : Tmc) (b : Nat) (x : Tml), CU m b l → TQ (X12_constants_37 mb m x) (fun q => ∃ a', CU q.1 a' l ∧ (Rt q.1 → LC q.2)) := by
    intro m b x hm
    unfold X12_constants_37
    refine tq_b (R_number hm hB (show (1 : Int32) = nI 1 from rfl) (by decide)) (fun q h => ?_)
    obtain ⟨b1, g1, -⟩ := h
    refine tq_b (R_number g1 hB (show (1 : Int32) = nI 1 from rfl) (by decide)) (fun q' h => ?_)
    obtain ⟨b2, g2, -⟩ := h
    refine tq_i (fun r => t83 _ b2 _ g2 (fun h => absurd h (rt_0 r))) (fun _ => ?_)
    exact tq_i (fun _ => tq_l (t83 _ b2 _ g2.fail (fun h => absurd h (rt_fail (by decide))))) (fun c => t83 _ b2 _ g2 (fun _ => c))
  unfold X12_constants
  refine tq_b (R_number hC hB (show (1 : Int32) = nI 1 from rfl) (by decide)) (fun q h => ?_)
  obtain ⟨b1, g1, -⟩ := h
  refine tq_b (R_must g1 hB (show (1 : Int32) = nI 1 from rfl) (by decide)) (fun q' h => ?_)
  obtain ⟨b2, g2, -⟩ := h
  refine tq_b (R_number g2 hB (show (1 : Int32) = nI 1 from rfl) (by decide)) (fun q'' h => ?_)
  obtain ⟨b3, g3, -⟩ := h
  exact tq_i (fun _ => tq_l (t37 _ b3 _ g3.fail)) (fun _ => t37 _ b3 _ g3)
theorem R_directories {mc : Tmc} {mb : Tmb} {w z a l : Nat} (hC : CU mc a l) (hB : MB mb w z) : TQ (X12_directories mc mb) (fun q => ∃ a', CU q.2 a' l ∧ (Rt q.2 → Rt mc)) := by
  unfold X12_directories
  refine tq_b (R_must hC hB (show (1 : Int32) = nI 1 from rfl) (by decide)) (fun q1 h => ?_)
  obtain ⟨b1, g1, -, r1⟩ := h
  refine tq_b (R_mustLeb g1 hB) (fun q2 h => ?_)
  obtain ⟨b2, g2, -, r2⟩ := h
  refine tq_b (R_mustLeb g2 hB) (fun q3 h => ?_)
  obtain ⟨b3, g3, -, r3⟩ := h
  refine tq_b (R_uleb g3 hB) (fun q4 h => ?_)
  obtain ⟨b4, g4, -, r4⟩ := h
  unfold X12_directories_24
  refine lp_m (fun st => (∃ b, CU st.1 b l) ∧ (Rt st.1 → Rt mc)) (fun st => muM st.1) (fun rec st hI hrec => ?_) FU _ ⟨⟨b4, g4⟩, fun h => r1 (r2 (r3 (r4 h).2))⟩ (mu_FU _)
  obtain ⟨m, s1, s3⟩ := st
  obtain ⟨⟨b, hm⟩, hr⟩ := hI
  have hm : CU m b l := hm
  have hr : Rt m → Rt mc := hr
  show TQ (X12_directories_24b mb (fun a0 a1 a2 => rec (a0, a1, a2)) m s1 s3) _
  unfold X12_directories_24b
  refine tq_i (fun _ => tq_s ⟨b, hm, hr⟩) (fun r => ?_)
  refine tq_i (fun _ => tq_s ⟨b, hm, hr⟩) (fun _ => ?_)
  refine tq_b (R_string hm hB) (fun q h => ?_)
  obtain ⟨b', g, -, r'⟩ := h
  exact hrec _ ⟨⟨b', g⟩, fun h => hr (r' h).2.1⟩ (mu_lt hm (rt_1 r) g (fun h => (r' h).1))
/-- units whose tables come later have no files yet -/
def ZU (mu : Tmu) (w u : Nat) (C : Nat → Nat) : Prop := ∀ k, u ≤ k → k < C w → mu.2.2.2.2.1 (20 * w + k) = 0
def FQ (me : Tme) (mc : Tmc) (w u l : Nat) (C : Nat → Nat) (q : Tmc × Tmu × Tmf) : Prop := (∃ a, CU q.1 a l) ∧ (Rt q.1 → Rt mc) ∧ ZU q.2.1 w (u + 1) C ∧ ∃ F, EB q.2.1 me C F ∧ PL q.2.2 F
theorem R_f104 {m0 mc : Tmc} {mb : Tmb} {mu : Tmu} {me : Tme} {mf : Tmf} {w z a l u x0 M : Nat} {C F : Nat → Nat} {v2 : Int32} {v4 : Int64} (hC : CU mc a l) (hB : MB mb w z) (hrt : Rt mc → Rt m0) (hu : u < C w) (hE : EB mu me C F) (hP : PL mf F) (hZ : ZU mu w (u + 1) C) (hx : mu.2.2.2.1 (20 * w + u) = nI x0) (hy : mu.2.2.2.2.1 (20 * w + u) = 0) (hxF : x0 = F w) (hM : Rt mc → v4 = lN M ∧ x0 + M ≤ 40) : TQ (X12_files_104 mb FU (mc, mu, mf, nI u, v2, v4, (0 : Int32))) (FQ me m0 w u l C) := by
  have hw := hB.2.1
  have hC20 : C w ≤ 20 := (hE.1 w hw).2.1
  have i2 : inb (nI w) 2 = true := inb_nI (by omega) (by decide)
  have e20 : (20 : Int32) * nI w + nI u = nI (20 * w + u) := by rw [show (20 : Int32) = nI 20 from rfl, nI_mul, nI_add]
  have i40 : inb (nI (20 * w + u)) 40 = true := inb_nI (by omega) (by decide)
  unfold X12_files_104
  refine lp_m (fun st => (∃ b, CU st.1 b l) ∧ (Rt st.1 → Rt m0 ∧ v4 = lN M ∧ x0 + M ≤ 40) ∧ ZU st.2.1 w (u + 1) C ∧ st.2.2.2.1 = nI u ∧ st.2.2.2.2.2.1 = v4 ∧ ∃ k F, st.2.2.2.2.2.2 = nI k ∧ EB st.2.1 me C F ∧ PL st.2.2.1 F ∧ st.2.1.2.2.2.1 (20 * w + u) = nI x0 ∧ st.2.1.2.2.2.2.1 (20 * w + u) = nI k ∧ x0 + k = F w) (fun st => muM st.1) (fun rec st hI hrec => ?_) FU _ ⟨⟨a, hC⟩, fun r => ⟨hrt r, hM r⟩, hZ, rfl, rfl, 0, F, rfl, hE, hP, hx, hy, hxF⟩ (mu_FU _)
  obtain ⟨m, u', f', s1, s2, s4, s6⟩ := st
  obtain ⟨⟨b, hm⟩, hr, hZ, e1, e4, k, F, e6, hE, hP, hx, hy, hxk⟩ := hI
  have hm : CU m b l := hm
  have hr : Rt m → Rt m0 ∧ v4 = lN M ∧ x0 + M ≤ 40 := hr
  have hZ : ZU u' w (u + 1) C := hZ
  have e1 : s1 = nI u := e1
  have e4 : s4 = v4 := e4
  have e6 : s6 = nI k := e6
  have hE : EB u' me C F := hE
  have hP : PL f' F := hP
  have hx : u'.2.2.2.1 (20 * w + u) = nI x0 := hx
  have hy : u'.2.2.2.2.1 (20 * w + u) = nI k := hy
  have hF40 : F w ≤ 40 := (hP w hw).2.1
  subst e1 e4 e6
  show TQ (X12_files_104b mb (fun a0 a1 a2 a3 a4 a5 a6 => rec (a0, a1, a2, a3, a4, a5, a6)) m u' f' (nI u) s2 s4 (nI k)) _
  have done : ∀ (m' : Tmc) (b' : Nat), CU m' b' l → (Rt m' → Rt m0) → TQ (some (m', u', f')) (FQ me m0 w u l C) := fun m' b' h1 h2 => tq_s ⟨⟨b', h1⟩, h2, hZ, F, hE, hP⟩
  unfold X12_files_104b X12_files_171
  refine tq_i (fun ck => ?_) (fun _ => done _ b hm (fun r => (hr r).1))
  refine tq_i (fun _ => done _ b hm (fun r => (hr r).1)) (fun r => ?_)
  have r := rt_1 r
  obtain ⟨hr0, hv4, hM40⟩ := hr r
  have hv4 : s4 = lN M := hv4
  rw [hv4, nI_l (show k < 2 ^ 31 by omega)] at ck
  have hkM : k < M := (lN_ltB (by omega) (by omega)).mp ck
  refine tq_b (R_string hm hB) (fun q h => ?_)
  obtain ⟨b1, g1, l1, r1⟩ := h
  refine tq_b (R_uleb g1 hB) (fun q' h => ?_)
  obtain ⟨b2, g2, l2, r2⟩ := h
  have t178 : ∀ m' : Tmc, CU m' b2 l → (Rt m' → Rt q'.2) → TQ (X12_files_178 mb (fun a0 a1 a2 a3 a4 a5 a6 => rec (a0, a1, a2, a3, a4, a5, a6)) m' u' f' (nI u) s2 s4 (nI k) q.1 (q.2.1 - q.1 - (1 : Int32))) (FQ me m0 w u l C) := by
    intro m' hm' hrm
    unfold X12_files_178
    refine tq_i (fun r' => done _ b2 hm' (fun h => absurd h (rt_0 r'))) (fun r' => ?_)
    have rq' := hrm (rt_1 r')
    obtain ⟨hlt, rq⟩ := r2 rq'
    obtain ⟨hlt1, -, eq1⟩ := r1 rq
    have es : q.2.1 - q.1 - 1 = nI (b1 - b - 1) := by
      rw [g1.1, eq1, show nI b1 = nI (b1 - b - 1) + nI 1 + nI b by rw [nI_add, nI_add]; congr 1; omega, Int32.add_sub_cancel]
      exact Int32.add_sub_cancel _ _
    have hb1 := g1.2.2.1
    have e40 : (40 : Int32) * nI w + nI (F w) = nI (40 * w + F w) := by rw [show (40 : Int32) = nI 40 from rfl, nI_mul, nI_add]
    have i80 : inb (nI (40 * w + F w)) 80 = true := inb_nI (by omega) (by decide)
    rw [hB.1, nI_clamp (show w < 2 ^ 31 by omega), (hP w hw).1, e40, e20, nI_clamp (show 40 * w + F w < 2 ^ 31 by omega), nI_clamp (show 20 * w + u < 2 ^ 31 by omega), hy, es, eq1]
    refine tq_g i2 (tq_g i80 (tq_g i80 (tq_g i2 (tq_g i2 (tq_g i40 (tq_g i40 ?_))))))
    refine hrec _ ⟨⟨b2, hm'⟩, fun _ => ⟨hr0, hv4, hM40⟩, fun j hj1 hj2 => ?_, rfl, rfl, k + 1, upC F w, nI_1 k, ⟨fun h hh => ?_, hE.2.1, hE.2.2.1, hE.2.2.2⟩, fun h hh => ?_, hx, ?_, ?_⟩ (mu_lt hm r hm' (fun _ => by omega))
    · show upd u'.2.2.2.2.1 (20 * w + u) (nI k + 1) (20 * w + j) = 0
      rw [upd_ne (show 20 * w + j ≠ 20 * w + u by omega)]
      exact hZ j hj1 hj2
    · obtain ⟨d1, d2, d3⟩ := hE.1 h hh
      refine ⟨d1, d2, fun j hj => ?_⟩
      obtain ⟨x, y, y1, y2, y3⟩ := d3 j hj
      show ∃ x y, u'.2.2.2.1 (20 * h + j) = nI x ∧ upd u'.2.2.2.2.1 (20 * w + u) (nI k + 1) (20 * h + j) = nI y ∧ x + y ≤ upC F w h
      by_cases c : 20 * h + j = 20 * w + u
      · have hhw : h = w := by omega
        subst hhw
        have : j = u := by omega
        subst this
        refine ⟨x0, k + 1, hx, by rw [upd_eq, nI_1], ?_⟩
        rw [show upC F h h = F h + 1 from if_pos rfl]
        omega
      · refine ⟨x, y, y1, by rw [upd_ne c]; exact y2, ?_⟩
        by_cases ch : h = w
        · subst ch
          rw [show upC F h h = F h + 1 from if_pos rfl]
          omega
        · rw [show upC F w h = F h from if_neg ch]
          exact y3
    · obtain ⟨d1, d2, d3⟩ := hP h hh
      show upd f'.1 w (nI (F w) + 1) h = nI (upC F w h) ∧ upC F w h ≤ 40 ∧ ∀ f, f < upC F w h → ∃ x y, upd f'.2.1 (40 * w + F w) (nI b) (40 * h + f) = nI x ∧ upd f'.2.2 (40 * w + F w) (nI (b1 - b - 1)) (40 * h + f) = nI y ∧ x + y ≤ 8000
      by_cases ch : h = w
      · subst ch
        rw [show upC F h h = F h + 1 from if_pos rfl]
        refine ⟨by rw [upd_eq, nI_1], by omega, fun f hf => ?_⟩
        by_cases cf : f = F h
        · subst cf
          exact ⟨b, b1 - b - 1, upd_eq, upd_eq, by omega⟩
        · have ne : 40 * h + f ≠ 40 * h + F h := by omega
          rw [upd_ne ne, upd_ne ne]
          exact d3 f (by omega)
      · rw [show upC F w h = F h from if_neg ch]
        refine ⟨by rw [upd_ne ch]; exact d1, d2, fun f hf => ?_⟩
        have ne : 40 * h + f ≠ 40 * w + F w := by omega
        rw [upd_ne ne, upd_ne ne]
        exact d3 f hf
    · show upd u'.2.2.2.2.1 (20 * w + u) (nI k + 1) (20 * w + u) = _
      rw [upd_eq, nI_1]
    · rw [show upC F w w = F w + 1 from if_pos rfl]
      omega
  refine tq_i (fun _ => t178 _ g2 (fun h => h)) (fun _ => ?_)
  refine tq_i (fun _ => tq_l (t178 _ g2.fail (fun h => absurd h (rt_fail (by decide))))) (fun _ => ?_)
  exact tq_i (fun _ => t178 _ g2 (fun h => h)) (fun _ => tq_l (t178 _ g2.fail (fun h => absurd h (rt_fail (by decide)))))
theorem R_files {mc : Tmc} {mb : Tmb} {mu : Tmu} {me : Tme} {mf : Tmf} {w z a l u : Nat} {C F : Nat → Nat} {v2 : Int32} (hC : CU mc a l) (hB : MB mb w z) (hu : u < C w) (hE : EB mu me C F) (hP : PL mf F) (hZ : ZU mu w u C) : TQ (X12_files mc mb mu mf (nI u) v2) (FQ me mc w u l C) := by
  have hw := hB.2.1
  have hC20 : C w ≤ 20 := (hE.1 w hw).2.1
  have hF40 : F w ≤ 40 := (hP w hw).2.1
  have i2 : inb (nI w) 2 = true := inb_nI (by omega) (by decide)
  have e20 : (20 : Int32) * nI w + nI u = nI (20 * w + u) := by rw [show (20 : Int32) = nI 20 from rfl, nI_mul, nI_add]
  have t78 : ∀ (m : Tmc) (b : Nat) (v4 : Int64), CU m b l → (Rt m → Rt mc ∧ ∃ M, v4 = lN M ∧ F w + M ≤ 40) → TQ (X12_files_78 mb m mu mf (nI u) v2 v4) (FQ me mc w u l C) := by
    intro m b v4 hm hr
    have hM : ∃ M, Rt m → v4 = lN M ∧ F w + M ≤ 40 := by
      by_cases r : Rt m
      · obtain ⟨-, M, h⟩ := hr r
        exact ⟨M, fun _ => h⟩
      · exact ⟨0, fun h => absurd h r⟩
    obtain ⟨M, hM⟩ := hM
    unfold X12_files_78
    rw [hB.1, nI_clamp (show w < 2 ^ 31 by omega), (hP w hw).1, e20, nI_clamp (show 20 * w + u < 2 ^ 31 by omega)]
    refine tq_g i2 (tq_g (inb_nI (by omega) (by decide)) ?_)
    refine R_f104 (x0 := F w) (M := M) (F := F) hm hB (fun r => (hr r).1) hu ⟨fun h hh => ?_, hE.2.1, hE.2.2.1, hE.2.2.2⟩ hP (fun k h1 h2 => hZ k (by omega) h2) upd_eq (hZ u (Nat.le_refl u) hu) rfl hM
    obtain ⟨d1, d2, d3⟩ := hE.1 h hh
    refine ⟨d1, d2, fun j hj => ?_⟩
    obtain ⟨x, y, y1, y2, y3⟩ := d3 j hj
    show ∃ x y, upd mu.2.2.2.1 (20 * w + u) (nI (F w)) (20 * h + j) = nI x ∧ mu.2.2.2.2.1 (20 * h + j) = nI y ∧ x + y ≤ F h
    by_cases c : 20 * h + j = 20 * w + u
    · have hhw : h = w := by omega
      subst hhw
      have : j = u := by omega
      subst this
      exact ⟨F h, 0, upd_eq, hZ j (Nat.le_refl j) hu, by omega⟩
    · exact ⟨x, y, by rw [upd_ne c]; exact y1, y2, y3⟩
  unfold X12_files X12_files_72
  refine tq_b (R_must hC hB (show (1 : Int32) = nI 1 from rfl) (by decide)) (fun q1 h => ?_)
  obtain ⟨b1, g1, -, r1⟩ := h
  refine tq_b (R_mustLeb g1 hB) (fun q2 h => ?_)
  obtain ⟨b2, g2, -, r2⟩ := h
  refine tq_b (R_mustLeb g2 hB) (fun q3 h => ?_)
  obtain ⟨b3, g3, -, r3⟩ := h
  refine tq_b (R_mustLeb g3 hB) (fun q4 h => ?_)
  obtain ⟨b4, g4, -, r4⟩ := h
  refine tq_b (R_mustLeb g4 hB) (fun q5 h => ?_)
  obtain ⟨b5, g5, -, r5⟩ := h
  refine tq_b (R_uleb g5 hB) (fun q6 h => ?_)
  obtain ⟨b6, g6, -, r6⟩ := h
  refine tq_i (fun r => t78 _ b6 _ g6 (fun h => absurd h (rt_0 r))) (fun r => ?_)
  have rm : Rt mc := r1 (r2 (r3 (r4 (r5 (r6 (rt_1 r)).2))))
  refine tq_i (fun _ => tq_l (t78 _ b6 _ g6.fail (fun h => absurd h (rt_fail (by decide))))) (fun c0 => ?_)
  rw [hB.1, nI_clamp (show w < 2 ^ 31 by omega), (hP w hw).1]
  refine tq_g i2 (tq_i (fun _ => tq_l (t78 _ b6 _ g6.fail (fun h => absurd h (rt_fail (by decide))))) (fun c1 => ?_))
  exact t78 _ b6 _ g6 (fun _ => ⟨rm, l_left (e := 40) (a := F w) (by decide) (by omega) c0 c1⟩)
