/-! totality of the reference: programs of lines -/
def WQ (mc : Tmc) (a l : Nat) (q : Tmc × Tmw × Tml) : Prop := ∃ a', CU q.1 a' l ∧ a ≤ a' ∧ (Rt q.1 → Rt mc) ∧ PW q.2.1 ∧ LC q.2.2
theorem R_comes {mc : Tmc} {mb : Tmb} {mw : Tmw} {ml : Tml} {w z a l : Nat} {v1 v2 v3 : Int32} (hC : CU mc a l) (hB : MB mb w z) (hP : PW mw) (hL : LC ml) : TQ (X12_comes mc mb mw ml v1 v2 v3) (fun q => CU q.1 a l ∧ (Rt q.1 → Rt mc) ∧ PW q.2.1 ∧ LC q.2.2) := by
  have hw := hB.2.1
  obtain ⟨n, hn, hn6⟩ := hP w hw
  have i2 : inb (nI w) 2 = true := inb_nI (by omega) (by decide)
  have e6 : (600 : Int32) * nI w + nI n = nI (600 * w + n) := by rw [show (600 : Int32) = nI 600 from rfl, nI_mul, nI_add]
  have t118 : ∀ m : Tmc, CU m a l → (Rt m → Rt mc ∧ n < 600) → TQ (X12_comes_118 mb m mw ml v1 v2) (fun q => CU q.1 a l ∧ (Rt q.1 → Rt mc) ∧ PW q.2.1 ∧ LC q.2.2) := by
    intro m hm hr
    unfold X12_comes_118 X12_resets
    refine tq_i (fun r => tq_s ⟨hm, fun h => absurd h (rt_0 r), hP, hL⟩) (fun r => ?_)
    obtain ⟨rm, hn600⟩ := hr (rt_1 r)
    have i12 : inb (nI (600 * w + n)) 1200 = true := inb_nI (by omega) (by decide)
    rw [hB.1, nI_clamp (show w < 2 ^ 31 by omega), hn, e6]
    have pw : ∀ (f1 f3 f4 f5 : Nat → Int32) (f2 : Nat → Int64), PW (upd mw.1 w (nI n + (1 : Int32)), f1, f2, f3, f4, f5) := fun f1 f3 f4 f5 f2 h hh => by
      show ∃ k, upd mw.1 w (nI n + 1) h = nI k ∧ k ≤ 600
      by_cases c : h = w
      · subst c
        exact ⟨n + 1, by rw [upd_eq, nI_1], by omega⟩
      · rw [upd_ne c]
        exact hP h hh
    refine tq_g i2 (tq_g i12 (tq_g i12 (tq_g i12 (tq_g i12 (tq_g i12 (tq_g i2 (tq_g i2 ?_)))))))
    exact tq_i (fun _ => tq_s ⟨hm, fun _ => rm, pw _ _ _ _ _, hL⟩) (fun _ => tq_l (tq_s ⟨hm, fun _ => rm, pw _ _ _ _ _, hL⟩))
  unfold X12_comes
  refine tq_i (fun r => tq_s ⟨hC, fun h => h, hP, hL⟩) (fun r => ?_)
  have r := rt_1 r
  have t81 : ∀ z0 : Int32, TQ (X12_comes_81 mb mc mw ml v1 v2 v3 z0) (fun q => CU q.1 a l ∧ (Rt q.1 → Rt mc) ∧ PW q.2.1 ∧ LC q.2.2) := by
    intro z0
    unfold X12_comes_81
    refine tq_i (fun _ => tq_l (t118 _ hC.fail (fun h => absurd h (rt_fail (by decide))))) (fun _ => ?_)
    rw [hB.1, nI_clamp (show w < 2 ^ 31 by omega), hn]
    refine tq_g i2 (tq_i (fun _ => tq_l (t118 _ hC.fail (fun h => absurd h (rt_fail (by decide))))) (fun c => t118 _ hC (fun _ => ⟨r, ?_⟩)))
    rcases Nat.lt_or_ge n 600 with q | q
    · exact q
    · exact absurd (by rw [show n = 600 by omega]; rfl) c
  unfold X12_comes_36 X12_comes_80
  have t36 : TQ (if ml.2.2.2.2.2.2.1 < (0 : Int64) then X12_comes_81 mb mc mw ml v1 v2 v3 (0 : Int32) else (if (1000000 : Int64) < ml.2.2.2.2.2.2.1 then X12_comes_81 mb mc mw ml v1 v2 v3 (0 : Int32) else (if ml.2.2.2.2.2.2.2.1 < (0 : Int64) then X12_comes_81 mb mc mw ml v1 v2 v3 (0 : Int32) else (if (1000000 : Int64) < ml.2.2.2.2.2.2.2.1 then X12_comes_81 mb mc mw ml v1 v2 v3 (0 : Int32) else X12_comes_81 mb mc mw ml v1 v2 v3 (1 : Int32))))) (fun q => CU q.1 a l ∧ (Rt q.1 → Rt mc) ∧ PW q.2.1 ∧ LC q.2.2) := by
    refine tq_i (fun _ => t81 _) (fun _ => ?_)
    refine tq_i (fun _ => t81 _) (fun _ => ?_)
    refine tq_i (fun _ => t81 _) (fun _ => ?_)
    exact tq_i (fun _ => t81 _) (fun _ => t81 _)
  refine tq_i (fun _ => t81 _) (fun _ => ?_)
  refine tq_i (fun _ => t36) (fun _ => ?_)
  exact tq_i (fun _ => t81 _) (fun _ => t36)
theorem R_extended {mc : Tmc} {mb : Tmb} {mw : Tmw} {ml : Tml} {w z a l : Nat} {v1 v2 : Int32} (hC : CU mc a l) (hB : MB mb w z) (hP : PW mw) (hL : LC ml) : TQ (X12_extended mc mb mw ml v1 v2 (nI l)) (WQ mc a l) := by
  unfold X12_extended
  refine tq_b (R_uleb hC hB) (fun q h => ?_)
  obtain ⟨b, g, hab, hr⟩ := h
  have hl := g.2.2.2
  have t59 : ∀ m : Tmc, CU m b l → (Rt m → Rt mc ∧ ∃ n, q.1 = lN n ∧ 0 < n ∧ b + n ≤ l) → TQ (X12_extended_59 mb m mw ml v1 v2 q.1) (WQ mc a l) := by
    intro m hm hrm
    unfold X12_extended_59 X12_extended_106
    refine tq_i (fun r => tq_s ⟨b, hm, hab, fun h => absurd h (rt_0 r), hP, hL⟩) (fun r => ?_)
    obtain ⟨rmc, n, en, hn0, hn⟩ := hrm (rt_1 r)
    rw [en]
    have eat : m.1 + (lN n).toInt32 = nI (b + n) := by rw [hm.1, lN_i, nI_add]
    rw [eat]
    refine tq_b (R_byteOf hB hm.1 (by omega)) (fun q2 _ => ?_)
    have t106 : ∀ m' : Tmc, CU m' b l → (Rt m' → Rt m) → TQ ((X12_comes m' mb mw ml v1 (1 : Int32) v2).bind fun q1 => some ((nI (b + n), q1.1.2.1, q1.1.2.2.1, q1.1.2.2.2), q1.2.1, q1.2.2)) (WQ mc a l) := fun m' hm' hrr => tq_b (R_comes hm' hB hP hL) (fun q1 h1 => tq_s ⟨b + n, ⟨rfl, h1.1.2.1, by omega, hl⟩, by omega, fun _ => rmc, h1.2.2.1, h1.2.2.2⟩)
    refine tq_i (fun _ => ?_) (fun _ => ?_)
    · exact tq_i (fun _ => t106 _ hm (fun h => h)) (fun _ => tq_l (t106 _ hm.fail (fun h => absurd h (rt_fail (by decide)))))
    refine tq_i (fun _ => ?_) (fun _ => tq_s ⟨b + n, ⟨rfl, hm.2.1, by omega, hl⟩, by omega, fun _ => rmc, hP, hL⟩)
    refine tq_i (fun c9 => ?_) (fun _ => tq_l (tq_s ⟨b + n, ⟨rfl, hm.fail.2.1, by omega, hl⟩, by omega, fun _ => rmc, hP, hL⟩))
    have hn9 : n = 9 := (lN_eq (by omega) (by decide)).mp c9
    subst hn9
    refine tq_b (R_numberAt hB (show m.1 + (1 : Int32) = nI (b + 1) by rw [hm.1, nI_1]) (show (8 : Int32) = nI 8 from rfl) (by decide) (by omega)) (fun q7 _ => ?_)
    exact tq_s ⟨b + 9, ⟨rfl, hm.2.1, by omega, hl⟩, by omega, fun _ => rmc, hP, hL⟩
  have t26 : ∀ m : Tmc, CU m b l → (Rt m → Rt mc ∧ ¬ q.1 = 0) → TQ (X12_extended_26 mb m mw ml v1 v2 (nI l) q.1) (WQ mc a l) := by
    intro m hm hrm
    unfold X12_extended_26 X12_extended_53
    refine tq_i (fun r => t59 _ hm (fun h => absurd h (rt_0 r))) (fun r => ?_)
    obtain ⟨rmc, hq0⟩ := hrm (rt_1 r)
    refine tq_i (fun _ => tq_l (t59 _ hm.fail (fun h => absurd h (rt_fail (by decide))))) (fun c0 => ?_)
    refine tq_i (fun _ => tq_l (t59 _ hm.fail (fun h => absurd h (rt_fail (by decide))))) (fun c1 => ?_)
    refine t59 _ hm (fun _ => ⟨rmc, ?_⟩)
    rw [hm.1] at c1
    obtain ⟨n, en, hn⟩ := l_left (by omega) (by have := hm.2.2.1; omega) c0 c1
    refine ⟨n, en, ?_, hn⟩
    rcases Nat.eq_zero_or_pos n with h | h
    · subst h
      exact absurd en hq0
    · exact h
  refine tq_i (fun r => t26 _ g (fun h => absurd h (rt_0 r))) (fun r => ?_)
  have rmc := (hr (rt_1 r)).2
  exact tq_i (fun _ => tq_l (t26 _ g.fail (fun h => absurd h (rt_fail (by decide))))) (fun c => t26 _ g (fun _ => ⟨rmc, c⟩))
theorem R_standard {mc : Tmc} {mb : Tmb} {mw : Tmw} {ml : Tml} {w z a l x : Nat} {v1 v3 : Int32} (hC : CU mc a l) (hB : MB mb w z) (hP : PW mw) (hL : LC ml) (hx : x < 20) : TQ (X12_standard mc mb mw ml v1 (nI x) v3) (WQ mc a l) := by
  have self : TQ (some (mc, mw, ml)) (WQ mc a l) := tq_s ⟨a, hC, Nat.le_refl a, fun h => h, hP, hL⟩
  unfold X12_standard
  refine tq_i (fun _ => tq_b (R_comes hC hB hP hL) (fun q h => tq_s ⟨a, h.1, Nat.le_refl a, h.2.1, h.2.2.1, h.2.2.2⟩)) (fun _ => ?_)
  refine tq_i (fun _ => tq_b (R_uleb hC hB) (fun q h => ?_)) (fun _ => ?_)
  · obtain ⟨b, g, l1, r1⟩ := h
    exact tq_s ⟨b, g, l1, fun h => (r1 h).2, hP, hL⟩
  refine tq_i (fun _ => tq_b (R_leb hC hB) (fun q h => ?_)) (fun _ => ?_)
  · obtain ⟨b, g, l1, r1⟩ := h
    exact tq_s ⟨b, g, l1, fun h => (r1 h).2, hP, hL⟩
  refine tq_i (fun _ => tq_b (R_uleb hC hB) (fun q h => ?_)) (fun _ => ?_)
  · obtain ⟨b, g, l1, r1⟩ := h
    exact tq_s ⟨b, g, l1, fun h => (r1 h).2, hP, hL⟩
  refine tq_i (fun _ => tq_b (R_uleb hC hB) (fun q h => ?_)) (fun _ => ?_)
  · obtain ⟨b, g, l1, r1⟩ := h
    exact tq_s ⟨b, g, l1, fun h => (r1 h).2, hP, hL⟩
  refine tq_i (fun _ => self) (fun _ => ?_)
  refine tq_i (fun _ => self) (fun _ => ?_)
  refine tq_i (fun _ => tq_g (decide_eq_true hL.2) (tq_s ⟨a, hC, Nat.le_refl a, fun h => h, hP, hL⟩)) (fun _ => ?_)
  refine tq_i (fun _ => tq_b (R_number hC hB (show (2 : Int32) = nI 2 from rfl) (by decide)) (fun q h => ?_)) (fun _ => ?_)
  · obtain ⟨b, g, l1, -, r1⟩ := h
    exact tq_s ⟨b, g, l1, fun h => (r1 h).2, hP, hL⟩
  unfold X12_standard_175
  refine lp_m (fun st => (∃ b, CU st.1 b l ∧ a ≤ b) ∧ (Rt st.1 → Rt mc) ∧ st.2.1 = mw ∧ st.2.2.1 = ml ∧ st.2.2.2.1 = nI x) (fun st => muM st.1) (fun rec st hI hrec => ?_) FU _ ⟨⟨a, hC, Nat.le_refl a⟩, fun h => h, rfl, rfl, rfl⟩ (mu_FU _)
  obtain ⟨m, w', l', s2, s4⟩ := st
  obtain ⟨⟨b, hm, hab⟩, hr, e1, e2, e3⟩ := hI
  have hm : CU m b l := hm
  have hr : Rt m → Rt mc := hr
  have e1 : w' = mw := e1
  have e2 : l' = ml := e2
  have e3 : s2 = nI x := e3
  subst e1 e2 e3
  show TQ (X12_standard_175b mb (fun a0 a1 a2 a3 a4 => rec (a0, a1, a2, a3, a4)) m w' l' (nI x) s4) _
  unfold X12_standard_175b
  refine tq_g (inb_nI hx (by decide)) (tq_i (fun _ => ?_) (fun _ => tq_s ⟨b, hm, hab, hr, hP, hL⟩))
  refine tq_i (fun _ => tq_s ⟨b, hm, hab, hr, hP, hL⟩) (fun r => ?_)
  refine tq_b (R_uleb hm hB) (fun q h => ?_)
  obtain ⟨b', g, l1, r1⟩ := h
  exact hrec _ ⟨⟨b', g, by omega⟩, fun h => hr (r1 h).2, rfl, rfl, rfl⟩ (mu_lt hm (rt_1 r) g (fun h => (r1 h).1))
theorem R_runs {mc : Tmc} {mb : Tmb} {mw : Tmw} {ml : Tml} {w z a l e : Nat} {v1 : Int32} (hC : CU mc a l) (hB : MB mb w z) (hP : PW mw) (hL : LC ml) (he : e ≤ 8000) : TQ (X12_runs mc mb mw ml v1 (nI e)) (fun q => (∃ a, CU q.1 a e) ∧ PW q.2.1) := by
  unfold X12_runs X12_resets
  refine tq_l ?_
  unfold X12_runs_9
  refine lp_m (fun st => (∃ b, CU st.1 b e) ∧ PW st.2.1 ∧ LC st.2.2.1 ∧ st.2.2.2.2 = nI e) (fun st => muM st.1) (fun rec st hI hrec => ?_) FU _ ⟨⟨a, hC.1, rfl, hC.2.2.1, he⟩, hP, hL, rfl⟩ (mu_FU _)
  obtain ⟨m, w', l', s1, s2⟩ := st
  obtain ⟨⟨b, hm⟩, hP, hL, e2⟩ := hI
  have hm : CU m b e := hm
  have hP : PW w' := hP
  have hL : LC l' := hL
  have e2 : s2 = nI e := e2
  subst e2
  show TQ (X12_runs_9b mb (fun a0 a1 a2 a3 a4 => rec (a0, a1, a2, a3, a4)) m w' l' s1 (nI e)) _
  have t136 : TQ (X12_runs_136 mb m w' l' (nI e)) (fun q => (∃ a, CU q.1 a e) ∧ PW q.2.1) := by
    unfold X12_runs_136
    refine tq_i (fun _ => tq_s ⟨⟨b, hm⟩, hP⟩) (fun _ => ?_)
    exact tq_i (fun _ => tq_s ⟨⟨b, hm⟩, hP⟩) (fun _ => tq_l (tq_s ⟨⟨b, hm.fail⟩, hP⟩))
  unfold X12_runs_9b X12_runs_133
  refine tq_i (fun _ => t136) (fun r => ?_)
  have r := rt_1 r
  refine tq_i (fun _ => ?_) (fun _ => t136)
  refine tq_b (R_number hm hB (show (1 : Int32) = nI 1 from rfl) (by decide)) (fun q h => ?_)
  obtain ⟨b1, g1, l1, hv, r1⟩ := h
  obtain ⟨x, hx, ex⟩ := hv (by decide)
  rw [ex, lN_i]
  obtain ⟨o, ho, ho20⟩ := id hL.1
  have nx : ∀ q' : Tmc × Tmw × Tml, WQ q.2 b1 e q' → TQ (rec (q'.1, q'.2.1, q'.2.2, s1, nI e)) (fun q => (∃ a, CU q.1 a e) ∧ PW q.2.1) := fun q' hq' => by
    obtain ⟨b2, g2, l2, r2, p2, c2⟩ := hq'
    exact hrec _ ⟨⟨b2, g2⟩, p2, c2, rfl⟩ (mu_lt hm r g2 (fun h => by have := (r1 (r2 h)).1; omega))
  refine tq_i (fun cx => ?_) (fun _ => ?_)
  · rw [ho] at cx
    have hxo : x < o := (nI_ltI (by omega) (by omega)).mp cx
    refine tq_i (fun _ => tq_b (R_extended g1 hB hP hL) (fun q' hq' => nx q' hq')) (fun _ => ?_)
    exact tq_b (R_standard g1 hB hP hL (by omega)) (fun q' hq' => nx q' hq')
  · have hnz : nz l'.2.2.1 = true := decide_eq_true hL.2
    refine tq_g hnz (tq_g hnz (tq_b (R_comes g1 hB hP ?_) (fun q' hq' => nx q' ⟨b1, hq'.1, Nat.le_refl b1, hq'.2.1, hq'.2.2.1, hq'.2.2.2⟩)))
    exact hL
def TBQ (me : Tme) (w u : Nat) (C : Nat → Nat) (q : Tmc × Tmu × Tmw × Tmf × Tml) : Prop := (∃ a l, CU q.1 a l) ∧ PW q.2.2.1 ∧ ZU q.2.1 w (u + 1) C ∧ ∃ F, EB q.2.1 me C F ∧ PL q.2.2.2.1 F
theorem R_table {mc : Tmc} {mb : Tmb} {ms : Tms} {mu : Tmu} {me : Tme} {mw : Tmw} {mf : Tmf} {ml : Tml} {w z a l u y t : Nat} {C F : Nat → Nat} (hC : CU mc a l) (hB : MB mb w z) (hO : SEC2 ms.2.2.2.2.1 ms.2.2.2.2.2 7) (hu : u < C w) (hE : EB mu me C F) (hF : PL mf F) (hZ : ZU mu w u C) (hP : PW mw) (hy : ms.2.2.2.2.2 5 = nI y) (hy8 : y ≤ 8000) (ht : mu.2.2.2.2.2.2 u = lN t) (hty : t < y) : TQ (X12_table mc mb ms mu mw mf ml (nI u)) (TBQ me w u C) := by
  have hw := hB.2.1
  have hC20 : C w ≤ 20 := (hE.1 w hw).2.1
  obtain ⟨x5, y5, hx5, hy5, hxy5⟩ := hO 5 (by decide)
  have : y5 = y := (nI_eq (by omega) (by omega)).mp (hy5.symm.trans hy)
  subst this
  have c5 : ((5 : Int32)).toNatClampNeg = 5 := by decide
  have hZ1 : ZU mu w (u + 1) C := fun k h1 h2 => hZ k (by omega) h2
  have t107 : ∀ (m : Tmc) (b l' e : Nat) (v4 : Int64), CU m b l' → e ≤ 8000 → TQ (X12_table_107 mb ms m mu mw mf ml (nI u) (nI e) v4) (TBQ me w u C) := by
    intro m b l' e v4 hm he
    unfold X12_table_107
    refine tq_i (fun _ => tq_s ⟨⟨b, l', hm⟩, hP, hZ1, F, hE, hF⟩) (fun _ => ?_)
    refine tq_b (R_constants hm hB) (fun q2 h2 => ?_)
    obtain ⟨b2, g2, hlc⟩ := h2
    refine tq_b (R_directories g2 hB) (fun q4 h4 => ?_)
    obtain ⟨b4, g4, r4⟩ := h4
    refine tq_b (R_files g4 hB hu hE hF hZ) (fun q6 h6 => ?_)
    obtain ⟨⟨b6, g6⟩, r6, z6, F6, e6, f6⟩ := h6
    have t167 : ∀ m' : Tmc, CU m' b6 l' → (Rt m' → Rt q6.1) → TQ (X12_table_167 mb ms m' q6.2.1 mw q6.2.2 q2.2 (nI u) (nI e)) (TBQ me w u C) := fun m' hm' hr' => by
      unfold X12_table_167
      refine tq_i (fun _ => tq_s ⟨⟨b6, l', hm'⟩, hP, z6, F6, e6, f6⟩) (fun r => ?_)
      exact tq_b (R_runs hm' hB hP (hlc (r4 (r6 (hr' (rt_1 r))))) he) (fun q hq => tq_s ⟨⟨hq.1.choose, e, hq.1.choose_spec⟩, hq.2, z6, F6, e6, f6⟩)
    refine tq_i (fun _ => t167 _ g6 (fun h => h)) (fun _ => ?_)
    exact tq_i (fun _ => t167 _ g6 (fun h => h)) (fun _ => tq_l (t167 _ g6.fail (fun h => absurd h (rt_fail (by decide)))))
  unfold X12_table
  refine tq_g (by decide) (tq_g (inb_nI (by omega) (by decide)) ?_)
  have tE : TQ (X12_endOf ms (5 : Int32)) (fun q => q = nI (x5 + y5)) := R_endOf (o := 5) (by decide) rfl hx5 hy5
  refine tq_b tE (fun q3 h3 => ?_)
  refine tq_b tE (fun q5 h5 => ?_)
  rw [c5, hx5, nI_clamp (show u < 2 ^ 31 by omega), ht, lN_i, nI_add, h3]
  refine tq_b (R_lengthIn (a := x5 + t) (l := x5 + y5) (e := x5 + y5) ⟨rfl, rfl, by omega, by omega⟩ hB h5 (by omega)) (fun q7 h7 => ?_)
  obtain ⟨a7, g7, -, hr7⟩ := h7
  refine tq_i (fun _ => tq_s ⟨⟨a7, _, g7⟩, hP, hZ1, F, hE, hF⟩) (fun r => ?_)
  obtain ⟨-, -, e', ee, he1, he2⟩ := hr7 (rt_1 r)
  rw [ee]
  refine tq_b (R_must (a := a7) (l := e') ⟨g7.1, rfl, g7.2.2.1, by omega⟩ hB (show (2 : Int32) = nI 2 from rfl) (by decide)) (fun q10 h => ?_)
  obtain ⟨b1, g1, -⟩ := h
  refine tq_b (R_must g1 hB (show (1 : Int32) = nI 1 from rfl) (by decide)) (fun q12 h => ?_)
  obtain ⟨b2, g2, -⟩ := h
  refine tq_b (R_must g2 hB (show (1 : Int32) = nI 1 from rfl) (by decide)) (fun q14 h => ?_)
  obtain ⟨b3, g3, -⟩ := h
  refine tq_b (R_number g3 hB (show (4 : Int32) = nI 4 from rfl) (by decide)) (fun q16 h => ?_)
  obtain ⟨b4, g4, -⟩ := h
  refine tq_i (fun _ => t107 _ b4 e' e' _ g4 (by omega)) (fun _ => ?_)
  exact tq_i (fun _ => tq_l (t107 _ b4 e' e' _ g4.fail (by omega))) (fun _ => t107 _ b4 e' e' _ g4 (by omega))
def LNQ (me : Tme) (C : Nat → Nat) (q : Tmc × Tmu × Tmw × Tmf × Tml) : Prop := (∃ a l, CU q.1 a l) ∧ PW q.2.2.1 ∧ ∃ F, EB q.2.1 me C F ∧ PL q.2.2.2.1 F
theorem R_lines {mc : Tmc} {mb : Tmb} {ms : Tms} {mu : Tmu} {me : Tme} {mw : Tmw} {mf : Tmf} {ml : Tml} {w z a l : Nat} {C F : Nat → Nat} (hC : CU mc a l) (hB : MB mb w z) (hO : SEC2 ms.2.2.2.2.1 ms.2.2.2.2.2 7) (hE : EB mu me C F) (hF : PL mf F) (hF0 : F w = 0) (hP : PW mw) : TQ (X12_lines mc mb ms mu mw mf ml) (LNQ me C) := by
  have hw := hB.2.1
  have hC20 : C w ≤ 20 := (hE.1 w hw).2.1
  obtain ⟨x5, y5, hx5, hy5, hxy5⟩ := hO 5 (by decide)
  have c5 : ((5 : Int32)).toNatClampNeg = 5 := by decide
  have i2 : inb (nI w) 2 = true := inb_nI (by omega) (by decide)
  have hZ0 : ZU mu w 0 C := fun k _ hk => by
    obtain ⟨x, y, h1, h2, h3⟩ := (hE.1 w hw).2.2 k hk
    rw [h2, show y = 0 by omega]
    rfl
  unfold X12_lines X12_lines_2
  refine lp_m (fun st => (∃ b l, CU st.1 b l) ∧ PW st.2.2.1 ∧ ∃ u F, u ≤ C w ∧ st.2.2.2.2.2 = nI u ∧ ZU st.2.1 w u C ∧ EB st.2.1 me C F ∧ PL st.2.2.2.1 F) (fun st => 20 - st.2.2.2.2.2.toNatClampNeg) (fun rec st hI hrec => ?_) FU _ ⟨⟨a, l, hC⟩, hP, 0, F, Nat.zero_le _, rfl, hZ0, hE, hF⟩ (by show 20 - _ < 1000000000000; omega)
  obtain ⟨m, u', w', f', l', s1⟩ := st
  obtain ⟨⟨b, lb, hm⟩, hP, u, F, hu, e1, hZ, hE, hF⟩ := hI
  have hm : CU m b lb := hm
  have hP : PW w' := hP
  have e1 : s1 = nI u := e1
  have hZ : ZU u' w u C := hZ
  have hE : EB u' me C F := hE
  have hF : PL f' F := hF
  subst e1
  show TQ (X12_lines_2b mb ms (fun a0 a1 a2 a3 a4 a5 => rec (a0, a1, a2, a3, a4, a5)) m u' w' f' l' (nI u)) _
  unfold X12_lines_2b X12_lines_78
  rw [hB.1, nI_clamp (show w < 2 ^ 31 by omega), (hE.1 w hw).1]
  have done : TQ (some (m, u', w', f', l')) (LNQ me C) := tq_s ⟨⟨b, lb, hm⟩, hP, F, hE, hF⟩
  refine tq_g i2 (tq_i (fun cu => ?_) (fun _ => done))
  have huC : u < C w := (nI_ltI (by omega) (by omega)).mp cu
  refine tq_i (fun _ => done) (fun _ => ?_)
  have i20 : inb (nI u) 20 = true := inb_nI (by omega) (by decide)
  have nx : ∀ (m : Tmc) (u' : Tmu) (w' : Tmw) (f' : Tmf) (l' : Tml) (F : Nat → Nat), (∃ b l, CU m b l) → PW w' → ZU u' w (u + 1) C → EB u' me C F → PL f' F → TQ (rec (m, u', w', f', l', nI u + 1)) (LNQ me C) := fun m u' w' f' l' F h1 h2 h3 h4 h5 => by
    refine hrec _ ⟨h1, h2, u + 1, F, by omega, nI_1 u, h3, h4, h5⟩ ?_
    show 20 - (nI u + 1).toNatClampNeg < 20 - (nI u).toNatClampNeg
    rw [nI_1, nI_clamp (by omega), nI_clamp (by omega)]
    omega
  have hZ1 : ZU u' w (u + 1) C := fun k h1 h2 => hZ k (by omega) h2
  have e20 : (20 : Int32) * nI w + nI u = nI (20 * w + u) := by rw [show (20 : Int32) = nI 20 from rfl, nI_mul, nI_add]
  rw [nI_clamp (show u < 2 ^ 31 by omega), c5, hy5, nI_l (show y5 < 2 ^ 31 by omega), e20]
  refine tq_g i20 (tq_i (fun _ => nx _ _ _ _ _ F ⟨b, lb, hm⟩ hP hZ1 hE hF) (fun cl => tq_g i20 (tq_g (by decide) ?_)))
  refine tq_i (fun ct => ?_) (fun _ => tq_g (inb_nI (by omega) (by decide)) (tq_l (nx _ _ _ _ _ F ⟨b, lb, hm.fail⟩ hP hZ1 hE hF)))
  rcases hE.2.2.2 u with h | h
  · exact absurd h cl
  obtain ⟨t, ht, hty⟩ := l_lt (by omega) h ct
  refine tq_b (R_table hm hB hO huC hE hF hZ hP hy5 (by omega) ht hty) (fun q hq => ?_)
  obtain ⟨h1, h2, h3, F', h4, h5⟩ := hq
  exact nx _ _ _ _ _ F' h1 h2 h3 h4 h5
