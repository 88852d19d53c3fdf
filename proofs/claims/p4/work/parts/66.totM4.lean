/-! totality of the reference: values of entries -/
def UF (g f : Nat → Int32) (h n u : Nat) : Prop := ∀ e, e < n → ∃ x k, f (400 * h + e) = nI x ∧ x < u ∧ g (20 * h + x) = nI k ∧ k ≤ e
def ORI (f : Nat → Int32) (h n : Nat) : Prop := ∀ e, e < n → f (400 * h + e) = -1 ∨ ∃ x, f (400 * h + e) = nI x ∧ x < n
def NMS (f g : Nat → Int32) (h n : Nat) : Prop := ∀ e, e < n → g (400 * h + e) = -1 ∨ ∃ x y, f (400 * h + e) = nI x ∧ g (400 * h + e) = nI y ∧ x + y ≤ 8000
def PAR (f : Nat → Int32) (h n : Nat) (dep : Nat → Nat) : Prop := ∀ e, e < n → dep e < 24 ∧ (f (400 * h + e) = -1 ∨ ∃ p, f (400 * h + e) = nI p ∧ p < e ∧ dep e = dep p + 1)
def HE (mu : Tmu) (me : Tme) (h n u : Nat) (dep : Nat → Nat) : Prop := me.1 h = nI n ∧ n ≤ 400 ∧ UF mu.2.2.1 me.2.2.2.1 h n u ∧ ORI me.2.2.2.2.1 h n ∧ NMS me.2.2.2.2.2.2.1 me.2.2.2.2.2.2.2.1 h n ∧ PAR me.2.2.1 h n dep
def PU (mu : Tmu) (C F : Nat → Nat) : Prop := ∀ h, h ≤ 1 → mu.1 h = nI (C h) ∧ C h ≤ 20 ∧ ∀ u, u < C h → ∃ x y, mu.2.2.2.1 (20 * h + u) = nI x ∧ mu.2.2.2.2.1 (20 * h + u) = nI y ∧ x + y ≤ F h
def RNG (me : Tme) : Prop := ∀ e, me.2.2.2.2.2.2.2.2.2.2.2.2.2.2.2.1 e = 0 ∨ ¬ me.2.2.2.2.2.2.2.2.2.2.2.2.2.2.2.2.2.2 e < 0
def LIN (mu : Tmu) : Prop := ∀ u, mu.2.2.2.2.2.1 u = 0 ∨ ¬ mu.2.2.2.2.2.2 u < 0
def LE (mu : Tmu) (me : Tme) (w n : Nat) (C F dep : Nat → Nat) : Prop := PU mu C F ∧ C w < 20 ∧ (∀ h, h ≤ 1 → h ≠ w → ∃ n dep, HE mu me h n (C h) dep ∧ (h = C 2 → n = C 3)) ∧ HE mu me w n (C w + 1) dep ∧ RNG me ∧ LIN mu ∧ (∃ f0, mu.2.2.1 (20 * w + C w) = nI f0 ∧ f0 ≤ n) ∧ ∃ x y, mu.2.2.2.1 (20 * w + C w) = nI x ∧ mu.2.2.2.2.1 (20 * w + C w) = nI y ∧ x + y ≤ F w
theorem NMS.set {f g : Nat → Int32} {h n w e x y : Nat} (hN : NMS f g h n) (hn : n ≤ 400) (he : e < 400) (hxy : x + y ≤ 8000) : NMS (upd f (400 * w + e) (nI x)) (upd g (400 * w + e) (nI y)) h n := by
  intro j hj
  by_cases c : 400 * h + j = 400 * w + e
  · rw [c]
    exact Or.inr ⟨x, y, upd_eq, upd_eq, hxy⟩
  · rw [upd_ne c, upd_ne c]
    exact hN j hj
theorem HE.names {mu : Tmu} {me : Tme} {h n u w e x y : Nat} {dep : Nat → Nat} (hE : HE mu me h n u dep) (he : e < 400) (hxy : x + y ≤ 8000) : HE mu (me.1, me.2.1, me.2.2.1, me.2.2.2.1, me.2.2.2.2.1, me.2.2.2.2.2.1, upd me.2.2.2.2.2.2.1 (400 * w + e) (nI x), upd me.2.2.2.2.2.2.2.1 (400 * w + e) (nI y), me.2.2.2.2.2.2.2.2) h n u dep :=
  ⟨hE.1, hE.2.1, hE.2.2.1, hE.2.2.2.1, hE.2.2.2.2.1.set hE.2.1 he hxy, hE.2.2.2.2.2⟩
theorem LE.names {mu : Tmu} {me : Tme} {w n e x y : Nat} {C F dep : Nat → Nat} (hL : LE mu me w n C F dep) (he : e < 400) (hxy : x + y ≤ 8000) : LE mu (me.1, me.2.1, me.2.2.1, me.2.2.2.1, me.2.2.2.2.1, me.2.2.2.2.2.1, upd me.2.2.2.2.2.2.1 (400 * w + e) (nI x), upd me.2.2.2.2.2.2.2.1 (400 * w + e) (nI y), me.2.2.2.2.2.2.2.2) w n C F dep :=
  ⟨hL.1, hL.2.1, fun h hh hw => by
    obtain ⟨n', dep', hE, hk⟩ := hL.2.2.1 h hh hw
    exact ⟨n', dep', hE.names he hxy, hk⟩, hL.2.2.2.1.names he hxy, hL.2.2.2.2.1, hL.2.2.2.2.2.1, hL.2.2.2.2.2.2⟩
theorem ix400 {w e : Nat} : (400 : Int32) * nI w + nI e = nI (400 * w + e) := by
  rw [show (400 : Int32) = nI 400 from rfl, nI_mul, nI_add]
theorem R_names {mb : Tmb} {mu : Tmu} {me : Tme} {w z n e x y : Nat} {C F dep : Nat → Nat} {v1 v2 v3 : Int32} (hB : MB mb w z) (hL : LE mu me w n C F dep) (h1 : v1 = nI e) (he : e < 400) (h2 : v2 = nI x) (h3 : v3 = nI y) (hxy : x + y ≤ 8000) : TQ (X12_names mb me v1 v2 v3) (fun q => LE mu q w n C F dep) := by
  subst h1 h2 h3
  have hw := hB.2.1
  have hin : inb (nI (400 * w + e)) 800 = true := inb_nI (by omega) (by decide)
  unfold X12_names
  rw [hB.1, ix400, nI_clamp (show 400 * w + e < 2 ^ 31 by omega)]
  exact tq_g hin (tq_i (fun _ => tq_g hin (tq_g hin (tq_s (hL.names he hxy)))) (fun _ => tq_s hL))
section
variable {mb : Tmb} {mu : Tmu} {me : Tme} {w z n e : Nat} {C F dep : Nat → Nat} {v2 v5 : Int64} {v4 v8 : Int32}
theorem RNG.set {me : Tme} {k : Nat} {v : Int64} {x : Int32} (h : RNG me) (hv : ¬ v < 0) : RNG (me.1, me.2.1, me.2.2.1, me.2.2.2.1, me.2.2.2.2.1, me.2.2.2.2.2.1, me.2.2.2.2.2.2.1, me.2.2.2.2.2.2.2.1, me.2.2.2.2.2.2.2.2.1, me.2.2.2.2.2.2.2.2.2.1, me.2.2.2.2.2.2.2.2.2.2.1, me.2.2.2.2.2.2.2.2.2.2.2.1, me.2.2.2.2.2.2.2.2.2.2.2.2.1, me.2.2.2.2.2.2.2.2.2.2.2.2.2.1, me.2.2.2.2.2.2.2.2.2.2.2.2.2.2.1, upd me.2.2.2.2.2.2.2.2.2.2.2.2.2.2.2.1 k x, me.2.2.2.2.2.2.2.2.2.2.2.2.2.2.2.2.1, me.2.2.2.2.2.2.2.2.2.2.2.2.2.2.2.2.2.1, vp_updL me.2.2.2.2.2.2.2.2.2.2.2.2.2.2.2.2.2.2 k v) := by
  intro j
  show upd me.2.2.2.2.2.2.2.2.2.2.2.2.2.2.2.1 k x j = 0 ∨ ¬ vp_updL me.2.2.2.2.2.2.2.2.2.2.2.2.2.2.2.2.2.2 k v j < 0
  by_cases c : j = k
  · subst c
    rw [updL_eq]
    exact Or.inr hv
  · rw [upd_ne c, updL_ne c]
    exact h j
theorem LIN.set {mu : Tmu} {k : Nat} {v : Int64} {x : Int32} (h : LIN mu) (hv : ¬ v < 0) : LIN (mu.1, mu.2.1, mu.2.2.1, mu.2.2.2.1, mu.2.2.2.2.1, upd mu.2.2.2.2.2.1 k x, vp_updL mu.2.2.2.2.2.2 k v) := by
  intro j
  show upd mu.2.2.2.2.2.1 k x j = 0 ∨ ¬ vp_updL mu.2.2.2.2.2.2 k v j < 0
  by_cases c : j = k
  · subst c
    rw [updL_eq]
    exact Or.inr hv
  · rw [upd_ne c, updL_ne c]
    exact h j
theorem R_m294 (hB : MB mb w z) (hL : LE mu me w n C F dep) (hv : v4 = 23 → ¬ v5 < 0) {v1 : Int32} : TQ (X12_matters_294 mb mu me v1 v2 v4 v5) (fun q => LE q.1 q.2 w n C F dep) := by
  have hw := hB.2.1
  have hC := hL.2.1
  have eu : mu.1 w = nI (C w) := (hL.1 w hw).1
  have e20 : (20 : Int32) * nI w + nI (C w) = nI (20 * w + C w) := by rw [show (20 : Int32) = nI 20 from rfl, nI_mul, nI_add]
  have i2 : inb (nI w) 2 = true := inb_nI (by omega) (by decide)
  have i40 : inb (nI (20 * w + C w)) 40 = true := inb_nI (by omega) (by decide)
  have i20 : inb (nI (C w)) 20 = true := inb_nI hC (by decide)
  unfold X12_matters_294
  rw [hB.1, nI_clamp (show w < 2 ^ 31 by omega), eu, e20, nI_clamp (show C w < 2 ^ 31 by omega)]
  refine tq_i (fun _ => ?_) (fun _ => tq_s hL)
  refine tq_i (fun c4 => ?_) (fun _ => tq_s hL)
  refine tq_g i2 (tq_g i40 (tq_i (fun _ => tq_g i2 (tq_g i20 ?_)) (fun _ => tq_s hL)))
  refine tq_i (fun _ => ?_) (fun _ => tq_s hL)
  refine tq_g i2 (tq_g i20 (tq_g i2 (tq_g i20 (tq_s ?_))))
  exact ⟨hL.1, hL.2.1, hL.2.2.1, hL.2.2.2.1, hL.2.2.2.2.1, hL.2.2.2.2.2.1.set (hv c4), hL.2.2.2.2.2.2⟩
theorem R_m250 (hB : MB mb w z) (hL : LE mu me w n C F dep) (he : e < 400) (hv : v4 = 23 → ¬ v5 < 0) : TQ (X12_matters_250 mb mu me (nI e) v2 v4 v5 (nI (400 * w + e)) v8) (fun q => LE q.1 q.2 w n C F dep) := by
  have hw := hB.2.1
  have i8 : inb (nI (400 * w + e)) 800 = true := inb_nI (by omega) (by decide)
  have t := R_m294 (v2 := v2) (v1 := nI e) hB hL hv
  unfold X12_matters_250
  refine tq_i (fun _ => ?_) (fun _ => t)
  refine tq_i (fun _ => t) (fun _ => tq_g i8 ?_)
  exact tq_i (fun _ => tq_g i8 (tq_g i8 (tq_s hL))) (fun _ => t)
theorem R_m206 (hB : MB mb w z) (hL : LE mu me w n C F dep) (he : e < 400) (hv : v4 = 23 → ¬ v5 < 0) : TQ (X12_matters_206 mb mu me (nI e) v2 v4 v5 (nI (400 * w + e)) v8) (fun q => LE q.1 q.2 w n C F dep) := by
  have hw := hB.2.1
  have i8 : inb (nI (400 * w + e)) 800 = true := inb_nI (by omega) (by decide)
  have t := R_m250 (v2 := v2) (v8 := v8) hB hL he hv
  unfold X12_matters_206
  refine tq_i (fun _ => ?_) (fun _ => t)
  refine tq_i (fun _ => t) (fun _ => tq_g i8 ?_)
  exact tq_i (fun _ => tq_g i8 (tq_g i8 (tq_s hL))) (fun _ => t)
theorem R_m164 (hB : MB mb w z) (hL : LE mu me w n C F dep) (he : e < 400) (hv : v4 = 23 → ¬ v5 < 0) : TQ (X12_matters_164 mb mu me (nI e) v2 v4 v5 (nI (400 * w + e)) v8) (fun q => LE q.1 q.2 w n C F dep) := by
  have i4 : inb (nI e) 400 = true := inb_nI he (by decide)
  have t := R_m206 (v2 := v2) (v8 := v8) hB hL he hv
  unfold X12_matters_164
  refine tq_i (fun _ => ?_) (fun _ => t)
  refine tq_i (fun c4 => tq_g i4 ?_) (fun _ => t)
  refine tq_i (fun _ => tq_g i4 (tq_g i4 (tq_s ?_))) (fun _ => t)
  exact ⟨hL.1, hL.2.1, hL.2.2.1, hL.2.2.2.1, hL.2.2.2.2.1.set (hv c4), hL.2.2.2.2.2⟩
theorem R_m120 (hB : MB mb w z) (hL : LE mu me w n C F dep) (he : e < 400) (hv : v4 = 23 → ¬ v5 < 0) : TQ (X12_matters_120 mb mu me (nI e) v2 v4 v5 (nI (400 * w + e)) v8) (fun q => LE q.1 q.2 w n C F dep) := by
  have i4 : inb (nI e) 400 = true := inb_nI he (by decide)
  have t := R_m164 (v2 := v2) (v8 := v8) hB hL he hv
  unfold X12_matters_120 X12_matters_152
  refine tq_g i4 (tq_i (fun _ => tq_g i4 ?_) (fun _ => t))
  exact tq_i (fun _ => tq_g i4 (tq_g i4 (tq_s hL))) (fun _ => tq_g i4 (tq_g i4 (tq_s hL)))
theorem R_m58 (hB : MB mb w z) (hL : LE mu me w n C F dep) (he : e < 400) (hv : v4 = 23 → ¬ v5 < 0) : TQ (X12_matters_58 mb mu me (nI e) v2 v4 v5 (nI (400 * w + e)) v8) (fun q => LE q.1 q.2 w n C F dep) := by
  have i4 : inb (nI e) 400 = true := inb_nI he (by decide)
  have t1 := R_m164 (v2 := v2) (v8 := v8) hB hL he hv
  have t2 := R_m120 (v2 := v2) (v8 := v8) hB hL he hv
  have t : TQ (X12_matters_101 mb mu me (nI e) v2 v4 v5 (nI (400 * w + e)) v8) (fun q => LE q.1 q.2 w n C F dep) := by
    unfold X12_matters_101
    refine tq_i (fun _ => ?_) (fun _ => t1)
    exact tq_i (fun _ => t2) (fun _ => tq_i (fun _ => t1) (fun _ => t2))
  unfold X12_matters_58
  refine tq_i (fun _ => ?_) (fun _ => t)
  refine tq_i (fun _ => tq_g i4 ?_) (fun _ => t)
  exact tq_i (fun _ => tq_g i4 (tq_g i4 (tq_s hL))) (fun _ => t)
theorem R_matters {v1 : Int32} (hB : MB mb w z) (hL : LE mu me w n C F dep) (h1 : v1 = nI e) (he : e < 400) (hv : v4 = 23 → ¬ v5 < 0) : TQ (X12_matters mb mu me v1 v2 v4 v5) (fun q => LE q.1 q.2 w n C F dep) := by
  subst h1
  unfold X12_matters X12_matters_53
  rw [hB.1, ix400]
  refine tq_i (fun _ => R_m58 hB hL he hv) (fun _ => ?_)
  refine tq_i (fun _ => R_m58 hB hL he hv) (fun _ => ?_)
  refine tq_i (fun _ => R_m58 hB hL he hv) (fun _ => ?_)
  refine tq_i (fun _ => R_m58 hB hL he hv) (fun _ => ?_)
  refine tq_i (fun _ => R_m58 hB hL he hv) (fun _ => ?_)
  exact tq_i (fun _ => R_m58 hB hL he hv) (fun _ => R_m58 hB hL he hv)
end
def REF (mr : Tmr) (a n : Nat) : Prop := ∃ r, mr.1 = nI r ∧ 4 * r ≤ a ∧ ∀ i, i < r → ∃ e, mr.2.2.2.1 i = nI e ∧ e < n
theorem REF.le {mr : Tmr} {a a' n : Nat} (h : REF mr a n) (ha : a ≤ a') : REF mr a' n := by
  obtain ⟨r, h1, h2, h3⟩ := h
  exact ⟨r, h1, by omega, h3⟩
theorem REF.more {mr : Tmr} {a n n' : Nat} (h : REF mr a n) (hn : n ≤ n') : REF mr a n' := by
  obtain ⟨r, h1, h2, h3⟩ := h
  exact ⟨r, h1, h2, fun i hi => by
    obtain ⟨e, he, hlt⟩ := h3 i hi
    exact ⟨e, he, by omega⟩⟩
theorem R_refers {mr : Tmr} {a n e : Nat} {v1 v6 : Int32} {v2 v4 : Int64} (hR : REF mr a n) (ha : a + 4 ≤ 8000) (hv1 : v1 = nI e) (he : e < n) : TQ (X12_refers mr v1 v2 v4 v6) (fun q => REF q (a + 4) n) := by
  obtain ⟨r, h1, h2, h3⟩ := hR
  unfold X12_refers X12_refers_65
  rw [h1, nI_clamp (show r < 2 ^ 31 by omega), hv1]
  have fin : ∀ (f h : Nat → Int32) (k : Nat → Int64), REF (nI r + 1, f, k, upd mr.2.2.2.1 r (nI e), h) (a + 4) n := fun f h k => ⟨r + 1, nI_1 r, by omega, fun i hi => by
    by_cases c : i = r
    · subst c
      exact ⟨e, upd_eq, he⟩
    · obtain ⟨e', g1, g2⟩ := h3 i (by omega)
      exact ⟨e', (upd_ne c).trans g1, g2⟩⟩
  have hin : inb (nI r) 2001 = true := inb_nI (by omega) (by decide)
  refine tq_g hin (tq_g hin (tq_g hin ?_))
  refine tq_i (fun _ => tq_g hin (tq_s (fin _ _ _))) (fun _ => ?_)
  exact tq_i (fun _ => tq_g hin (tq_s (fin _ _ _))) (fun _ => tq_g hin (tq_s (fin _ _ _)))
theorem R_text {mc : Tmc} {mb : Tmb} {ms : Tms} {mu : Tmu} {me : Tme} {w z a l n e x : Nat} {C F dep : Nat → Nat} {v1 v6 : Int32} {v2 v4 : Int64} (hC : CU mc a l) (hB : MB mb w z) (hO : SEC2 ms.2.2.2.2.1 ms.2.2.2.2.2 7) (hL : LE mu me w n C F dep) (h1 : v1 = nI e) (he : e < 400) (h4 : v4 = lN x) (hx32 : x < 2 ^ 32) : TQ (X12_text mc mb ms me v1 v2 v4 v6) (fun q => CU q.1 a l ∧ LE mu q.2 w n C F dep) := by
  subst h4
  obtain ⟨p, y, hp, hy, hpy⟩ := hO 4 (by decide)
  have c4 : ((4 : Int32)).toNatClampNeg = 4 := by decide
  have hin : inb (4 : Int32) 7 = true := by decide
  unfold X12_text
  rw [c4, hp, hy, nI_l (show y < 2 ^ 31 by omega), lN_i, nI_add]
  refine tq_g hin (tq_i (fun co => tq_g hin ?_) (fun _ => tq_l (tq_s ⟨hC.fail, hL⟩)))
  have hoy : x < y := (lN_ltB (by omega) (by omega)).mp co
  refine tq_b (R_endOf (o := 4) (by decide) (show (4 : Int32) = nI 4 from rfl) hp hy) (fun q4 h4 => ?_)
  refine tq_b (R_stringAt hB rfl h4 (by omega) (by omega)) (fun q6 h6 => ?_)
  refine tq_i (fun _ => tq_l (tq_s ⟨hC.fail, hL⟩)) (fun c6 => ?_)
  rcases h6 with h | ⟨k, hk, hlt, -⟩
  · exact absurd h c6
  refine tq_i (fun _ => tq_g hin ?_) (fun _ => tq_s ⟨hC, hL⟩)
  exact tq_b (R_names hB hL h1 he rfl hk (by omega)) (fun q hq => tq_s ⟨hC, hq⟩)
theorem wid_cases (v : Int32) : ∃ n, X12_widthOf v = nI n ∧ n ≤ 8 ∧ (v = 14 ∨ v = 19 ∨ v = 23 → n = 4) := by
  unfold X12_widthOf X12_widthOf_43
  by_cases c1 : v = 11
  · rw [if_pos c1]; exact ⟨1, rfl, by decide, fun h => by subst c1; revert h; decide⟩
  rw [if_neg c1]
  by_cases c2 : v = 5
  · rw [if_pos c2]; exact ⟨2, rfl, by decide, fun h => by subst c2; revert h; decide⟩
  rw [if_neg c2]
  by_cases c3 : v = 6
  · rw [if_pos c3]; exact ⟨4, rfl, by decide, fun _ => rfl⟩
  rw [if_neg c3]
  by_cases c4 : v = 14
  · rw [if_pos c4]; exact ⟨4, rfl, by decide, fun _ => rfl⟩
  rw [if_neg c4]
  by_cases c5 : v = 19
  · rw [if_pos c5]; exact ⟨4, rfl, by decide, fun _ => rfl⟩
  rw [if_neg c5]
  by_cases c6 : v = 23
  · rw [if_pos c6]; exact ⟨4, rfl, by decide, fun _ => rfl⟩
  rw [if_neg c6]
  exact ⟨8, rfl, by decide, fun h => by
    rcases h with h | h | h
    · exact absurd h c4
    · exact absurd h c5
    · exact absurd h c6⟩
def VQ (w n a l : Nat) (C F dep : Nat → Nat) (q : Tmc × Tmu × Tme × Tmr) : Prop := ∃ a', CU q.1 a' l ∧ a ≤ a' ∧ LE q.2.1 q.2.2.1 w n C F dep ∧ REF q.2.2.2 a' n
theorem R_value {mc : Tmc} {mb : Tmb} {ms : Tms} {mu : Tmu} {me : Tme} {mr : Tmr} {w z a l n e : Nat} {C F dep : Nat → Nat} {v1 v4 : Int32} {v2 v5 : Int64} (hC : CU mc a l) (hB : MB mb w z) (hO : SEC2 ms.2.2.2.2.1 ms.2.2.2.2.2 7) (hL : LE mu me w n C F dep) (hR : REF mr a n) (h1 : v1 = nI e) (hen : e < n) : TQ (X12_value mc mb ms mu me mr v1 v2 v4 v5) (VQ w n a l C F dep) := by
  have he : e < 400 := by have := hL.2.2.2.1.2.1; omega
  have t179 : ∀ (m : Tmc) (a' : Nat) (v7 : Int32) (z0 : Int64), CU m a' l → a ≤ a' → (Rt m → v4 = 14 ∨ v4 = 19 ∨ v4 = 23 → a' = a + 4 ∧ ∃ x, x < 2 ^ 32 ∧ z0 = lN x) → TQ (X12_value_179 mb ms m mu me mr v1 v2 v4 v7 z0) (VQ w n a l C F dep) := by
    intro m a' v7 z0 hm ha hz
    have t210 : Rt m → TQ (X12_value_210 mb ms m mu me mr v1 v2 v4 v7 z0) (VQ w n a l C F dep) := fun r => by
      unfold X12_value_210
      refine tq_i (fun c => ?_) (fun c14 => ?_)
      · obtain ⟨-, x, hx, ex⟩ := hz r (Or.inl c)
        exact tq_b (R_text hm hB hO hL h1 he ex hx) (fun q hq => tq_s ⟨a', hq.1, ha, hq.2, hR.le ha⟩)
      · refine tq_i (fun c => ?_) (fun c19 => ?_)
        · obtain ⟨ea, -⟩ := hz r (Or.inr (Or.inl c))
          have := hm.2.2.1
          exact tq_b (R_refers hR (by omega) h1 hen) (fun q hq => tq_s ⟨a', hm, ha, hL, by rw [ea]; exact hq⟩)
        · refine tq_b (R_matters hB hL h1 he (fun c23 => ?_)) (fun q hq => tq_s ⟨a', hm, ha, hq, hR.le ha⟩)
          obtain ⟨-, x, hx, ex⟩ := hz r (Or.inr (Or.inr c23))
          rw [ex]
          exact lN_nneg (by omega)
    unfold X12_value_179
    refine tq_i (fun _ => tq_s ⟨a', hm, ha, hL, hR.le ha⟩) (fun r => ?_)
    have r := rt_1 r
    refine tq_i (fun _ => ?_) (fun _ => t210 r)
    exact tq_i (fun _ => tq_l (tq_s ⟨a', hm.fail, ha, hL, hR.le ha⟩)) (fun _ => t210 r)
  have t101 : ∀ (m : Tmc) (a' : Nat) (v8 : Int64), CU m a' l → a ≤ a' → (Rt m → ∃ k, v8 = lN k ∧ a' + k ≤ l) → TQ (X12_value_101 mb ms m mu me mr v8) (VQ w n a l C F dep) := by
    intro m a' v8 hm ha hk
    unfold X12_value_101
    refine tq_i (fun _ => tq_s ⟨a', hm, ha, hL, hR.le ha⟩) (fun r => ?_)
    obtain ⟨k, rfl, hk⟩ := hk (rt_1 r)
    refine tq_s ⟨a' + k, ⟨?_, hm.2.1, by have := hm.2.2.2; omega, hm.2.2.2⟩, by omega, hL, hR.le (by omega)⟩
    show m.1 + (lN k).toInt32 = _
    rw [hm.1, lN_i, nI_add]
  unfold X12_value X12_value_94
  refine tq_i (fun _ => ?_) (fun c8 => ?_)
  · refine tq_b (R_string hC hB) (fun q hq => ?_)
    obtain ⟨a', hc, hle, hr⟩ := hq
    refine tq_i (fun _ => tq_s ⟨a', hc, hle, hL, hR.le hle⟩) (fun r => ?_)
    obtain ⟨hlt, -, e1⟩ := hr (rt_1 r)
    refine tq_i (fun _ => ?_) (fun _ => tq_s ⟨a', hc, hle, hL, hR.le hle⟩)
    have es : q.2.1 - q.1 - 1 = nI (a' - a - 1) := by
      rw [hc.1, e1, show nI a' = nI (a' - a - 1) + nI 1 + nI a by rw [nI_add, nI_add]; congr 1; omega, Int32.add_sub_cancel]
      exact Int32.add_sub_cancel _ _
    have := hc.2.2.1
    exact tq_b (R_names hB hL h1 he e1 es (by omega)) (fun q' hq' => tq_s ⟨a', hc, hle, hq', hR.le hle⟩)
  refine tq_i (fun _ => ?_) (fun c24 => ?_)
  · refine tq_b (R_uleb hC hB) (fun q hq => ?_)
    obtain ⟨a', hc, hle, hr⟩ := hq
    refine tq_i (fun r => t101 _ a' _ hc hle (fun h => absurd h (rt_0 r))) (fun r => ?_)
    refine tq_i (fun _ => tq_l (t101 _ a' _ hc.fail hle (fun h => absurd h (rt_fail (by decide))))) (fun c0 => ?_)
    refine tq_i (fun _ => tq_l (t101 _ a' _ hc.fail hle (fun h => absurd h (rt_fail (by decide))))) (fun c1 => ?_)
    refine t101 _ a' _ hc hle (fun _ => ?_)
    rw [hc.1, hc.2.1] at c1
    exact l_left (by have := hc.2.2.2; omega) (by have := hc.2.2.1; omega) c0 c1
  refine tq_i (fun _ => tq_s ⟨a, hC, Nat.le_refl a, hL, hR⟩) (fun c25 => ?_)
  refine tq_i (fun c33 => t179 _ a _ _ hC (Nat.le_refl a) (fun _ h => by subst c33; exact absurd h (by decide))) (fun c33 => ?_)
  refine tq_i (fun c15 => ?_) (fun c15 => ?_)
  · refine tq_b (R_uleb hC hB) (fun q hq => ?_)
    obtain ⟨a', hc, hle, -⟩ := hq
    exact t179 _ a' _ _ hc hle (fun _ h => by subst c15; exact absurd h (by decide))
  refine tq_i (fun c13 => ?_) (fun c13 => ?_)
  · refine tq_b (R_leb hC hB) (fun q hq => ?_)
    obtain ⟨a', hc, hle, -⟩ := hq
    exact t179 _ a' _ _ hc hle (fun _ h => by subst c13; exact absurd h (by decide))
  obtain ⟨k, ek, hk, h4⟩ := wid_cases v4
  refine tq_b (R_number hC hB ek hk) (fun q hq => ?_)
  obtain ⟨a', hc, hle, hv, hr⟩ := hq
  refine t179 _ a' _ _ hc hle (fun r h => ?_)
  have h4 := h4 h
  subst h4
  obtain ⟨x, hx, ex⟩ := hv (by decide)
  exact ⟨(hr r).1, x, by omega, ex⟩
