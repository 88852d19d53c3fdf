/-! totality of the reference: header, sections -/
theorem upd_eq {f : Nat → Int32} {k : Nat} {v : Int32} : upd f k v k = v := if_pos rfl
theorem upd_ne {f : Nat → Int32} {k j : Nat} {v : Int32} (h : j ≠ k) : upd f k v j = f j := if_neg h
theorem updL_eq {f : Nat → Int64} {k : Nat} {v : Int64} : vp_updL f k v k = v := if_pos rfl
theorem updL_ne {f : Nat → Int64} {k j : Nat} {v : Int64} (h : j ≠ k) : vp_updL f k v j = f j := if_neg h
/-- two rows: begins and sizes within the file -/
def SEC2 (f g : Nat → Int32) (m : Nat) : Prop := ∀ k, k < m → ∃ x y, f k = nI x ∧ g k = nI y ∧ x + y ≤ 8000
theorem SEC2.step {f g : Nat → Int32} {k x y : Nat} (h : SEC2 f g k) (hxy : x + y ≤ 8000) : SEC2 (upd f k (nI x)) (upd g k (nI y)) (k + 1) := by
  intro j hj
  by_cases e : j = k
  · subst e
    exact ⟨x, y, upd_eq, upd_eq, hxy⟩
  · obtain ⟨x', y', h1, h2, h3⟩ := h j (by omega)
    exact ⟨x', y', by rw [upd_ne e]; exact h1, by rw [upd_ne e]; exact h2, h3⟩
theorem SEC2.set {f g : Nat → Int32} {m k x y : Nat} (h : SEC2 f g m) (hxy : x + y ≤ 8000) : SEC2 (upd f k (nI x)) (upd g k (nI y)) m := by
  intro j hj
  by_cases e : j = k
  · subst e
    exact ⟨x, y, upd_eq, upd_eq, hxy⟩
  · obtain ⟨x', y', h1, h2, h3⟩ := h j hj
    exact ⟨x', y', by rw [upd_ne e]; exact h1, by rw [upd_ne e]; exact h2, h3⟩
theorem SEC2.less {f g : Nat → Int32} {m m' : Nat} (h : SEC2 f g m) (hm : m' ≤ m) : SEC2 f g m' := fun k hk => h k (by omega)
theorem l_of {v : Int64} {z : Nat} (hz : z < 2 ^ 31) (h0 : ¬ v < 0) (h1 : ¬ lN z < v) : ∃ x, x ≤ z ∧ v = lN x := by
  have e0 := Int64.le_iff_toInt_le.mp (Int64.not_lt.mp h0)
  have e1 := Int64.le_iff_toInt_le.mp (Int64.not_lt.mp h1)
  rw [show (0 : Int64).toInt = 0 by decide] at e0
  rw [lN_toInt hz] at e1
  refine ⟨v.toInt.toNat, by omega, ?_⟩
  apply Int64.toInt_inj.mp
  rw [show (lN v.toInt.toNat).toInt = ((v.toInt.toNat : Nat) : Int) from lN_toInt (by omega)]
  omega
theorem R_section {mc : Tmc} {mb : Tmb} {ms : Tms} {w z a l k r : Nat} {v1 v2 : Int32} (hC : CU mc a l) (hB : MB mb w z) (hk : k < 30) (h1 : v1 = nI k) (h2 : v2 = nI r) (hr : r + 40 ≤ 8000) (hS : SEC2 ms.2.1 ms.2.2.1 k) : TQ (X12_section mc mb ms v1 v2) (fun q => CU q.1 a l ∧ SEC2 q.2.2.1 q.2.2.2.1 (k + 1)) := by
  subst h1 h2
  unfold X12_section X12_section_101
  refine tq_b (R_numberAt hB (nI_add r 4) (show (4 : Int32) = nI 4 from rfl) (by decide) (by omega)) (fun q1 _ => ?_)
  refine tq_b (R_numberAt hB (nI_add r 24) (show (8 : Int32) = nI 8 from rfl) (by decide) (by omega)) (fun q3 _ => ?_)
  refine tq_b (R_numberAt hB (nI_add r 32) (show (8 : Int32) = nI 8 from rfl) (by decide) (by omega)) (fun q5 _ => ?_)
  rw [nI_clamp (show k < 2 ^ 31 by omega)]
  have hin := inb_nI (k := k) (n := 30) hk (by decide)
  have s0 : SEC2 (upd ms.2.1 k (0 : Int32)) (upd ms.2.2.1 k (0 : Int32)) (k + 1) := hS.step (x := 0) (y := 0) (by decide)
  refine tq_g hin (tq_g hin ?_)
  refine tq_i (fun _ => tq_s ⟨hC, s0⟩) (fun _ => ?_)
  refine tq_i (fun _ => tq_s ⟨hC, s0⟩) (fun _ => ?_)
  refine tq_i (fun _ => tq_l (tq_s ⟨hC.fail, s0⟩)) (fun c3 => ?_)
  refine tq_i (fun _ => tq_l (tq_s ⟨hC.fail, s0⟩)) (fun c5 => ?_)
  have ez : (mb.2.2).toInt64 = lN z := by rw [hB.2.2.1, nI_l (by have := hB.2.2.2.1; omega)]
  have hz := hB.2.2.2.1
  rw [ez]
  refine tq_i (fun _ => tq_l (tq_s ⟨hC.fail, s0⟩)) (fun c6 => ?_)
  obtain ⟨x, hx, rfl⟩ := l_of (by omega) c3 c6
  rw [lN_sub hx]
  refine tq_i (fun _ => tq_l (tq_s ⟨hC.fail, s0⟩)) (fun c7 => ?_)
  obtain ⟨y, hy, rfl⟩ := l_of (by omega) c5 c7
  refine tq_g hin (tq_g hin (tq_s ⟨hC, ?_⟩))
  rw [lN_i, lN_i]
  exact s0.set (by omega)
def stW (o : Nat) : Nat := ([0, 8, 16, 30, 42, 53, 65, 81] : List Nat).getD o 81
theorem stW_wn : ∀ o, o < 7 → ∀ i, i < 81 → stW o ≤ i → i < stW (o + 1) → (mk0.1 i = 0 ↔ i + 1 = stW (o + 1)) := by decide +kernel
theorem stW_81 : ∀ o, o < 8 → stW o ≤ 81 := by decide
theorem stW_lt : ∀ o, o < 7 → stW o < stW (o + 1) := by decide
def NAM (mb : Tmb) (f : Nat → Int32) (w m : Nat) : Prop := ∀ k, k < m → ∃ x y, f k = nI x ∧ x ≤ y ∧ y < 8000 ∧ mb.1 (8000 * w + y) = 0
theorem wn_80 : mk0.1 80 = 0 := by decide
theorem R_isNamed {mb : Tmb} {ms : Tms} {w z m k f : Nat} {v1 v2 : Int32} (hB : MB mb w z) (hN : NAM mb ms.2.2.2.1 w m) (hm : m ≤ 30) (hk : k < m) (hf : f ≤ 80) (h1 : v1 = nI k) (h2 : v2 = nI f) : TQ (X12_isNamed mb ms mk0 v1 v2) (fun _ => True) := by
  obtain ⟨x, y, hx, hxy, hy, h0⟩ := hN k hk
  have hin : inb (nI k) 30 = true := inb_nI (by omega) (by decide)
  unfold X12_isNamed X12_isNamed_2
  refine lp_m (fun st => st.1 = nI k ∧ st.2.1 = nI f ∧ ∃ i, f + i ≤ 80 ∧ x + i ≤ y ∧ st.2.2 = nI i) (fun st => 81 - st.2.2.toNatClampNeg) (fun rec st hI hrec => ?_) FU (v1, v2, 0) ⟨h1, h2, 0, hf, hxy, rfl⟩ (by show 81 - _ < 1000000000000; omega)
  obtain ⟨s1, s2, s3⟩ := st
  obtain ⟨e1, e2, i, hi, hxi, e3⟩ := hI
  have e1 : s1 = nI k := e1
  have e2 : s2 = nI f := e2
  have e3 : s3 = nI i := e3
  subst e1 e2 e3
  show TQ (X12_isNamed_2b mb ms mk0 (fun a0 a1 a2 => rec (a0, a1, a2)) (nI k) (nI f) (nI i)) _
  have ei : nI f + nI i = nI (f + i) := nI_add f i
  have hin2 : inb (nI (f + i)) 81 = true := inb_nI (by omega) (by decide)
  have ek : ms.2.2.2.1 (nI k).toNatClampNeg + nI i = nI (x + i) := by rw [nI_clamp (by omega), hx, nI_add]
  unfold X12_isNamed_2b X12_isNamed_42
  rw [ei, ek, nI_clamp (show f + i < 2 ^ 31 by omega)]
  have t42 : TQ (if inb (nI (f + i)) 81 = true then (if mk0.1 (f + i) = 0 then (if inb (nI k) 30 = true then ((X12_byteOf mb (nI (x + i))).bind fun q4 => (if q4 = 0 then some (1 : Int32) else some (0 : Int32))) else none) else some (0 : Int32)) else none) (fun _ => True) := by
    refine tq_g hin2 (tq_i (fun _ => tq_g hin ?_) (fun _ => tq_s trivial))
    exact tq_b (R_byteOf hB rfl (by omega)) (fun q _ => tq_i (fun _ => tq_s trivial) (fun _ => tq_s trivial))
  refine tq_g hin2 (tq_i (fun _ => t42) (fun c => tq_g hin ?_))
  refine tq_b (R_byteOf hB rfl (by omega)) (fun q hq => tq_g hin2 (tq_i (fun c2 => ?_) (fun _ => t42)))
  have hi80 : f + i ≠ 80 := fun e => c (by rw [e]; exact wn_80)
  have hxi2 : x + i ≠ y := fun e => c (by rw [← c2, hq, e]; exact h0)
  refine hrec _ ⟨rfl, rfl, i + 1, by omega, by omega, by show nI i + 1 = _; rw [nI_1]⟩ ?_
  show 81 - (nI i + 1).toNatClampNeg < 81 - (nI i).toNatClampNeg
  rw [nI_1, nI_clamp (by omega), nI_clamp (by omega)]
  omega
def HQ (a l : Nat) (q : Tmc × Tms) : Prop := CU q.1 a l ∧ (Rt q.1 → SEC2 q.2.2.2.2.2.1 q.2.2.2.2.2.2 7)
theorem R_h484 {mb : Tmb} {mc : Tmc} {ms : Tms} {v3 : Int32} {Q : Tmc × Tms → Prop} {k393 : Tmc → Tms → Int32 → Int32 → Int32 → Option (Tmc × Tms)} {o i : Nat} (ho : o < 7) (h1 : stW o ≤ i) (h2 : i < stW (o + 1)) (hk : TQ (k393 mc ms v3 (nI (stW (o + 1))) (nI (o + 1))) Q) : TQ (X12_header_484 mb mk0 k393 FU (mc, ms, v3, nI i, nI o)) Q := by
  have h81 := stW_81 (o + 1) (by omega)
  unfold X12_header_484
  refine lp_m (fun st => st.1 = mc ∧ st.2.1 = ms ∧ st.2.2.1 = v3 ∧ st.2.2.2.2 = nI o ∧ ∃ i, stW o ≤ i ∧ i < stW (o + 1) ∧ st.2.2.2.1 = nI i) (fun st => 81 - st.2.2.2.1.toNatClampNeg) (fun rec st hI hrec => ?_) FU _ ⟨rfl, rfl, rfl, rfl, i, h1, h2, rfl⟩ (by show 81 - _ < 1000000000000; omega)
  obtain ⟨s0, s1, s3, s5, s6⟩ := st
  obtain ⟨e0, e1, e3, e6, j, hj1, hj2, e5⟩ := hI
  have e0 : s0 = mc := e0
  have e1 : s1 = ms := e1
  have e3 : s3 = v3 := e3
  have e5 : s5 = nI j := e5
  have e6 : s6 = nI o := e6
  subst e0 e1 e3 e5 e6
  show TQ (X12_header_484b mb mk0 k393 (fun a0 a1 a2 a3 a4 => rec (a0, a1, a2, a3, a4)) s0 s1 s3 (nI j) (nI o)) _
  unfold X12_header_484b
  rw [nI_clamp (show j < 2 ^ 31 by omega), nI_1, nI_1]
  have hw := stW_wn o ho j (by omega) hj1 hj2
  refine tq_g (inb_nI (by omega) (by decide)) (tq_i (fun c => ?_) (fun c => ?_))
  · rw [hw.mp c]
    exact hk
  · have : j + 1 ≠ stW (o + 1) := fun e => c (hw.mpr e)
    refine hrec _ ⟨rfl, rfl, rfl, rfl, j + 1, by omega, by omega, rfl⟩ ?_
    show 81 - (nI (j + 1)).toNatClampNeg < 81 - (nI j).toNatClampNeg
    rw [nI_clamp (by omega), nI_clamp (by omega)]
    omega
theorem R_h422 {mb : Tmb} {mc : Tmc} {Q : Tmc × Tms → Prop} {k393 : Tmc → Tms → Int32 → Int32 → Int32 → Option (Tmc × Tms)} {w z o m : Nat} (hB : MB mb w z) (hm : m ≤ 30) (ho : o < 7)
    (hk : ∀ ms : Tms, SEC2 ms.2.1 ms.2.2.1 m → NAM mb ms.2.2.2.1 w m → SEC2 ms.2.2.2.2.1 ms.2.2.2.2.2 (o + 1) → TQ (k393 mc ms (nI m) (nI (stW (o + 1))) (nI (o + 1))) Q) {ms : Tms} (hS : SEC2 ms.2.1 ms.2.2.1 m) (hN : NAM mb ms.2.2.2.1 w m) (hO : SEC2 ms.2.2.2.2.1 ms.2.2.2.2.2 (o + 1)) : TQ (X12_header_422 mb mk0 k393 FU (mc, ms, nI m, nI (stW o), nI o, (0 : Int32), (0 : Int32))) Q := by
  have h81 := stW_81 o (by omega)
  have hlt := stW_lt o ho
  have h81' := stW_81 (o + 1) (by omega)
  unfold X12_header_422
  refine lp_m (fun st => st.1 = mc ∧ st.2.2.1 = nI m ∧ st.2.2.2.1 = nI (stW o) ∧ st.2.2.2.2.1 = nI o ∧ SEC2 st.2.1.2.1 st.2.1.2.2.1 m ∧ NAM mb st.2.1.2.2.2.1 w m ∧ SEC2 st.2.1.2.2.2.2.1 st.2.1.2.2.2.2.2 (o + 1) ∧ ∃ k, k ≤ m ∧ st.2.2.2.2.2.2 = nI k) (fun st => 30 - st.2.2.2.2.2.2.toNatClampNeg) (fun rec st hI hrec => ?_) FU _ ⟨rfl, rfl, rfl, rfl, hS, hN, hO, 0, Nat.zero_le _, rfl⟩ (by show 30 - _ < 1000000000000; omega)
  obtain ⟨s0, s, s3, s5, s6, s7, s8⟩ := st
  obtain ⟨e0, e3, e5, e6, hS, hN, hO, k, hkm, e8⟩ := hI
  have e0 : s0 = mc := e0
  have e3 : s3 = nI m := e3
  have e5 : s5 = nI (stW o) := e5
  have e6 : s6 = nI o := e6
  have e8 : s8 = nI k := e8
  have hS : SEC2 s.2.1 s.2.2.1 m := hS
  have hN : NAM mb s.2.2.2.1 w m := hN
  have hO : SEC2 s.2.2.2.2.1 s.2.2.2.2.2 (o + 1) := hO
  subst e0 e3 e5 e6 e8
  show TQ (X12_header_422b mb mk0 k393 (fun a0 a1 a2 a3 a4 a5 a6 => rec (a0, a1, a2, a3, a4, a5, a6)) s0 s (nI m) (nI (stW o)) (nI o) s7 (nI k)) _
  unfold X12_header_422b X12_header_478
  have fin : ∀ s : Tms, SEC2 s.2.1 s.2.2.1 m → NAM mb s.2.2.2.1 w m → SEC2 s.2.2.2.2.1 s.2.2.2.2.2 (o + 1) → TQ (X12_header_484 mb mk0 k393 FU (s0, s, nI m, nI (stW o), nI o)) Q := fun s a1 a2 a3 => R_h484 ho (Nat.le_refl _) hlt (hk s a1 a2 a3)
  refine tq_i (fun c => ?_) (fun _ => fin s hS hN hO)
  have hkm : k < m := (nI_ltI (by omega) (by omega)).mp c
  have nx : ∀ (s : Tms) (v : Int32), SEC2 s.2.1 s.2.2.1 m → NAM mb s.2.2.2.1 w m → SEC2 s.2.2.2.2.1 s.2.2.2.2.2 (o + 1) → TQ (rec (s0, s, nI m, nI (stW o), nI o, v, nI k + 1)) Q := fun s v a1 a2 a3 => by
    refine hrec _ ⟨rfl, rfl, rfl, rfl, a1, a2, a3, k + 1, by omega, by show nI k + 1 = _; rw [nI_1]⟩ ?_
    show 30 - (nI k + 1).toNatClampNeg < 30 - (nI k).toNatClampNeg
    rw [nI_1, nI_clamp (by omega), nI_clamp (by omega)]
    omega
  refine tq_i (fun _ => ?_) (fun _ => fin s hS hN hO)
  refine tq_b (R_isNamed hB hN hm hkm (by omega) rfl rfl) (fun q _ => ?_)
  refine tq_i (fun _ => nx s _ hS hN hO) (fun _ => ?_)
  have hin : inb (nI k) 30 = true := inb_nI (by omega) (by decide)
  have hin7 : inb (nI o) 7 = true := inb_nI ho (by decide)
  refine tq_g hin (tq_g hin7 (tq_g hin (tq_g hin7 ?_)))
  rw [nI_clamp (show k < 2 ^ 31 by omega), nI_clamp (show o < 2 ^ 31 by omega)]
  obtain ⟨x, y, hx, hy, hxy⟩ := hS k hkm
  rw [hx, hy]
  exact nx _ _ hS hN (hO.set hxy)
theorem R_h393 {mb : Tmb} {mc : Tmc} {ms : Tms} {w z a l m : Nat} (hC : CU mc a l) (hB : MB mb w z) (hm : m ≤ 30) (hS : SEC2 ms.2.1 ms.2.2.1 m) (hN : NAM mb ms.2.2.2.1 w m) : TQ (X12_header_393 mb mk0 FU (mc, ms, nI m, (0 : Int32), (0 : Int32))) (HQ a l) := by
  unfold X12_header_393
  refine lp_m (fun st => st.1 = mc ∧ st.2.2.1 = nI m ∧ SEC2 st.2.1.2.1 st.2.1.2.2.1 m ∧ NAM mb st.2.1.2.2.2.1 w m ∧ ∃ o, o ≤ 7 ∧ SEC2 st.2.1.2.2.2.2.1 st.2.1.2.2.2.2.2 o ∧ st.2.2.2.1 = nI (stW o) ∧ st.2.2.2.2 = nI o) (fun st => 7 - st.2.2.2.2.toNatClampNeg) (fun rec st hI hrec => ?_) FU _ ⟨rfl, rfl, hS, hN, 0, by decide, fun k h => absurd h (by omega), rfl, rfl⟩ (by show 7 - _ < 1000000000000; omega)
  obtain ⟨s0, s, s3, s5, s6⟩ := st
  obtain ⟨e0, e3, hS, hN, o, ho, hO, e5, e6⟩ := hI
  have e0 : s0 = mc := e0
  have e3 : s3 = nI m := e3
  have e5 : s5 = nI (stW o) := e5
  have e6 : s6 = nI o := e6
  have hS : SEC2 s.2.1 s.2.2.1 m := hS
  have hN : NAM mb s.2.2.2.1 w m := hN
  have hO : SEC2 s.2.2.2.2.1 s.2.2.2.2.2 o := hO
  subst e0 e3 e5 e6
  show TQ (X12_header_393b mb mk0 (fun a0 a1 a2 a3 a4 => rec (a0, a1, a2, a3, a4)) s0 s (nI m) (nI (stW o)) (nI o)) _
  unfold X12_header_393b
  refine tq_i (fun c => ?_) (fun c => ?_)
  · have ho7 : o < 7 := (nI_ltI (b := 7) (by omega) (by omega)).mp c
    have hin7 : inb (nI o) 7 = true := inb_nI ho7 (by decide)
    refine tq_g hin7 (tq_g hin7 ?_)
    rw [nI_clamp (show o < 2 ^ 31 by omega)]
    refine R_h422 hB hm ho7 (fun ms a1 a2 a3 => ?_) hS hN (hO.step (x := 0) (y := 0) (by decide))
    refine hrec _ ⟨rfl, rfl, a1, a2, o + 1, by omega, a3, rfl, rfl⟩ ?_
    show 7 - (nI (o + 1)).toNatClampNeg < 7 - (nI o).toNatClampNeg
    rw [nI_clamp (by omega), nI_clamp (by omega)]
    omega
  · have ho7 : ¬ o < 7 := fun h => c (nI_lt (b := 7) h (by decide))
    have : o = 7 := by omega
    subst this
    exact tq_s ⟨hC, fun _ => hO⟩
theorem R_h379 {mb : Tmb} {mc : Tmc} {ms : Tms} {w z a l m : Nat} (hC : CU mc a l) (hB : MB mb w z) (hm : m ≤ 30) (h : Rt mc → SEC2 ms.2.1 ms.2.2.1 m ∧ NAM mb ms.2.2.2.1 w m) : TQ (X12_header_379 mb mk0 mc ms (nI m)) (HQ a l) := by
  unfold X12_header_379
  refine tq_i (fun r => tq_s ⟨hC, fun h => absurd h (rt_0 r)⟩) (fun r => ?_)
  obtain ⟨h1, h2⟩ := h (rt_1 r)
  exact R_h393 hC hB hm h1 h2
theorem NAM.step {mb : Tmb} {f : Nat → Int32} {w k x y : Nat} (h : NAM mb f w k) (h1 : x ≤ y) (h2 : y < 8000) (h3 : mb.1 (8000 * w + y) = 0) : NAM mb (upd f k (nI x)) w (k + 1) := by
  intro j hj
  by_cases e : j = k
  · subst e
    exact ⟨x, y, upd_eq, h1, h2, h3⟩
  · obtain ⟨x', y', g1, g2⟩ := h j (by omega)
    exact ⟨x', y', by rw [upd_ne e]; exact g1, g2⟩
theorem R_h255 {mb : Tmb} {mc : Tmc} {ms : Tms} {w z a l m n t : Nat} (hC : CU mc a l) (hB : MB mb w z) (hm : m ≤ 30) (hn : n < m) (ht : t + 64 * m ≤ 8000) (hS : Rt mc → SEC2 ms.2.1 ms.2.2.1 m) : TQ (X12_header_255 mb mk0 FU (mc, ms, lN t, nI m, nI n, (0 : Int32))) (HQ a l) := by
  unfold X12_header_255
  refine lp_m (fun st => CU st.1 a l ∧ st.2.2.1 = lN t ∧ st.2.2.2.1 = nI m ∧ st.2.2.2.2.1 = nI n ∧ ∃ k, k ≤ m ∧ st.2.2.2.2.2 = nI k ∧ (Rt st.1 → SEC2 st.2.1.2.1 st.2.1.2.2.1 m ∧ NAM mb st.2.1.2.2.2.1 w k)) (fun st => 30 - st.2.2.2.2.2.toNatClampNeg) (fun rec st hI hrec => ?_) FU _ ⟨hC, rfl, rfl, rfl, 0, Nat.zero_le _, rfl, fun r => ⟨hS r, fun k h => absurd h (by omega)⟩⟩ (by show 30 - _ < 1000000000000; omega)
  obtain ⟨c, s, s1, s3, s4, s5⟩ := st
  obtain ⟨hC, e1, e3, e4, k, hk, e5, hR⟩ := hI
  have hC : CU c a l := hC
  have e1 : s1 = lN t := e1
  have e3 : s3 = nI m := e3
  have e4 : s4 = nI n := e4
  have e5 : s5 = nI k := e5
  have hR : Rt c → SEC2 s.2.1 s.2.2.1 m ∧ NAM mb s.2.2.2.1 w k := hR
  subst e1 e3 e4 e5
  show TQ (X12_header_255b mb mk0 (fun a0 a1 a2 a3 a4 a5 => rec (a0, a1, a2, a3, a4, a5)) c s (lN t) (nI m) (nI n) (nI k)) _
  unfold X12_header_255b X12_header_373
  refine tq_i (fun ck => ?_) (fun ck => ?_)
  rotate_left
  · have : k = m := by
      rcases Nat.lt_or_ge k m with q | q
      · exact absurd (nI_lt q (by omega)) ck
      · omega
    subst this
    exact R_h379 hC hB hm hR
  have hkm : k < m := (nI_ltI (by omega) (by omega)).mp ck
  refine tq_i (fun r => R_h379 hC hB hm (fun h => absurd h (rt_0 r))) (fun r => ?_)
  obtain ⟨hS, hN⟩ := hR (rt_1 r)
  have er : (lN t).toInt32 + (64 : Int32) * nI k = nI (t + 64 * k) := by
    rw [lN_i, show (64 : Int32) = nI 64 from rfl, nI_mul, nI_add]
  rw [er]
  have nx : ∀ (c : Tmc) (s : Tms), CU c a l → (Rt c → SEC2 s.2.1 s.2.2.1 m ∧ NAM mb s.2.2.2.1 w (k + 1)) → TQ (rec (c, s, lN t, nI m, nI n, nI k + 1)) (HQ a l) := fun c s a1 a2 => by
    refine hrec _ ⟨a1, rfl, rfl, rfl, k + 1, by omega, by show nI k + 1 = _; rw [nI_1], a2⟩ ?_
    show 30 - (nI k + 1).toNatClampNeg < 30 - (nI k).toNatClampNeg
    rw [nI_1, nI_clamp (by omega), nI_clamp (by omega)]
    omega
  refine tq_b (R_numberAt hB rfl (show (4 : Int32) = nI 4 from rfl) (by decide) (by omega)) (fun q hq => ?_)
  obtain ⟨off, hoff, rfl⟩ := hq (by decide)
  have hin : inb (nI n) 30 = true := inb_nI (by omega) (by decide)
  have hin5 : inb (nI k) 30 = true := inb_nI (by omega) (by decide)
  obtain ⟨x, y, hx, hy, hxy⟩ := hS n hn
  rw [nI_clamp (show n < 2 ^ 31 by omega), nI_clamp (show k < 2 ^ 31 by omega), hx, hy, nI_l (show y < 2 ^ 31 by omega)]
  refine tq_g hin (tq_i (fun co => ?_) (fun _ => tq_l (nx _ _ hC.fail (fun h => absurd h (rt_fail (by decide))))))
  have hoy : off < y := (lN_ltB (by omega) (by omega)).mp co
  rw [lN_i, nI_add, nI_add]
  refine tq_g hin (tq_g hin (tq_g hin ?_))
  refine tq_b (R_stringAt hB rfl rfl (by omega) (by omega)) (fun q hq => ?_)
  refine tq_i (fun _ => tq_l (nx _ _ hC.fail (fun h => absurd h (rt_fail (by decide))))) (fun cq => ?_)
  rcases hq with h | ⟨j, -, hj, hz⟩
  · exact absurd h cq
  · exact tq_g hin (tq_g hin5 (nx _ _ hC (fun _ => ⟨hS, hN.step (x := x + off) (y := x + off + j) (by omega) (by omega) hz⟩)))
theorem R_h219 {mb : Tmb} {mc : Tmc} {ms : Tms} {w z a l m n t : Nat} (hC : CU mc a l) (hB : MB mb w z) (hm : m ≤ 30) (hn : n < m) (ht : t + 64 * m ≤ 8000) : TQ (X12_header_219 mb mk0 FU (mc, ms, lN t, nI m, nI n, (0 : Int32))) (HQ a l) := by
  unfold X12_header_219
  refine lp_m (fun st => CU st.1 a l ∧ st.2.2.1 = lN t ∧ st.2.2.2.1 = nI m ∧ st.2.2.2.2.1 = nI n ∧ ∃ k, k ≤ m ∧ st.2.2.2.2.2 = nI k ∧ SEC2 st.2.1.2.1 st.2.1.2.2.1 k) (fun st => 30 - st.2.2.2.2.2.toNatClampNeg) (fun rec st hI hrec => ?_) FU _ ⟨hC, rfl, rfl, rfl, 0, Nat.zero_le _, rfl, fun k h => absurd h (by omega)⟩ (by show 30 - _ < 1000000000000; omega)
  obtain ⟨c, s, s1, s3, s4, s5⟩ := st
  obtain ⟨hC, e1, e3, e4, k, hk, e5, hS⟩ := hI
  have hC : CU c a l := hC
  have e1 : s1 = lN t := e1
  have e3 : s3 = nI m := e3
  have e4 : s4 = nI n := e4
  have e5 : s5 = nI k := e5
  have hS : SEC2 s.2.1 s.2.2.1 k := hS
  subst e1 e3 e4 e5
  show TQ (X12_header_219b mb mk0 (fun a0 a1 a2 a3 a4 a5 => rec (a0, a1, a2, a3, a4, a5)) c s (lN t) (nI m) (nI n) (nI k)) _
  unfold X12_header_219b X12_header_252
  refine tq_i (fun ck => ?_) (fun ck => ?_)
  rotate_left
  · have : k = m := by
      rcases Nat.lt_or_ge k m with q | q
      · exact absurd (nI_lt q (by omega)) ck
      · omega
    subst this
    exact R_h255 hC hB hm hn ht (fun _ => hS)
  have hkm : k < m := (nI_ltI (by omega) (by omega)).mp ck
  refine tq_i (fun r => R_h255 hC hB hm hn ht (fun h => absurd h (rt_0 r))) (fun r => ?_)
  have er : (lN t).toInt32 + (64 : Int32) * nI k = nI (t + 64 * k) := by
    rw [lN_i, show (64 : Int32) = nI 64 from rfl, nI_mul, nI_add]
  refine tq_b (R_section hC hB (by omega) rfl er (by omega) hS) (fun q hq => ?_)
  refine hrec _ ⟨hq.1, rfl, rfl, rfl, k + 1, by omega, by show nI k + 1 = _; rw [nI_1], hq.2⟩ ?_
  show 30 - (nI k + 1).toNatClampNeg < 30 - (nI k).toNatClampNeg
  rw [nI_1, nI_clamp (by omega), nI_clamp (by omega)]
  omega
theorem R_h198 {mb : Tmb} {mc : Tmc} {ms : Tms} {w z a l m n : Nat} {v1 : Int64} (hC : CU mc a l) (hB : MB mb w z) (h : Rt mc → m ≤ 30 ∧ n < m ∧ ∃ t, v1 = lN t ∧ t + 64 * m ≤ 8000) : TQ (X12_header_198 mb mk0 mc ms v1 (nI m) (nI n)) (HQ a l) := by
  unfold X12_header_198
  refine tq_i (fun r => tq_s ⟨hC, fun h => absurd h (rt_0 r)⟩) (fun r => ?_)
  obtain ⟨hm, hn, t, rfl, ht⟩ := h (rt_1 r)
  exact tq_g (by rw [hB.1]; exact inb_nI (by have := hB.2.1; omega) (by decide)) (R_h219 hC hB hm hn ht)
theorem R_h158 {mb : Tmb} {mc : Tmc} {ms : Tms} {w z a l m n : Nat} {v1 : Int64} (hC : CU mc a l) (hB : MB mb w z) (hm : m < 65536) (h : Rt mc → m ≤ 30 ∧ n < m) : TQ (X12_header_158 mb mk0 mc ms v1 (nI m) (nI n)) (HQ a l) := by
  have hz := hB.2.2.2.1
  have t191 : TQ (X12_header_191 mb mk0 mc ms v1 (nI m) (nI n)) (HQ a l) := by
    unfold X12_header_191
    exact tq_l (R_h198 hC.fail hB (fun h => absurd h (rt_fail (by decide))))
  unfold X12_header_158
  rw [show (mb.2.2).toInt64 = lN z by rw [hB.2.2.1, nI_l (by omega)]]
  refine tq_i (fun _ => t191) (fun c1 => ?_)
  refine tq_i (fun _ => t191) (fun c2 => ?_)
  obtain ⟨t, ht, rfl⟩ := l_of (by omega) c1 c2
  rw [nI_l (show m < 2 ^ 31 by omega), show (64 : Int64) * lN m = lN (64 * m) from lN_mul 64 m, lN_add]
  refine tq_i (fun _ => t191) (fun c3 => ?_)
  have : t + 64 * m ≤ z := by
    rcases Nat.lt_or_ge z (t + 64 * m) with q | q
    · exact absurd ((lN_lt (by omega) (by omega)).mpr q) c3
    · exact q
  exact R_h198 hC hB (fun r => ⟨(h r).1, (h r).2, t, rfl, by omega⟩)
theorem R_h145 {mb : Tmb} {mc : Tmc} {ms : Tms} {w z a l m n : Nat} {v1 : Int64} (hC : CU mc a l) (hB : MB mb w z) (hm : m < 65536) (hn : n < 65536) (h : Rt mc → m ≤ 30) : TQ (X12_header_145 mb mk0 mc ms v1 (nI m) (nI n)) (HQ a l) := by
  unfold X12_header_145
  refine tq_i (fun c => ?_) (fun _ => tq_l (R_h158 hC.fail hB hm (fun h => absurd h (rt_fail (by decide)))))
  exact R_h158 hC hB hm (fun r => ⟨h r, (nI_ltI (by omega) (by omega)).mp c⟩)
theorem R_h132 {mb : Tmb} {mc : Tmc} {ms : Tms} {w z a l m n : Nat} {v1 : Int64} (hC : CU mc a l) (hB : MB mb w z) (hm : m < 65536) (hn : n < 65536) : TQ (X12_header_132 mb mk0 mc ms v1 (nI m) (nI n)) (HQ a l) := by
  unfold X12_header_132
  refine tq_i (fun _ => tq_l (R_h145 hC.fail hB hm hn (fun h => absurd h (rt_fail (by decide))))) (fun c => ?_)
  refine R_h145 hC hB hm hn (fun _ => ?_)
  rcases Nat.lt_or_ge 30 m with q | q
  · exact absurd (nI_lt (a := 30) q (by omega)) c
  · exact q
theorem R_h121 {mb : Tmb} {mc : Tmc} {ms : Tms} {w z a l m n : Nat} {v1 : Int64} (hC : CU mc a l) (hB : MB mb w z) (hm : m < 65536) (hn : n < 65536) : TQ (X12_header_121 mb mk0 mc ms v1 (nI m) (nI n)) (HQ a l) := by
  unfold X12_header_121
  exact tq_i (fun _ => tq_l (R_h132 hC.fail hB hm hn)) (fun _ => R_h132 hC hB hm hn)
theorem R_h64 {mb : Tmb} {mc : Tmc} {ms : Tms} {w z a l : Nat} (hC : CU mc a l) (hB : MB mb w z) : TQ (X12_header_64 mb mk0 mc ms) (HQ a l) := by
  unfold X12_header_64
  refine tq_i (fun r => tq_s ⟨hC, fun h => absurd h (rt_0 r)⟩) (fun _ => ?_)
  refine tq_b (R_numberAt hB (show (40 : Int32) = nI 40 from rfl) (show (8 : Int32) = nI 8 from rfl) (by decide) (by decide)) (fun q2 _ => ?_)
  refine tq_b (R_numberAt hB (show (60 : Int32) = nI 60 from rfl) (show (2 : Int32) = nI 2 from rfl) (by decide) (by decide)) (fun q4 h4 => ?_)
  refine tq_b (R_numberAt hB (show (62 : Int32) = nI 62 from rfl) (show (2 : Int32) = nI 2 from rfl) (by decide) (by decide)) (fun q6 h6 => ?_)
  refine tq_b (R_numberAt hB (show (58 : Int32) = nI 58 from rfl) (show (2 : Int32) = nI 2 from rfl) (by decide) (by decide)) (fun q8 _ => ?_)
  obtain ⟨m, hm, rfl⟩ := h4 (by decide)
  obtain ⟨n, hn, rfl⟩ := h6 (by decide)
  rw [lN_i, lN_i]
  exact tq_i (fun _ => R_h121 hC hB hm hn) (fun _ => tq_l (R_h121 hC.fail hB hm hn))
theorem R_header {mb : Tmb} {mc : Tmc} {ms : Tms} {w z a l : Nat} (hC : CU mc a l) (hB : MB mb w z) : TQ (X12_header mc mb ms mk0) (HQ a l) := by
  have t42 : ∀ (c : Tmc) (s : Tms), CU c a l → TQ (X12_header_42 mb mk0 c s) (HQ a l) := fun c s hc => by
    unfold X12_header_42
    refine tq_i (fun _ => R_h64 hc hB) (fun _ => ?_)
    exact tq_i (fun _ => tq_l (R_h64 hc.fail hB)) (fun _ => R_h64 hc hB)
  unfold X12_header X12_header_2
  refine lp_m (fun st => CU st.1 a l ∧ ∃ k, k ≤ 7 ∧ st.2.2 = nI k) (fun st => 7 - st.2.2.toNatClampNeg) (fun rec st hI hrec => ?_) FU _ ⟨hC, 0, by decide, rfl⟩ (by show 7 - _ < 1000000000000; omega)
  obtain ⟨c, s, s1⟩ := st
  obtain ⟨hC, k, hk, e1⟩ := hI
  have hC : CU c a l := hC
  have e1 : s1 = nI k := e1
  subst e1
  show TQ (X12_header_2b mb mk0 (fun a0 a1 a2 => rec (a0, a1, a2)) c s (nI k)) _
  unfold X12_header_2b X12_header_36
  refine tq_i (fun c7 => ?_) (fun _ => t42 _ _ hC)
  have hk7 : k < 7 := (nI_ltI (b := 7) (by omega) (by decide)).mp c7
  refine tq_i (fun _ => ?_) (fun _ => t42 _ _ hC)
  refine tq_b (R_byteOf hB rfl (by omega)) (fun q _ => tq_g (inb_nI hk7 (by decide)) ?_)
  have nx : ∀ (c : Tmc) (s : Tms), CU c a l → TQ (rec (c, s, nI k + 1)) (HQ a l) := fun c s a1 => by
    refine hrec _ ⟨a1, k + 1, by omega, by show nI k + 1 = _; rw [nI_1]⟩ ?_
    show 7 - (nI k + 1).toNatClampNeg < 7 - (nI k).toNatClampNeg
    rw [nI_1, nI_clamp (by omega), nI_clamp (by omega)]
    omega
  exact tq_i (fun _ => nx _ _ hC) (fun _ => tq_l (nx _ _ hC.fail))
