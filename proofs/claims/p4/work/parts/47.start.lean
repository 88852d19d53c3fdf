/-! the start of the law: classes, nest links, statics, texts -/
theorem NW_of {A : Array Value} {U : State} (h : ∀ w ∈ lw_tbl, w.before A U = true) : NW U := by
  intro w hw
  obtain ⟨h1, h2⟩ := List.mem_filter.mp hw
  have h3 := h w h1
  cases w <;> first | exact va_Nw.of rfl h3 | cases h2
theorem arr_of {A : Array Value} {U : State} {ty : FieldType} (h : (Cond.arrayClass ty).before A U = true) : ∃ cA, ArrOfT U cA ty ∧ U.vm.findClass ("[" ++ ty.toString) = some cA := by
  obtain ⟨cA, kA, comp, h1, h2, h3⟩ := Cond.arrayClass_spec h
  exact ⟨cA, fun n z => ⟨fun k h => (by cases h), kA, h2, comp, h3⟩, h1⟩
theorem K_of {A : Array Value} {U : State} (h : ∀ w ∈ WA, w.before A U = true) : ∃ (D : va_G) (cy : Nat → ClassId), va_K D vwCl (tysX cy) U := by
  obtain ⟨d0, i0, k0⟩ := u_known (C := RX0) (T := TX0) (N := 8) (n := 8) h inX0 (h _ w182)
  obtain ⟨d1, i1, k1⟩ := u_known (C := RX1) (T := TX1) (N := 6) (n := 6) h inX1 (h _ w124)
  obtain ⟨d2, i2, k2⟩ := u_known (C := RX2) (T := TX2) (N := 11) (n := 11) h inX2 (h _ w326)
  obtain ⟨d3, i3, k3⟩ := u_known (C := RX3) (T := TX3) (N := 6) (n := 6) h inX3 (h _ w267)
  obtain ⟨d4, i4, k4⟩ := u_known (C := RX4) (T := TX4) (N := 19) (n := 19) h inX4 (h _ w385)
  obtain ⟨d5, i5, k5⟩ := u_known (C := RX5) (T := TX5) (N := 5) (n := 5) h inX5 (h _ w245)
  obtain ⟨d6, i6, k6⟩ := u_known (C := RX6) (T := TX6) (N := 4) (n := 4) h inX6 (h _ w366)
  obtain ⟨d7, i7, k7⟩ := u_known (C := RX7) (T := TX7) (N := 6) (n := 6) h inX7 (h _ w150)
  obtain ⟨d8, i8, k8⟩ := u_known (C := RX8) (T := TX8) (N := 5) (n := 5) h inX8 (h _ w273)
  obtain ⟨d9, i9, k9⟩ := u_known (C := RX9) (T := TX9) (N := 10) (n := 10) h inX9 (h _ w176)
  obtain ⟨d10, i10, k10⟩ := u_known (C := RX10) (T := TX10) (N := 8) (n := 8) h inX10 (h _ w295)
  obtain ⟨d11, i11, k11⟩ := u_known (C := RX11) (T := TX11) (N := 9) (n := 9) h inX11 (h _ w116)
  obtain ⟨d12, i12, k12⟩ := u_known (C := RX12) (T := TX12) (N := 95) (n := 95) h inX12 (h _ w1362)
  obtain ⟨c0, a0, b0⟩ := arr_of (h _ w148)
  obtain ⟨c1, a1, b1⟩ := arr_of (h _ w174)
  obtain ⟨c2, a2, b2⟩ := arr_of (h _ w212)
  obtain ⟨c3, a3, b3⟩ := arr_of (h _ w1653)
  refine ⟨(fun k => match k with | 0 => d0 | 1 => d1 | 2 => d2 | 3 => d3 | 4 => d4 | 5 => d5 | 6 => d6 | 7 => d7 | 8 => d8 | 9 => d9 | 10 => d10 | 11 => d11 | _ => d12, fun k => match k with | 0 => i0 | 1 => i1 | 2 => i2 | 3 => i3 | 4 => i4 | 5 => i5 | 6 => i6 | 7 => i7 | 8 => i8 | 9 => i9 | 10 => i10 | 11 => i11 | _ => i12), fun k => match k with | 0 => c0 | 1 => c1 | 2 => c2 | _ => c3, fun c q hq => ?_, fun k q hk => ?_⟩
  · match c, hq with
    | 0, hq => cases hq; exact k0
    | 1, hq => cases hq; exact k1
    | 2, hq => cases hq; exact k2
    | 3, hq => cases hq; exact k3
    | 4, hq => cases hq; exact k4
    | 5, hq => cases hq; exact k5
    | 6, hq => cases hq; exact k6
    | 7, hq => cases hq; exact k7
    | 8, hq => cases hq; exact k8
    | 9, hq => cases hq; exact k9
    | 10, hq => cases hq; exact k10
    | 11, hq => cases hq; exact k11
    | 12, hq => cases hq; exact k12
    | c + 13, hq => exact absurd (List.getElem?_eq_some_iff.mp hq).1 (by simp [vwCl])
  · match k, hk with
    | 0, hk => cases hk; exact ⟨a0, b0⟩
    | 1, hk => cases hk; exact ⟨a1, b1⟩
    | 2, hk => cases hk; exact ⟨a2, b2⟩
    | 3, hk => cases hk; exact ⟨a3, b3⟩
    | k + 4, hk => exact absurd (List.getElem?_eq_some_iff.mp hk).1 (by simp [tysX])
def flS : List Cond := flatC (Jvm.Cond.and given_1 narrow_1)
def tmS (i : Nat) : Term := .string "AddressNamer$Sections" (kS.getD i 0)
theorem fs_mag : ∀ j, j < 7 → Cond.eq (.elem (.static "AddressNamer" "MAGIC" "[I") (.int (Int32.ofNat j))) (.int (magF j)) ∈ flS := by decide +kernel
theorem fs_ops : ∀ j, j < 9 → Cond.eq (.elem (.static "AddressNamer" "STANDARD_OPERANDS" "[I") (.int (Int32.ofNat j))) (.int (opsF j)) ∈ flS := by decide +kernel
theorem fs_ex : ∀ i, i < 7 → Cond.exactly (tmS i) "java/lang/String" ∈ flS ∧ Cond.eq (.field (tmS i) "java/lang/String" "coder" "B") (.int 0) ∈ flS ∧ Cond.arrayOf (.field (tmS i) "java/lang/String" "value" "[B") .byte ∈ flS ∧ Cond.eq (.length (.field (tmS i) "java/lang/String" "value" "[B")) (.int (Int32.ofNat (lenS.getD i 0))) ∈ flS := by decide +kernel
theorem fs_el : ∀ i, i < 7 → ∀ j, j < lenS.getD i 0 → Cond.eq (.elem (.field (tmS i) "java/lang/String" "value" "[B") (.int (Int32.ofNat j))) (.int ((bytS.getD i []).getD j 0)) ∈ flS := by decide +kernel
theorem fs_ne : ∀ i, i < 7 → ∀ j, j < 7 → i ≠ j → Cond.not (Cond.eq (tmS i) (tmS j)) ∈ flS ∨ Cond.not (Cond.eq (tmS j) (tmS i)) ∈ flS := by decide +kernel
theorem fs_len : ∀ i, i < 7 → lenS.getD i 0 < 2 ^ 31 := by decide +kernel
theorem SF_of {A : Array Value} {U : State} (h : ∀ w ∈ lw_tbl, w.before A U = true) (hg : (Jvm.Cond.and given_1 narrow_1).before A U = true) : ∃ t adK adV : Nat → Nat, SF t adK adV (fun q => U.heap.size ≤ q) U U.heap := by
  have hs : ∀ w ∈ flS, w.before A U = true := flat_of_before _ hg
  have hA : ∀ a : Nat, a < U.heap.size → ¬ (fun q => U.heap.size ≤ q) a := fun a h => Nat.not_le.mpr h
  obtain ⟨t0, e0, T0⟩ := va_Tof (A := fun q => U.heap.size ≤ q) (tm := .static "AddressNamer" "MAGIC" "[I") (ty := .int) (N := 7) (f := fun j => .int (magF j)) (by decide) (hs _ (by decide +kernel)) (va_eqt (hs _ (by decide +kernel))) (fun j hj => va_eqt (hs _ (fs_mag j hj))) hA
  obtain ⟨t1, e1, T1⟩ := va_Tof (A := fun q => U.heap.size ≤ q) (tm := .static "AddressNamer" "STANDARD_OPERANDS" "[I") (ty := .int) (N := 9) (f := fun j => .int (opsF j)) (by decide) (hs _ (by decide +kernel)) (va_eqt (hs _ (by decide +kernel))) (fun j hj => va_eqt (hs _ (fs_ops j hj))) hA
  obtain ⟨adK, adV, S0, R0⟩ := vk_Sof (A := fun q => U.heap.size ≤ q) (N := 7) (tm := tmS) (len := lenS) (byt := bytS) fs_len (fun i hi => hs _ (fs_ex i hi).1) (fun i hi => hs _ (fs_ex i hi).2.1) (fun i hi => hs _ (fs_ex i hi).2.2.1) (fun i hi => hs _ (fs_ex i hi).2.2.2) (fun i hi j hj => hs _ (fs_el i hi j hj)) (fun i j hi hj hij => by
    rcases fs_ne i hi j hj hij with q | q
    · exact Or.inl (hs _ q)
    · exact Or.inr (hs _ q)) hA
  refine ⟨fun k => match k with | 0 => t0 | _ => t1, adK, adV, ⟨va_Zof (h _ (show (Cond.laysStatic "AddressNamer" "MAGIC" "[I") ∈ lw_tbl from (tb2 (List.mem_of_getElem? (i := 215) rfl)))) (h _ (show (Cond.initialized "AddressNamer") ∈ lw_tbl from (tb1 (List.mem_of_getElem? (i := 1) rfl)))) e0 hA, T0⟩, ⟨va_Zof (h _ (show (Cond.laysStatic "AddressNamer" "STANDARD_OPERANDS" "[I") ∈ lw_tbl from (tb4 (List.mem_of_getElem? (i := 204) rfl)))) (h _ (show (Cond.initialized "AddressNamer") ∈ lw_tbl from (tb1 (List.mem_of_getElem? (i := 1) rfl)))) e1 hA, T1⟩, va_Zof (h _ (show (Cond.laysStatic "java/lang/String" "COMPACT_STRINGS" "Z") ∈ lw_tbl from (tb3 (List.mem_of_getElem? (i := 49) rfl)))) (h _ (show (Cond.initialized "java/lang/String") ∈ lw_tbl from (tb1 (List.mem_of_getElem? (i := 15) rfl)))) (va_eqi (hs _ (by decide +kernel))) hA, va_Zqof (h _ (show (Cond.laysStatic "jdk/internal/util/Preconditions" "SIOOBE_FORMATTER" "Ljava/util/function/BiFunction;") ∈ lw_tbl from (tb3 (List.mem_of_getElem? (i := 66) rfl)))) (h _ (show (Cond.initialized "jdk/internal/util/Preconditions") ∈ lw_tbl from (tb1 (List.mem_of_getElem? (i := 17) rfl)))) (hs _ (by decide +kernel)) hA, S0, fun i hi => ?_⟩
  match i, hi with
  | 0, hi => exact vk_R.of (h (.stringRef "AddressNamer$Sections" 103 ".symtab") (tb3 (List.mem_of_getElem? (i := 29) rfl))) (R0 0 hi)
  | 1, hi => exact vk_R.of (h (.stringRef "AddressNamer$Sections" 105 ".strtab") (tb3 (List.mem_of_getElem? (i := 30) rfl))) (R0 1 hi)
  | 2, hi => exact vk_R.of (h (.stringRef "AddressNamer$Sections" 107 ".debug_abbrev") (tb3 (List.mem_of_getElem? (i := 31) rfl))) (R0 2 hi)
  | 3, hi => exact vk_R.of (h (.stringRef "AddressNamer$Sections" 109 ".debug_info") (tb3 (List.mem_of_getElem? (i := 32) rfl))) (R0 3 hi)
  | 4, hi => exact vk_R.of (h (.stringRef "AddressNamer$Sections" 111 ".debug_str") (tb3 (List.mem_of_getElem? (i := 33) rfl))) (R0 4 hi)
  | 5, hi => exact vk_R.of (h (.stringRef "AddressNamer$Sections" 113 ".debug_line") (tb3 (List.mem_of_getElem? (i := 34) rfl))) (R0 5 hi)
  | 6, hi => exact vk_R.of (h (.stringRef "AddressNamer$Sections" 115 ".debug_rnglists") (tb3 (List.mem_of_getElem? (i := 35) rfl))) (R0 6 hi)
  | i + 7, hi => exact absurd hi (by omega)
theorem spl_P {D : va_G} {w1 w2 : va_W} {H : Heap} (h : va_P D vwCl (w1 ++ w2) H) : va_P D vwCl w1 H ∧ va_P D vwCl w2 H :=
  ⟨fun k q hk => h k q (by rw [List.getElem?_append_left (List.getElem?_eq_some_iff.mp hk).1]; exact hk), fun k q hk => h (w1.length + k) q (by rw [List.getElem?_append_right (Nat.le_add_right _ _), Nat.add_sub_cancel_left]; exact hk)⟩
theorem ad_at {ad : Nat → Nat} {n : Nat} {ws : va_W} (e : ws.map Prod.fst = (List.range n).map ad) {k : Nat} (hk : k < n) : ∃ x : va_E, ws[k]? = some (ad k, x) := by
  have hl : ws.length = n := by
    have := congrArg List.length e
    simpa using this
  have h1 : (ws.map Prod.fst)[k]? = some (ad k) := by
    rw [e, List.getElem?_map, List.getElem?_range hk]
    rfl
  rw [List.getElem?_map] at h1
  cases hw : ws[k]? with
  | none => rw [hw] at h1; cases h1
  | some q =>
    rw [hw] at h1
    exact ⟨q.2, by rw [← Option.some.inj h1]⟩
theorem spl_D {A : Nat → Prop} {w1 w2 : va_W} {a1 a2 : Nat → Nat} {n1 n2 : Nat} (h : va_D A (w1 ++ w2)) (e1 : w1.map Prod.fst = (List.range n1).map a1) (e2 : w2.map Prod.fst = (List.range n2).map a2) :
    Apart a1 n1 ∧ Apart a2 n2 ∧ (∀ k, k < n1 → A (a1 k)) ∧ (∀ k, k < n2 → A (a2 k)) ∧ ∀ i j, i < n1 → j < n2 → a1 i ≠ a2 j := by
  have hl : w1.length = n1 := by
    have := congrArg List.length e1
    simpa using this
  have p1 : ∀ k, k < n1 → ∃ x : va_E, (w1 ++ w2)[k]? = some (a1 k, x) := fun k hk => by
    obtain ⟨x, hx⟩ := ad_at e1 hk
    exact ⟨x, by rw [List.getElem?_append_left (by omega)]; exact hx⟩
  have p2 : ∀ k, k < n2 → ∃ x : va_E, (w1 ++ w2)[n1 + k]? = some (a2 k, x) := fun k hk => by
    obtain ⟨x, hx⟩ := ad_at e2 hk
    exact ⟨x, by rw [List.getElem?_append_right (by omega), show n1 + k - w1.length = k by omega]; exact hx⟩
  refine ⟨fun i j hi hj q => ?_, fun i j hi hj q => ?_, fun k hk => ?_, fun k hk => ?_, fun i j hi hj q => ?_⟩
  · obtain ⟨x, hx⟩ := p1 i hi
    obtain ⟨y, hy⟩ := p1 j hj
    exact h.1 i j _ _ hx hy q
  · obtain ⟨x, hx⟩ := p2 i hi
    obtain ⟨y, hy⟩ := p2 j hj
    have := h.1 _ _ _ _ hx hy q
    omega
  · obtain ⟨x, hx⟩ := p1 k hk
    exact h.2 _ _ hx
  · obtain ⟨x, hx⟩ := p2 k hk
    exact h.2 _ _ hx
  · obtain ⟨x, hx⟩ := p1 i hi
    obtain ⟨y, hy⟩ := p2 j hj
    have := h.1 _ _ _ _ hx hy q
    omega
theorem go_on {i L : Nat} (hL : L < 2 ^ 30) (hi : i ≤ L) (h : ¬ Int32.ofNat L - 6 < nI i) : i + 6 ≤ L := by
  rcases Nat.lt_or_ge L 6 with q | q
  · exfalso
    apply h
    have e1 : ∀ L : Fin 6, Int32.ofNat L.val - 6 < 0 := by decide +kernel
    have e2 : (0 : Int32) ≤ nI i := nI_pos' (by omega)
    exact Int32.lt_of_lt_of_le (e1 ⟨L, q⟩) e2
  · have e1 : Int32.ofNat L - 6 = nI (L - 6) := by
      have e3 : Int32.ofNat L = nI (L - 6) + nI 6 := by rw [nI_add, Nat.sub_add_cancel q]; rfl
      rw [e3]
      exact Int32.add_sub_cancel (nI (L - 6)) 6
    rw [e1] at h
    have h2 : ¬ (L - 6 < i) := fun z => h (nI_lt z (by omega))
    omega
