def LawOK (I : Nat → TX → TM → Prop) (L : Nat) : Prop := ∀ (i : Nat) (nm : Tnm) (tp : Ttp) (kp : Tkp) (cu : Tcu) (se : Tse) (ur : Tur) (ab : Tab) (lo : Tlo) (im : Tim) (sy : Tsy) (un : Tun) (en : Ten) (ra : Tra) (li : Tli) (i2 : Ti2) (mt : Tmt) (mc : Tmc) (mb : Tmb) (mo : Tmo) (ms : Tms) (mk : Tmk) (my : Tmy) (mu : Tmu) (ma : Tma) (me : Tme) (mr : Tmr) (mp : Tmp) (mg : Tmg) (mw : Tmw) (mf : Tmf) (ml : Tml) (mq : Tmq), i + 6 ≤ L → I i (nm, tp, kp, cu, se, ur, ab, lo, im, sy, un, en, ra, li, i2) (mt, mc, mb, mo, ms, mk, my, mu, ma, me, mr, mp, mg, mw, mf, ml, mq) → I (i + 6) (nm, tp, kp, cu, se, ur, ab, lo, im, sy, un, en, ra, li, i2) (mt, mc, mb, mo, ms, mk, my, mu, ma, me, mr, mp, mg, mw, mf, ml, mq) ∧ OK_feed (I (i + 6)) nm tp kp cu se ur ab lo im sy un en ra li i2 mt mc mb mo ms mk my mu ma me mr mp mg mw mf ml mq ∧ OK_end (I (i + 6)) nm tp kp cu se ur ab lo im sy un en ra li i2 mt mc mb mo ms mk my mu ma me mr mp mg mw mf ml mq ∧ OK_poke (I (i + 6)) nm tp kp cu se ur ab lo im sy un en ra li i2 mt mc mb mo ms mk my mu ma me mr mp mg mw mf ml mq ∧ OK_load (I (i + 6)) nm tp kp cu se ur ab lo im sy un en ra li i2 mt mc mb mo ms mk my mu ma me mr mp mg mw mf ml mq ∧ OK_fault (I (i + 6)) nm tp kp cu se ur ab lo im sy un en ra li i2 mt mc mb mo ms mk my mu ma me mr mp mg mw mf ml mq ∧ OK_entry (I (i + 6)) nm tp kp cu se ur ab lo im sy un en ra li i2 mt mc mb mo ms mk my mu ma me mr mp mg mw mf ml mq ∧ OK_holds (I (i + 6)) nm tp kp cu se ur ab lo im sy un en ra li i2 mt mc mb mo ms mk my mu ma me mr mp mg mw mf ml mq ∧ OK_row (I (i + 6)) nm tp kp cu se ur ab lo im sy un en ra li i2 mt mc mb mo ms mk my mu ma me mr mp mg mw mf ml mq ∧ OK_rowAt (I (i + 6)) nm tp kp cu se ur ab lo im sy un en ra li i2 mt mc mb mo ms mk my mu ma me mr mp mg mw mf ml mq ∧ OK_find (I (i + 6)) nm tp kp cu se ur ab lo im sy un en ra li i2 mt mc mb mo ms mk my mu ma me mr mp mg mw mf ml mq ∧ OK_frame (I (i + 6)) nm tp kp cu se ur ab lo im sy un en ra li i2 mt mc mb mo ms mk my mu ma me mr mp mg mw mf ml mq ∧ OK_name (I (i + 6)) nm tp kp cu se ur ab lo im sy un en ra li i2 mt mc mb mo ms mk my mu ma me mr mp mg mw mf ml mq ∧ OK_file (I (i + 6)) nm tp kp cu se ur ab lo im sy un en ra li i2 mt mc mb mo ms mk my mu ma me mr mp mg mw mf ml mq ∧ OK_symbol (I (i + 6)) nm tp kp cu se ur ab lo im sy un en ra li i2 mt mc mb mo ms mk my mu ma me mr mp mg mw mf ml mq ∧ OK_count (I (i + 6)) nm tp kp cu se ur ab lo im sy un en ra li i2 mt mc mb mo ms mk my mu ma me mr mp mg mw mf ml mq
set_option maxRecDepth 20000 in
theorem law_loop {p : Program} {l : Launch} {e : Env} {s : State} {m : MethodId} {below : List Frame} {meth : Method} {c : Code} {D : va_G} {cy : Nat → ClassId} {t adK adV : Nat → Nat} {x0 : Cond} {b L : Nat} {xs : Nat → Int32} {r1 r2 : Nat} {I : Nat → TX → TM → Prop} (hL : L < 2 ^ 30) (C : Cx p s m #[Value.ref b] meth c cL_law 4 (some .boolean) RL x0) (hK : va_K D vwCl (tysX cy) s) (hN : NW s) (hF : SF t adK adV (fun q => s.heap.size ≤ q) s s.heap) (hX : va_X b L xs s s.heap) (hbl : b < s.heap.size) (hok : LawOK I L) :
    ∀ (n i : Nat) (x3 : Int32) (X : TX) (M : TM) (H : Heap) (locs : List Loc) (ls : Array Slot), i ≤ L → L + 1 ≤ i + n → x3 = nI i → I i X M → LW D cy r1 r2 X M s.heap H locs → lv_has ls 4 [(0, .ref b), (1, .ref r1), (2, .ref r2), (3, .int x3)] → W p l e room_1 s m #[Value.ref b] below meth c H locs 160 97966 (lw_Z below #[Value.ref b] s) (F0 m 18 ls []) := by
  obtain ⟨hx, hb, hml, hown, hts, hr, hlk⟩ := id C
  have hbA : ¬ (fun q : Nat => s.heap.size ≤ q) b := Nat.not_le.mpr hbl
  intro n
  induction n with
  | zero =>
    intro i x3 X M H locs ls h1 h2
    exact absurd h2 (by omega)
  | succ n ih =>
    intro i x3 X M H locs ls hi hin e3 hI9 hW hl
    have hS : va_S (fun q => s.heap.size ≤ q) s.heap H locs := by
      obtain ⟨_, _, _, _, _, _, _, _, _, _, _, h9⟩ := hW
      exact h9
    refine lv_iload_n hx hb dL_law_18 rfl (lv_at hl 3 rfl) ?_
    refine lv_aload_n hx hb dL_law_19 rfl (lv_at hl 0 rfl) ?_
    refine va_slen hx hb hX hbl hbA hS dL_law_20 ?_
    refine lv_bipush (v := (6 : Int32)) hx hb dL_law_21 (by decide) ?_
    refine lv_isub hx hb dL_law_23 ?_
    refine lv_icmp_gt (tgt := 619) hx hb dL_law_24 (by decide) (fun c1 => ?_) (fun c1 => ?_)
    · refine lv_iconst (v := (1 : Int32)) hx hb dL_law_619 (by decide) ?_
      refine va_forget (fun q hq => hS.2.2 q hq) ?_
      exact lw_ret hx hb hr hlk dL_law_620
    · have hiL : i + 6 ≤ L := go_on hL hi (by rw [← e3]; exact c1)
      have hL31 : L < 2 ^ 31 := by omega
      refine lv_aload_n hx hb dL_law_27 rfl (lv_at hl 0 rfl) ?_
      refine lv_iload_n hx hb dL_law_28 rfl (lv_at hl 3 rfl) ?_
      refine va_sld hx hb hX hbl hbA hS (scr_in0 e3 hiL hL31) dL_law_29 ?_
      refine lv_bipush (v := (15 : Int32)) hx hb dL_law_30 (by decide) ?_
      refine lv_iand hx hb dL_law_32 ?_
      refine lv_topi (fun w ew => ?_)
      obtain ⟨nm, tp, kp, cu, se, ur, ab, lo, im, sy, un, en, ra, li, i2⟩ := X
      obtain ⟨mt, mc, mb, mo, ms, mk, my, mu, ma, me, mr, mp, mg, mw, mf, ml, mq⟩ := M
      obtain ⟨ok_skip, ok_feed, ok_end, ok_poke, ok_load, ok_fault, ok_entry, ok_holds, ok_row, ok_rowAt, ok_find, ok_frame, ok_name, ok_file, ok_symbol, ok_count⟩ := hok i nm tp kp cu se ur ab lo im sy un en ra li i2 mt mc mb mo ms mk my mu ma me mr mp mg mw mf ml mq hiL hI9
      have kk : ∀ (X : TX) (M : TM) (H : Heap) (locs : List Loc) (ls : Array Slot), I (i + 6) X M → LW D cy r1 r2 X M s.heap H locs → lv_has ls 4 [(0, .ref b), (1, .ref r1), (2, .ref r2), (3, .int x3)] → W p l e room_1 s m #[Value.ref b] below meth c H locs 160 97966 (lw_Z below #[Value.ref b] s) (F0 m 613 ls []) := by
        intro X M H locs ls hI9 hW hl
        refine lv_iinc (v := x3 + 6) (lv' := [(3, .int (x3 + 6)), (0, .ref b), (1, .ref r1), (2, .ref r2)]) hx hb dL_law_613 hl (k := 3) rfl rfl (by decide) rfl (fun ls hl => ?_)
        refine lv_goto (tgt := 18) hx hb dL_law_616 (by decide) ?_
        exact ih (i + 6) (x3 + 6) X M H locs ls hiL (by omega) (by rw [e3]; exact nI_add i 6) hI9 hW (lv_sub hl [1, 2, 3, 0] rfl)
      by_cases c10 : w = (0 : Int32)
      · rw [c10]
        refine lv_tableIn (off := 75) (tgt := 108) hx hb dL_law_33 (by decide) (by decide) (by decide) (by decide) ?_
        exact law_feed C hK hN hF hX hbl hiL hL31 e3 hW ok_feed kk hl
      by_cases c11 : w = (1 : Int32)
      · rw [c11]
        refine lv_tableIn (off := 138) (tgt := 171) hx hb dL_law_33 (by decide) (by decide) (by decide) (by decide) ?_
        exact law_end C hK hN hF hX hbl hiL hL31 e3 hW ok_end kk hl
      by_cases c12 : w = (2 : Int32)
      · rw [c12]
        refine lv_tableIn (off := 161) (tgt := 194) hx hb dL_law_33 (by decide) (by decide) (by decide) (by decide) ?_
        exact law_poke C hK hN hF hX hbl hiL hL31 e3 hW ok_poke kk hl
      by_cases c13 : w = (3 : Int32)
      · rw [c13]
        refine lv_tableIn (off := 194) (tgt := 227) hx hb dL_law_33 (by decide) (by decide) (by decide) (by decide) ?_
        exact law_load C hK hN hF hX hbl hiL hL31 e3 hW ok_load kk hl
      by_cases c14 : w = (4 : Int32)
      · rw [c14]
        refine lv_tableIn (off := 207) (tgt := 240) hx hb dL_law_33 (by decide) (by decide) (by decide) (by decide) ?_
        exact law_fault C hK hN hF hX hbl hiL hL31 e3 hW ok_fault kk hl
      by_cases c15 : w = (5 : Int32)
      · rw [c15]
        refine lv_tableIn (off := 230) (tgt := 263) hx hb dL_law_33 (by decide) (by decide) (by decide) (by decide) ?_
        exact law_entry C hK hN hF hX hbl hiL hL31 e3 hW ok_entry kk hl
      by_cases c16 : w = (6 : Int32)
      · rw [c16]
        refine lv_tableIn (off := 263) (tgt := 296) hx hb dL_law_33 (by decide) (by decide) (by decide) (by decide) ?_
        exact law_holds C hK hN hF hX hbl hiL hL31 e3 hW ok_holds kk hl
      by_cases c17 : w = (7 : Int32)
      · rw [c17]
        refine lv_tableIn (off := 326) (tgt := 359) hx hb dL_law_33 (by decide) (by decide) (by decide) (by decide) ?_
        exact law_row C hK hN hF hX hbl hiL hL31 e3 hW ok_row kk hl
      by_cases c18 : w = (8 : Int32)
      · rw [c18]
        refine lv_tableIn (off := 359) (tgt := 392) hx hb dL_law_33 (by decide) (by decide) (by decide) (by decide) ?_
        exact law_rowAt C hK hN hF hX hbl hiL hL31 e3 hW ok_rowAt kk hl
      by_cases c19 : w = (9 : Int32)
      · rw [c19]
        refine lv_tableIn (off := 382) (tgt := 415) hx hb dL_law_33 (by decide) (by decide) (by decide) (by decide) ?_
        exact law_find C hK hN hF hX hbl hiL hL31 e3 hW ok_find kk hl
      by_cases c20 : w = (10 : Int32)
      · rw [c20]
        refine lv_tableIn (off := 435) (tgt := 468) hx hb dL_law_33 (by decide) (by decide) (by decide) (by decide) ?_
        exact law_frame C hK hN hF hX hbl hiL hL31 e3 hW ok_frame kk hl
      by_cases c21 : w = (11 : Int32)
      · rw [c21]
        refine lv_tableIn (off := 468) (tgt := 501) hx hb dL_law_33 (by decide) (by decide) (by decide) (by decide) ?_
        exact law_name C hK hN hF hX hbl hiL hL31 e3 hW ok_name kk hl
      by_cases c22 : w = (12 : Int32)
      · rw [c22]
        refine lv_tableIn (off := 501) (tgt := 534) hx hb dL_law_33 (by decide) (by decide) (by decide) (by decide) ?_
        exact law_file C hK hN hF hX hbl hiL hL31 e3 hW ok_file kk hl
      by_cases c23 : w = (13 : Int32)
      · rw [c23]
        refine lv_tableIn (off := 534) (tgt := 567) hx hb dL_law_33 (by decide) (by decide) (by decide) (by decide) ?_
        exact law_symbol C hK hN hF hX hbl hiL hL31 e3 hW ok_symbol kk hl
      by_cases c24 : w = (14 : Int32)
      · rw [c24]
        refine lv_tableIn (off := 557) (tgt := 590) hx hb dL_law_33 (by decide) (by decide) (by decide) (by decide) ?_
        exact law_count C hK hN hF hX hbl hiL hL31 e3 hW ok_count kk hl
      refine tsw_d (tgt := 613) hx hb dL_law_33 [(0 : Int32), (1 : Int32), (2 : Int32), (3 : Int32), (4 : Int32), (5 : Int32), (6 : Int32), (7 : Int32), (8 : Int32), (9 : Int32), (10 : Int32), (11 : Int32), (12 : Int32), (13 : Int32), (14 : Int32)] (by simp only [List.mem_cons, List.not_mem_nil, or_false]; rintro _ (rfl | rfl | rfl | rfl | rfl | rfl | rfl | rfl | rfl | rfl | rfl | rfl | rfl | rfl | rfl) <;> assumption) (by decide +kernel) (by decide) ?_
      exact kk _ _ H locs ls ok_skip hW hl
abbrev X0 : TX := (nm0, tp0, kp0, cu0, se0, ur0, ab0, lo0, im0, sy0, un0, en0, ra0, li0, i20)
abbrev M0 : TM := (mt0, mc0, mb0, mo0, ms0, mk0, my0, mu0, ma0, me0, mr0, mp0, mg0, mw0, mf0, ml0, mq0)
set_option maxRecDepth 50000 in
theorem law_start {p : Program} {e : Env} {s : State} {m : MethodId} {below : List Frame} {meth : Method} {c : Code} (l : Launch) {b L : Nat} {xs : Nat → Int32} (hL : L < 2 ^ 30) (C0 : lw_At p s m meth c b L xs) {I : Nat → TX → TM → Prop} (hok : LawOK I L) (hI0 : I 0 X0 M0) : W p l e room_1 s m #[Value.ref b] below meth c s.heap [] 0 0 (lw_Z below #[Value.ref b] s) (entryFrame m ([Value.ref b] : List Value).toArray 4) := by
  obtain ⟨hx, hb, hr, hml, hown, hts0, hX, hbl, hlk, hgv⟩ := id C0
  have hts : ∀ w ∈ (Cond.initialized RX11) :: WA, w.before #[Value.ref b] s = true := fun w hw => by
    rcases List.mem_cons.mp hw with rfl | h
    · exact hts0 _ (wa_tbl w96)
    · exact hts0 w (wa_tbl h)
  have hown : s.vm.findClass RL = some m.cls := hown
  have C : Cx p s m #[Value.ref b] meth c cL_law 4 (some .boolean) RL (Cond.initialized RX11) := ⟨hx, hb, hml, hown, hts, hr, hlk⟩
  obtain ⟨D, cy, hK⟩ := K_of (fun w h => hts0 w (wa_tbl h))
  have hN : NW s := NW_of hts0
  obtain ⟨t, adK, adV, hF⟩ := SF_of hts0 hgv
  have hA : ∀ q : Nat, s.heap.size ≤ q → (fun q : Nat => s.heap.size ≤ q) q := fun _ h => h
  have hS : va_S (fun q : Nat => s.heap.size ≤ q) s.heap s.heap [] := va_S.rf
  have hP : va_P D vwCl [] s.heap := fun k q h => by simp at h
  have hD : va_D (fun q : Nat => s.heap.size ≤ q) [] := ⟨fun i j p q h => by simp at h, fun k q h => by simp at h⟩
  have hl := lv_entry ([.ref b]) (n := 4) (Nat.le_of_ble_eq_true rfl)
  rw [lg_entry_eq]
  generalize (lg_sl ([.ref b]) ++ List.replicate (4 - (lg_sl ([.ref b])).length) Slot.unset).toArray = ls at hl ⊢
  have hl : lv_has ls 4 [(0, .ref b)] := hl
  refine va_new (ci := 11) (fs := [.null, .null, .null, .null, .null, .null, .null, .null, .int 0]) (C := RX11) (T := TX11) (N := 9) hx hb hts (fun w h => List.mem_cons_of_mem _ (inX11 w h)) tyX11 tyX11_ok hown (hts _ (List.mem_cons_of_mem _ w115)) (hts _ (List.mem_cons_of_mem _ w116)) (hts _ (List.mem_cons_of_mem _ w96)) hK hP hD hS hA rfl (by decide +kernel) (Nat.le_of_ble_eq_true rfl) (Nat.le_of_ble_eq_true rfl) dL_law_0 (fun q1 H hP hD hS => ?_)
  have hP : va_P D vwCl ([] ++ [(q1, .inr (11, [.null, .null, .null, .null, .null, .null, .null, .null, .int 0]))]) H := hP
  refine W.cs (cells' := 1) (slots' := 9) rfl rfl ?_
  refine lv_dup hx hb dL_law_3 rfl ?_
  refine ct_W (run_I (rest := [.ref q1]) C (kX11_init (h0 := q1) (sz := H.size)) caX11_init w117 ⟨rfl, rfl, Nat.le_of_ble_eq_true rfl, Nat.le_of_ble_eq_true rfl⟩ hK hN hP rfl hl.1 rfl (Nat.le_of_ble_eq_true rfl) dL_law_4 ⟨Nat.le_of_ble_eq_true rfl, Nat.le_of_ble_eq_true rfl⟩) hP hD hS hA (fun f1 H locs hP hD hS => ?_)
  have hP : va_P D vwCl (GX cy (adOf q1 f1) (f1 20) (f1 54) nm0 tp0 kp0 cu0 se0 ur0 ab0 lo0 im0 sy0 un0 en0 ra0 li0 i20) H := hP
  have hD : va_D (fun q : Nat => s.heap.size ≤ q) (GX cy (adOf q1 f1) (f1 20) (f1 54) nm0 tp0 kp0 cu0 se0 ur0 ab0 lo0 im0 sy0 un0 en0 ra0 li0 i20) := hD
  refine W.cs (cells' := 89) (slots' := 43505) rfl rfl ?_
  refine lv_astore_n (lv' := [(1, .ref q1), (0, .ref b)]) hx hb dL_law_7 rfl hl (by decide) rfl (fun ls hl => ?_)
  refine va_new (ci := 12) (fs := [.null, .int 0, .int 0, .int 0, .int 0, .int 0, .int 0, .int 0, .null, .int 0, .null, .null, .null, .null, .null, .null, .null, .null, .null, .null, .null, .null, .null, .null, .null, .null, .null, .null, .null, .null, .null, .null, .null, .null, .int 0, .null, .null, .null, .null, .null, .null, .null, .null, .null, .null, .null, .null, .null, .null, .null, .null, .null, .null, .null, .null, .null, .null, .null, .null, .null, .int 0, .null, .null, .null, .null, .null, .int 0, .null, .null, .null, .null, .null, .null, .null, .null, .null, .null, .int 0, .int 0, .int 0, .int 0, .int 0, .int 0, .null, .long 0, .long 0, .long 0, .long 0, .int 0, .int 0, .null, .null, .null, .int 0, .int 0]) (C := RX12) (T := TX12) (N := 95) hx hb hts (fun w h => List.mem_cons_of_mem _ (inX12 w h)) tyX12 tyX12_ok hown (hts _ (List.mem_cons_of_mem _ w1361)) (hts _ (List.mem_cons_of_mem _ w1362)) (hts _ (List.mem_cons_of_mem _ w108)) hK hP hD hS hA rfl (by decide +kernel) (Nat.le_of_ble_eq_true rfl) (Nat.le_of_ble_eq_true rfl) dL_law_8 (fun q2 H hP hD hS => ?_)
  refine W.cs (cells' := 90) (slots' := 43600) rfl rfl ?_
  refine lv_dup hx hb dL_law_11 rfl ?_
  refine ct_W (run_I (rest := [.ref q2]) C (kX12_init (h0 := q2) (sz := H.size)) caX12_init w1363 ⟨rfl, rfl, Nat.le_of_ble_eq_true rfl, Nat.le_of_ble_eq_true rfl⟩ hK hN hP rfl hl.1 rfl (Nat.le_of_ble_eq_true rfl) dL_law_12 ⟨Nat.le_of_ble_eq_true rfl, Nat.le_of_ble_eq_true rfl⟩) hP hD hS hA (fun f2 H locs hP hD hS => ?_)
  refine W.cs (cells' := 160) (slots' := 97966) rfl rfl ?_
  refine lv_astore_n (lv' := [(2, .ref q2), (1, .ref q1), (0, .ref b)]) hx hb dL_law_15 rfl hl (by decide) rfl (fun ls hl => ?_)
  refine lv_iconst (v := (0 : Int32)) hx hb dL_law_16 (by decide) ?_
  refine lv_istore_n (lv' := [(3, .int 0), (2, .ref q2), (1, .ref q1), (0, .ref b)]) hx hb dL_law_17 rfl hl (by decide) rfl (fun ls hl => ?_)
  obtain ⟨g1, g2, g3, g4, g5⟩ := spl_D (a1 := adOf q1 f1) (a2 := adOf q2 f2) (n1 := 89) (n2 := 71) hD rfl rfl
  obtain ⟨hPX, hPM⟩ := spl_P hP
  refine W.widen (k := 160) (n := 97966) (Nat.le_of_ble_eq_true rfl) (Nat.le_of_ble_eq_true rfl) ?_
  exact law_loop (r1 := q1) (r2 := q2) hL C hK hN hF hX hbl hok (L + 1) 0 0 X0 M0 H locs ls (Nat.zero_le _) (by omega) nI_0.symm hI0 ⟨adOf q1 f1, adOf q2 f2, rfl, rfl, g1, g2, g3, g4, g5, hPX, hPM, hS⟩ (lv_sub hl [3, 2, 1, 0] rfl)
