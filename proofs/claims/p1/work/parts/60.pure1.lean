/-! pure facts: feed, end, poke from any size; all calls on a fresh object -/
theorem tot_map {α β : Type} {x : Option α} {f : α → β} {y : β} (h : x.map f = some y) : ∃ q, x = some q ∧ f q = y := by
  cases x with
  | none => cases h
  | some q => exact ⟨q, rfl, Option.some.inj h⟩
theorem has0 (v : Int32) : (if v < 0 then (0 : Int32) else (if v < 0 then (1 : Int32) else (0 : Int32))) = 0 := by
  by_cases h : v < 0
  · rw [if_pos h]
  · rw [if_neg h, if_neg h]
theorem inb_nI {k n : Nat} (h : k < n) (hn : n < 2 ^ 31) : inb (nI k) n = true := decide_eq_true (nI_in h hn)
theorem ap_step {k n : Nat} (hk : k < 8000) (tp : Ttp) (v sh : Int32) (hs : ¬ sh < 0) : ∃ tp', X11_append_3 (n + 1) (nI k, tp, v, sh) = X11_append_3 n (nI (k + 1), tp', v, sh + (-8 : Int32)) := by
  refine ⟨upd tp (nI k).toNatClampNeg (vp_nar .byte (((v >>> (sh &&& 31))).toInt8.toInt32)), ?_⟩
  show X11_append_3b (fun a0 a1 a2 a3 => X11_append_3 n (a0, a1, a2, a3)) (nI k) tp v sh = _
  unfold X11_append_3b X11_append_49
  rw [if_neg hs, if_neg (nI_pos (by omega)), if_pos (show nI k < (8000 : Int32) from nI_lt (b := 8000) hk (by decide)), if_pos (inb_nI hk (by decide)), ← nI_1]
theorem ap_gen {k n : Nat} (hk : k + 4 ≤ 8000) (tp : Ttp) (v : Int32) : ∃ tp', X11_append_3 (n + 1 + 1 + 1 + 1 + 1) (nI k, tp, v, (24 : Int32)) = some (nI (k + 4), tp') := by
  obtain ⟨t1, e1⟩ := ap_step (k := k) (n := n + 1 + 1 + 1 + 1) (by omega) tp v 24 (by decide)
  obtain ⟨t2, e2⟩ := ap_step (k := k + 1) (n := n + 1 + 1 + 1) (by omega) t1 v (24 + (-8)) (by decide)
  obtain ⟨t3, e3⟩ := ap_step (k := k + 1 + 1) (n := n + 1 + 1) (by omega) t2 v (24 + (-8) + (-8)) (by decide)
  obtain ⟨t4, e4⟩ := ap_step (k := k + 1 + 1 + 1) (n := n + 1) (by omega) t3 v (24 + (-8) + (-8) + (-8)) (by decide)
  refine ⟨t4, ?_⟩
  rw [e1, e2, e3, e4]
  show X11_append_3b (fun a0 a1 a2 a3 => X11_append_3 n (a0, a1, a2, a3)) (nI (k + 4)) t4 v (24 + (-8) + (-8) + (-8) + (-8)) = _
  unfold X11_append_3b
  rw [if_pos (by decide)]
theorem ap_all {k : Nat} (hk : k + 4 ≤ 8000) (tp : Ttp) (v : Int32) : ∃ tp', X11_append (nI k) tp v = some (nI (k + 4), tp') := ap_gen (n := 999999999995) hk tp v
theorem fdX {k : Nat} (hk : k ≤ 8000) (tp : Ttp) (v1 v2 v3 v4 v5 : Int32) : ∃ q, X11_feed (nI k) tp v1 v2 v3 v4 v5 = some q ∧ ((k + 20 ≤ 8000 ∧ q.1 = nI (k + 20) ∧ q.2.1 = nI (k + 20)) ∨ (¬ k + 20 ≤ 8000 ∧ q.1 = -1 ∧ q.2.1 = nI k)) := by
  unfold X11_feed
  have e20 : nI k + (20 : Int32) = nI (k + 20) := nI_add k 20
  rw [e20]
  by_cases h : k + 20 ≤ 8000
  · obtain ⟨t1, e1⟩ := ap_all (k := k) (by omega) tp v1
    obtain ⟨t2, e2⟩ := ap_all (k := k + 4) (by omega) t1 v2
    obtain ⟨t3, e3⟩ := ap_all (k := k + 4 + 4) (by omega) t2 v3
    obtain ⟨t4, e4⟩ := ap_all (k := k + 4 + 4 + 4) (by omega) t3 v4
    obtain ⟨t5, e5⟩ := ap_all (k := k + 4 + 4 + 4 + 4) (by omega) t4 v5
    refine ⟨(nI (k + 20), nI (k + 20), t5), ?_, Or.inl ⟨h, rfl, rfl⟩⟩
    rw [if_neg (show ¬ (8000 : Int32) < nI (k + 20) from nI_nlt (a := 8000) h (by decide)), e1]
    show (X11_append (nI (k + 4)) t1 v2).bind _ = _
    rw [e2]
    show (X11_append (nI (k + 4 + 4)) t2 v3).bind _ = _
    rw [e3]
    show (X11_append (nI (k + 4 + 4 + 4)) t3 v4).bind _ = _
    rw [e4]
    show (X11_append (nI (k + 4 + 4 + 4 + 4)) t4 v5).bind _ = _
    rw [e5]
    rfl
  · refine ⟨(-1, nI k, tp), ?_, Or.inr ⟨h, rfl, rfl⟩⟩
    rw [if_pos (show (8000 : Int32) < nI (k + 20) from nI_lt (a := 8000) (by omega) (by omega))]
theorem fm_71 {k j n : Nat} (hk : k < 8000) (f : Nat → Int32) (v1 v2 v3 v4 v5 z0 : Int32) : ∃ f', X12_feed_71 (fun a0 a1 a2 a3 a4 a5 a6 => X12_feed_18 n (a0, a1, a2, a3, a4, a5, a6)) (f, nI k) v1 v2 v3 v4 v5 (nI j) z0 = X12_feed_18 n ((f', nI (k + 1)), v1, v2, v3, v4, v5, nI (j + 1)) := by
  unfold X12_feed_71
  refine ⟨upd f (nI k).toNatClampNeg ((z0 >>> (((24 : Int32) - ((8 : Int32) * (nI j - nI j / (4 : Int32) * (4 : Int32)))) &&& 31)) &&& (255 : Int32)), ?_⟩
  rw [if_pos (show inb (f, nI k).2 8000 = true from inb_nI hk (by decide)), ← nI_1, ← nI_1]
theorem fm_step {k j n : Nat} (hk : k < 8000) (hj : j < 20) (f : Nat → Int32) (v1 v2 v3 v4 v5 : Int32) : ∃ f', X12_feed_18 (n + 1) ((f, nI k), v1, v2, v3, v4, v5, nI j) = X12_feed_18 n ((f', nI (k + 1)), v1, v2, v3, v4, v5, nI (j + 1)) := by
  show ∃ f', X12_feed_18b (fun a0 a1 a2 a3 a4 a5 a6 => X12_feed_18 n (a0, a1, a2, a3, a4, a5, a6)) (f, nI k) v1 v2 v3 v4 v5 (nI j) = _
  unfold X12_feed_18b
  rw [if_pos (show nI j < (20 : Int32) from nI_lt (b := 20) hj (by decide))]
  by_cases c1 : nI j < (4 : Int32)
  · rw [if_pos c1]; exact fm_71 hk f v1 v2 v3 v4 v5 _
  rw [if_neg c1]
  by_cases c2 : nI j < (8 : Int32)
  · rw [if_pos c2]; exact fm_71 hk f v1 v2 v3 v4 v5 _
  rw [if_neg c2]
  by_cases c3 : nI j < (12 : Int32)
  · rw [if_pos c3]; exact fm_71 hk f v1 v2 v3 v4 v5 _
  rw [if_neg c3]
  by_cases c4 : nI j < (16 : Int32)
  · rw [if_pos c4]; exact fm_71 hk f v1 v2 v3 v4 v5 _
  rw [if_neg c4]
  exact fm_71 hk f v1 v2 v3 v4 v5 _
theorem fm_all (v1 v2 v3 v4 v5 : Int32) : ∀ (r j k n : Nat) (f : Nat → Int32), j + r = 20 → k + r ≤ 8000 → ∃ f', X12_feed_18 (n + r + 1) ((f, nI k), v1, v2, v3, v4, v5, nI j) = some (nI (k + r), (f', nI (k + r))) := by
  intro r
  induction r with
  | zero =>
    intro j k n f hj hk
    refine ⟨f, ?_⟩
    show X12_feed_18b (fun a0 a1 a2 a3 a4 a5 a6 => X12_feed_18 n (a0, a1, a2, a3, a4, a5, a6)) (f, nI k) v1 v2 v3 v4 v5 (nI j) = _
    unfold X12_feed_18b
    rw [if_neg (show ¬ nI j < (20 : Int32) from nI_nlt (b := 20) (by omega) (by omega))]
    rfl
  | succ r ih =>
    intro j k n f hj hk
    obtain ⟨f1, e1⟩ := fm_step (k := k) (j := j) (n := n + r + 1) (by omega) (by omega) f v1 v2 v3 v4 v5
    obtain ⟨f2, e2⟩ := ih (j + 1) (k + 1) n f1 (by omega) (by omega)
    refine ⟨f2, ?_⟩
    rw [show n + (r + 1) + 1 = n + r + 1 + 1 by omega, e1, e2, show k + 1 + r = k + (r + 1) by omega]
theorem fdM {k : Nat} (hk : k ≤ 8000) (f : Nat → Int32) (v1 v2 v3 v4 v5 : Int32) : ∃ q, X12_feed (f, nI k) v1 v2 v3 v4 v5 = some q ∧ ((k + 20 ≤ 8000 ∧ q.1 = nI (k + 20) ∧ q.2.2 = nI (k + 20)) ∨ (¬ k + 20 ≤ 8000 ∧ q.1 = -1 ∧ q.2.2 = nI k)) := by
  unfold X12_feed
  show ∃ q, (if (8000 : Int32) < (nI k + (20 : Int32)) then some ((-1 : Int32), (f, nI k)) else X12_feed_18 FU ((f, nI k), v1, v2, v3, v4, v5, (0 : Int32))) = some q ∧ _
  have e20 : nI k + (20 : Int32) = nI (k + 20) := nI_add k 20
  rw [e20]
  by_cases h : k + 20 ≤ 8000
  · obtain ⟨f', e1⟩ := fm_all v1 v2 v3 v4 v5 20 0 k 999999999979 f rfl h
    refine ⟨(nI (k + 20), (f', nI (k + 20))), ?_, Or.inl ⟨h, rfl, rfl⟩⟩
    rw [if_neg (show ¬ (8000 : Int32) < nI (k + 20) from nI_nlt (a := 8000) h (by decide)), ← nI_0]
    exact e1
  · refine ⟨(-1, (f, nI k)), ?_, Or.inr ⟨h, rfl, rfl⟩⟩
    rw [if_pos (show (8000 : Int32) < nI (k + 20) from nI_lt (a := 8000) (by omega) (by omega))]
theorem pkX {k : Nat} (hk : k ≤ 8000) (tp : Ttp) (v1 v2 : Int32) : ∃ q, X11_poke (nI k) tp v1 v2 = some q ∧ q.1 = (if v1 < 0 then (0 : Int32) else if v1 < nI k then 1 else 0) := by
  unfold X11_poke
  by_cases h1 : v1 < 0
  · rw [if_pos h1]; exact ⟨_, rfl, by rw [if_pos h1]⟩
  rw [if_neg h1]
  by_cases h2 : v1 < nI k
  · obtain ⟨j, hj, rfl⟩ := nI_of h1
    have hjk : j < k := (nI_ltI hj (by omega)).mp h2
    rw [if_pos h2, if_pos (show nI j < (8000 : Int32) from nI_lt (b := 8000) (by omega) (by decide)), if_pos (inb_nI (by omega) (by decide))]
    exact ⟨_, rfl, by rw [if_neg h1, if_pos h2]⟩
  · rw [if_neg h2]; exact ⟨_, rfl, by rw [if_neg h1, if_neg h2]⟩
theorem pkM {k : Nat} (hk : k ≤ 8000) (f : Nat → Int32) (v1 v2 : Int32) : ∃ q, X12_poke (f, nI k) v1 v2 = some q ∧ q.1 = (if v1 < 0 then (0 : Int32) else if v1 < nI k then 1 else 0) ∧ q.2.2 = nI k := by
  unfold X12_poke
  by_cases h1 : v1 < 0
  · rw [if_pos h1]; exact ⟨_, rfl, by rw [if_pos h1], rfl⟩
  rw [if_neg h1]
  by_cases h2 : v1 < nI k
  · obtain ⟨j, hj, rfl⟩ := nI_of h1
    have hjk : j < k := (nI_ltI hj (by omega)).mp h2
    rw [if_pos h2, if_pos (inb_nI (by omega) (by decide))]
    exact ⟨_, rfl, by rw [if_neg h1, if_pos h2], rfl⟩
  · rw [if_neg h2]; exact ⟨_, rfl, by rw [if_neg h1, if_neg h2], rfl⟩
theorem en_eq (nm : Int32) (f : Nat → Int32) (v : Int32) : (X11_end nm v).1 = (X12_end (f, nm) v).1 ∧ (X11_end nm v).2 = (X12_end (f, nm) v).2.2 := by
  unfold X11_end X12_end
  show (if v < 0 then ((0 : Int32), nm) else (if nm < v then ((0 : Int32), nm) else ((1 : Int32), v))).1 = (if v < 0 then ((0 : Int32), (f, nm)) else (if nm < v then ((0 : Int32), (f, nm)) else ((1 : Int32), (f, v)))).1 ∧ (if v < 0 then ((0 : Int32), nm) else (if nm < v then ((0 : Int32), nm) else ((1 : Int32), v))).2 = (if v < 0 then ((0 : Int32), (f, nm)) else (if nm < v then ((0 : Int32), (f, nm)) else ((1 : Int32), (f, v)))).2.2
  by_cases h1 : v < 0
  · rw [if_pos h1, if_pos h1]; exact ⟨rfl, rfl⟩
  rw [if_neg h1, if_neg h1]
  by_cases h2 : nm < v
  · rw [if_pos h2, if_pos h2]; exact ⟨rfl, rfl⟩
  · rw [if_neg h2, if_neg h2]; exact ⟨rfl, rfl⟩
-- a fresh object
theorem f_entryX (v1 v2 : Int32) : X11_entry en0 v1 v2 = some (-1) := by
  unfold X11_entry
  rw [if_pos (show X2_has en0 v1 = 0 from has0 v1)]
theorem f_isE (v1 : Int32) : X12_isEntry mo0 me0 v1 = some 0 := by
  unfold X12_isEntry
  by_cases h : v1 < 0
  · rw [if_pos h]
  · rw [if_neg h, if_pos (by decide)]
    exact if_neg h
theorem f_entryM (v1 v2 : Int32) : X12_entry mo0 me0 mg0 v1 v2 = some (-1) := by
  unfold X12_entry
  rw [f_isE, Option.bind_some]
  exact if_pos rfl
theorem f_holdsX (v1 : Int32) (v2 : Int64) : X11_holds en0 ra0 v1 v2 = some 0 := by
  unfold X11_holds X3_entryHolds
  rw [if_pos (show X2_has en0 v1 = 0 from has0 v1), Option.bind_some]
  exact if_pos (show bz 0 = true by decide)
theorem f_holdsM (v1 : Int32) (v2 : Int64) : X12_holds mo0 me0 mg0 v1 v2 = some 0 := rfl
theorem f_rowX (v1 v2 : Int32) : X11_row li0 v1 v2 = -1 := by
  unfold X11_row
  rw [if_pos (show X4_has li0 v1 = 0 from has0 v1)]
theorem f_rowM (v1 v2 : Int32) : X12_row mo0 mw0 v1 v2 = some (-1) := by
  unfold X12_row
  by_cases h : v1 < 0
  · rw [if_pos h]
  · rw [if_neg h, if_pos (by decide)]
    exact if_neg h
theorem f_rowAtX (v1 : Int32) : X11_rowAt li0 v1 = -1 := by
  unfold X11_rowAt
  rw [if_pos (show X4_has li0 v1 = 0 from has0 v1)]
theorem f_rowAtM (v1 : Int32) : X12_rowAt mo0 mw0 v1 = some (-1) := by
  unfold X12_rowAt
  by_cases h : v1 < 0
  · rw [if_pos h]
  · rw [if_neg h, if_pos (by decide)]
    exact if_neg h
set_option maxRecDepth 100000 in
theorem f_findX (v : Int64) : ∃ lo', X11_find lo0 sy0 en0 ra0 li0 v = some (0, lo') := ⟨_, rfl⟩
theorem f_findM (v : Int64) : ∃ mq', X12_find mo0 my0 me0 mg0 mw0 mq0 v = some (0, mq') := ⟨_, rfl⟩
theorem f_eOf (v : Int32) : X5_entryOf lo0 v = -1 := by
  unfold X5_entryOf
  by_cases h : v < 0
  · rw [if_pos h]
  · rw [if_neg h]
    exact if_neg h
theorem f_frameX (v1 v2 : Int32) : X11_frame lo0 un0 en0 li0 v1 v2 = some (-1) := by
  unfold X11_frame
  rw [if_pos (f_eOf v1)]
theorem f_frameM (v1 v2 : Int32) : X12_frame mo0 mu0 me0 mf0 mq0 v1 v2 = some (-1) := by
  unfold X12_frame
  by_cases h : v1 < 0
  · rw [if_pos h]
  · rw [if_neg h]
    exact if_neg h
theorem f_nameX (v1 v2 : Int32) : X11_name kp0 lo0 sy0 en0 v1 v2 = some (-1) := by
  unfold X11_name
  by_cases h : v1 = (-1 : Int32)
  · rw [if_pos h]
    rfl
  · rw [if_neg h, f_eOf]
    rfl
theorem f_nameM (v1 v2 : Int32) : X12_name mb0 mo0 my0 me0 mq0 v1 v2 = some (-1) := by
  have key : X12_name_53 mb0 mo0 my0 me0 mq0 v1 v2 = some (-1) := by
    unfold X12_name_53
    by_cases h : v1 < 0
    · rw [if_pos h]
    · rw [if_neg h]
      exact if_neg h
  unfold X12_name
  by_cases h : v1 = (-1 : Int32)
  · rw [if_pos h, if_pos rfl]
    exact key
  · rw [if_neg h]
    exact key
theorem f_fileX (v1 v2 : Int32) : X11_file kp0 lo0 un0 en0 li0 v1 v2 = some (-1) := by
  unfold X11_file X5_fileOf
  rw [if_pos (f_eOf v1)]
  rfl
theorem f_fileM (v1 v2 : Int32) : X12_file mb0 mo0 mu0 me0 mf0 mq0 v1 v2 = some (-1) := by
  unfold X12_file
  by_cases h : v1 < 0
  · rw [if_pos h]
  · rw [if_neg h]
    exact if_neg h
theorem f_symbolX (v : Int32) : X11_symbol lo0 sy0 v = -1 := rfl
theorem f_symbolM (v : Int32) : X12_symbol mo0 my0 mq0 v = some (-1) := rfl
theorem f_countM (v : Int32) : X12_count mt0 mo0 ms0 my0 mu0 me0 mg0 mw0 mf0 v = some (X11_count nm0 im0 sy0 un0 en0 ra0 li0 v) := by
  unfold X12_count X11_count
  simp only [if_pos (show inb mo0.1 2 = true by decide)]
  repeat' split
  all_goals rfl
theorem f_faultM (v : Int32) : X11_fault cu0 v = X12_fault mo0 v := rfl
set_option maxRecDepth 100000 in
theorem f_loadX : (X11_load nm0 tp0 kp0 cu0 se0 ur0 ab0 lo0 i20.1 i20.2.1 i20.2.2.1 i20.2.2.2.1 i20.2.2.2.2.1 i20.2.2.2.2.2).map (fun q => q.1) = some (-1) := by decide +kernel
set_option maxRecDepth 100000 in
theorem f_loadM : (X12_load mt0 mc0 mb0 mo0 ms0 mk0 my0 mu0 ma0 me0 mr0 mp0 mg0 mw0 mf0 ml0 mq0).map (fun q => q.1) = some (-1) := by decide +kernel
/-- the invariant of one call: ahead of it both objects are fresh -/
def I1 (i : Nat) (X : TX) (M : TM) : Prop := i = 0 → X = X0 ∧ M = M0
theorem pure_0 : I1 0 X0 M0 := fun _ => ⟨rfl, rfl⟩
theorem pure_ok {L : Nat} (hL : L ≤ 6) : LawOK I1 L := by
  intro i nm tp kp cu se ur ab lo im sy un en ra li i2 mt mc mb mo ms mk my mu ma me mr mp mg mw mf ml mq hiL hI
  have hi : i = 0 := by omega
  subst hi
  obtain ⟨e1, e2⟩ := hI rfl
  have e1 : (nm, tp, kp, cu, se, ur, ab, lo, im, sy, un, en, ra, li, i2) = (nm0, tp0, kp0, cu0, se0, ur0, ab0, lo0, im0, sy0, un0, en0, ra0, li0, i20) := e1
  have e2 : (mt, mc, mb, mo, ms, mk, my, mu, ma, me, mr, mp, mg, mw, mf, ml, mq) = (mt0, mc0, mb0, mo0, ms0, mk0, my0, mu0, ma0, me0, mr0, mp0, mg0, mw0, mf0, ml0, mq0) := e2
  simp only [Prod.mk.injEq] at e1 e2
  obtain ⟨rfl, rfl, rfl, rfl, rfl, rfl, rfl, rfl, rfl, rfl, rfl, rfl, rfl, rfl, rfl⟩ := e1
  obtain ⟨rfl, rfl, rfl, rfl, rfl, rfl, rfl, rfl, rfl, rfl, rfl, rfl, rfl, rfl, rfl, rfl, rfl⟩ := e2
  have hv : ∀ (X : TX) (M : TM), I1 (0 + 6) X M := fun X M h => absurd h (by decide)
  refine ⟨hv _ _, fun a0 a1 a2 a3 a4 => ?_, fun a0 => ?_, fun a0 a1 => ?_, ?_, fun a0 => ?_, fun a0 a1 => ?_, fun a0 a1 => ?_, fun a0 a1 => ?_, fun a0 => ?_, fun a0 => ?_, fun a0 a1 => ?_, fun a0 a1 => ?_, fun a0 a1 => ?_, fun a0 => ?_, fun a0 => ?_⟩
  · obtain ⟨q, h1, h2⟩ := fdX (k := 0) (by decide) (fun _ => 0) a0 a1 a2 a3 a4
    obtain ⟨q', h3, h4⟩ := fdM (k := 0) (by decide) (fun _ => 0) a0 a1 a2 a3 a4
    refine ⟨q, q', h1, h3, ?_, hv _ _⟩
    rcases h2 with ⟨-, b, -⟩ | ⟨a, -⟩
    · rcases h4 with ⟨-, b', -⟩ | ⟨a, -⟩
      · rw [b, b']
      · exact absurd (by decide) a
    · exact absurd (by decide) a
  · exact ⟨_, _, rfl, rfl, (en_eq 0 (fun _ => 0) a0).1, hv _ _⟩
  · obtain ⟨q, h1, h2⟩ := pkX (k := 0) (by decide) (fun _ => 0) a0 a1
    obtain ⟨q', h3, h4, -⟩ := pkM (k := 0) (by decide) (fun _ => 0) a0 a1
    exact ⟨q, q', h1, h3, by rw [h2, h4], hv _ _⟩
  · obtain ⟨q, h1, h2⟩ := tot_map f_loadX
    obtain ⟨q', h3, h4⟩ := tot_map f_loadM
    exact ⟨q, q', h1, h3, h2.trans h4.symm, fun _ => hv _ _, fun _ => hv _ _⟩
  · exact ⟨_, _, rfl, rfl, f_faultM a0, hv _ _⟩
  · exact ⟨_, _, f_entryX a0 a1, f_entryM a0 a1, rfl, hv _ _⟩
  · exact ⟨_, _, f_holdsX a0 a1, f_holdsM a0 a1, rfl, hv _ _⟩
  · exact ⟨_, _, f_rowX a0 a1, f_rowM a0 a1, rfl, hv _ _⟩
  · exact ⟨_, _, f_rowAtX a0, f_rowAtM a0, rfl, hv _ _⟩
  · obtain ⟨q, h1⟩ := f_findX a0
    obtain ⟨q', h2⟩ := f_findM a0
    exact ⟨_, _, h1, h2, rfl, hv _ _⟩
  · exact ⟨_, _, f_frameX a0 a1, f_frameM a0 a1, rfl, hv _ _⟩
  · exact ⟨_, _, f_nameX a0 a1, f_nameM a0 a1, rfl, hv _ _⟩
  · exact ⟨_, _, f_fileX a0 a1, f_fileM a0 a1, rfl, hv _ _⟩
  · exact ⟨_, _, f_symbolX a0, f_symbolM a0, rfl, hv _ _⟩
  · exact ⟨_, _, rfl, f_countM a0, rfl, hv _ _⟩
