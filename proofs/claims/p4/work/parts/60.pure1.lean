/-! pure facts: feed, end, poke from any size; all calls on a fresh object -/
theorem tot_map {α β : Type} {x : Option α} {f : α → β} {y : β} (h : x.map f = some y) : ∃ q, x = some q ∧ f q = y := by
  cases x with
  | none => cases h
  | some q => exact ⟨q, rfl, Option.some.inj h⟩
theorem has0 (v : Int32) : (if v < 0 then (0 : Int32) else (if v < 0 then (1 : Int32) else (0 : Int32))) = 0 := by
  by_cases h : v < 0
  · rw [if_pos h]
  · rw [if_neg h, if_neg h]
theorem inb_nI {k n : Nat} (h : k < n) (hn : n < 2 ^ 31) : inb (nI k) n = true := decide_eq_true (nI_in h hn)
theorem ap_step {k n : Nat} (hk : k < 8000) (tp : Ttp) (v sh : Int32) (hs : ¬ sh < 0) : ∃ tp', X11_append_3 (n + 1) (nI k, tp, v, sh) = X11_append_3 n (nI (k + 1), tp', v, sh + (-8 : Int32)) := by
  refine ⟨upd tp (nI k).toNatClampNeg (vp_nar .byte (((v >>> (sh &&& 31))).toInt8.toInt32)), ?_⟩
  show X11_append_3b (fun a0 a1 a2 a3 => X11_append_3 n (a0, a1, a2, a3)) (nI k) tp v sh = _
  unfold X11_append_3b X11_append_49
  rw [if_neg hs, if_neg (nI_pos (by omega)), if_pos (show nI k < (8000 : Int32) from nI_lt (b := 8000) hk (by decide)), if_pos (inb_nI hk (by decide)), ← nI_1]
theorem ap_gen {k n : Nat} (hk : k + 4 ≤ 8000) (tp : Ttp) (v : Int32) : ∃ tp', X11_append_3 (n + 1 + 1 + 1 + 1 + 1) (nI k, tp, v, (24 : Int32)) = some (nI (k + 4), tp') := by
  obtain ⟨t1, e1⟩ := ap_step (k := k) (n := n + 1 + 1 + 1 + 1) (by omega) tp v 24 (by decide)
  obtain ⟨t2, e2⟩ := ap_step (k := k + 1) (n := n + 1 + 1 + 1) (by omega) t1 v (24 + (-8)) (by decide)
  obtain ⟨t3, e3⟩ := ap_step (k := k + 1 + 1) (n := n + 1 + 1) (by omega) t2 v (24 + (-8) + (-8)) (by decide)
  obtain ⟨t4, e4⟩ := ap_step (k := k + 1 + 1 + 1) (n := n + 1) (by omega) t3 v (24 + (-8) + (-8) + (-8)) (by decide)
  refine ⟨t4, ?_⟩
  rw [e1, e2, e3, e4]
  show X11_append_3b (fun a0 a1 a2 a3 => X11_append_3 n (a0, a1, a2, a3)) (nI (k + 4)) t4 v (24 + (-8) + (-8) + (-8) + (-8)) = _
  unfold X11_append_3b
  rw [if_pos (by decide)]
theorem ap_all {k : Nat} (hk : k + 4 ≤ 8000) (tp : Ttp) (v : Int32) : ∃ tp', X11_append (nI k) tp v = some (nI (k + 4), tp') := ap_gen (n := 999999999995) hk tp v
theorem fdX {k : Nat} (hk : k ≤ 8000) (tp : Ttp) (v1 v2 v3 v4 v5 : Int32) : ∃ q, X11_feed (nI k) tp v1 v2 v3 v4 v5 = some q ∧ ((k + 20 ≤ 8000 ∧ q.1 = nI (k + 20) ∧ q.2.1 = nI (k + 20)) ∨ (¬ k + 20 ≤ 8000 ∧ q.1 = -1 ∧ q.2.1 = nI k)) := by
  unfold X11_feed
  have e20 : nI k + (20 : Int32) = nI (k + 20) := nI_add k 20
  rw [e20]
  by_cases h : k + 20 ≤ 8000
  · obtain ⟨t1, e1⟩ := ap_all (k := k) (by omega) tp v1
    obtain ⟨t2, e2⟩ := ap_all (k := k + 4) (by omega) t1 v2
    obtain ⟨t3, e3⟩ := ap_all (k := k + 4 + 4) (by omega) t2 v3
    obtain ⟨t4, e4⟩ := ap_all (k := k + 4 + 4 + 4) (by omega) t3 v4
    obtain ⟨t5, e5⟩ := ap_all (k := k + 4 + 4 + 4 + 4) (by omega) t4 v5
    refine ⟨(nI (k + 20), nI (k + 20), t5), ?_, Or.inl ⟨h, rfl, rfl⟩⟩
    rw [if_neg (show ¬ (8000 : Int32) < nI (k + 20) from nI_nlt (a := 8000) h (by decide)), e1]
    show (X11_append (nI (k + 4)) t1 v2).bind _ = _
    rw [e2]
    show (X11_append (nI (k + 4 + 4)) t2 v3).bind _ = _
    rw [e3]
    show (X11_append (nI (k + 4 + 4 + 4)) t3 v4).bind _ = _
    rw [e4]
    show (X11_append (nI (k + 4 + 4 + 4 + 4)) t4 v5).bind _ = _
    rw [e5]
    rfl
  · refine ⟨(-1, nI k, tp), ?_, Or.inr ⟨h, rfl, rfl⟩⟩
    rw [if_pos (show (8000 : Int32) < nI (k + 20) from nI_lt (a := 8000) (by omega) (by omega))]
theorem fm_71 {k j n : Nat} (hk : k < 8000) (f : Nat → Int32) (v1 v2 v3 v4 v5 z0 : Int32) : ∃ f', X12_feed_71 (fun a0 a1 a2 a3 a4 a5 a6 => X12_feed_18 n (a0, a1, a2, a3, a4, a5, a6)) (f, nI k) v1 v2 v3 v4 v5 (nI j) z0 = X12_feed_18 n ((f', nI (k + 1)), v1, v2, v3, v4, v5, nI (j + 1)) := by
  unfold X12_feed_71
  refine ⟨upd f (nI k).toNatClampNeg ((z0 >>> (((24 : Int32) - ((8 : Int32) * (nI j - nI j / (4 : Int32) * (4 : Int32)))) &&& 31)) &&& (255 : Int32)), ?_⟩
  rw [if_pos (show inb (f, nI k).2 8000 = true from inb_nI hk (by decide)), ← nI_1, ← nI_1]
theorem fm_step {k j n : Nat} (hk : k < 8000) (hj : j < 20) (f : Nat → Int32) (v1 v2 v3 v4 v5 : Int32) : ∃ f', X12_feed_18 (n + 1) ((f, nI k), v1, v2, v3, v4, v5, nI j) = X12_feed_18 n ((f', nI (k + 1)), v1, v2, v3, v4, v5, nI (j + 1)) := by
  show ∃ f', X12_feed_18b (fun a0 a1 a2 a3 a4 a5 a6 => X12_feed_18 n (a0, a1, a2, a3, a4, a5, a6)) (f, nI k) v1 v2 v3 v4 v5 (nI j) = _
  unfold X12_feed_18b
  rw [if_pos (show nI j < (20 : Int32) from nI_lt (b := 20) hj (by decide))]
  by_cases c1 : nI j < (4 : Int32)
  · rw [if_pos c1]; exact fm_71 hk f v1 v2 v3 v4 v5 _
  rw [if_neg c1]
  by_cases c2 : nI j < (8 : Int32)
  · rw [if_pos c2]; exact fm_71 hk f v1 v2 v3 v4 v5 _
  rw [if_neg c2]
  by_cases c3 : nI j < (12 : Int32)
  · rw [if_pos c3]; exact fm_71 hk f v1 v2 v3 v4 v5 _
  rw [if_neg c3]
  by_cases c4 : nI j < (16 : Int32)
  · rw [if_pos c4]; exact fm_71 hk f v1 v2 v3 v4 v5 _
  rw [if_neg c4]
  exact fm_71 hk f v1 v2 v3 v4 v5 _
theorem fm_all (v1 v2 v3 v4 v5 : Int32) : ∀ (r j k n : Nat) (f : Nat → Int32), j + r = 20 → k + r ≤ 8000 → ∃ f', X12_feed_18 (n + r + 1) ((f, nI k), v1, v2, v3, v4, v5, nI j) = some (nI (k + r), (f', nI (k + r))) := by
  intro r
  induction r with
  | zero =>
    intro j k n f hj hk
    refine ⟨f, ?_⟩
    show X12_feed_18b (fun a0 a1 a2 a3 a4 a5 a6 => X12_feed_18 n (a0, a1, a2, a3, a4, a5, a6)) (f, nI k) v1 v2 v3 v4 v5 (nI j) = _
    unfold X12_feed_18b
    rw [if_neg (show ¬ nI j < (20 : Int32) from nI_nlt (b := 20) (by omega) (by omega))]
    rfl
  | succ r ih =>
    intro j k n f hj hk
    obtain ⟨f1, e1⟩ := fm_step (k := k) (j := j) (n := n + r + 1) (by omega) (by omega) f v1 v2 v3 v4 v5
    obtain ⟨f2, e2⟩ := ih (j + 1) (k + 1) n f1 (by omega) (by omega)
    refine ⟨f2, ?_⟩
    rw [show n + (r + 1) + 1 = n + r + 1 + 1 by omega, e1, e2, show k + 1 + r = k + (r + 1) by omega]
theorem fdM {k : Nat} (hk : k ≤ 8000) (f : Nat → Int32) (v1 v2 v3 v4 v5 : Int32) : ∃ q, X12_feed (f, nI k) v1 v2 v3 v4 v5 = some q ∧ ((k + 20 ≤ 8000 ∧ q.1 = nI (k + 20) ∧ q.2.2 = nI (k + 20)) ∨ (¬ k + 20 ≤ 8000 ∧ q.1 = -1 ∧ q.2.2 = nI k)) := by
  unfold X12_feed
  show ∃ q, (if (8000 : Int32) < (nI k + (20 : Int32)) then some ((-1 : Int32), (f, nI k)) else X12_feed_18 FU ((f, nI k), v1, v2, v3, v4, v5, (0 : Int32))) = some q ∧ _
  have e20 : nI k + (20 : Int32) = nI (k + 20) := nI_add k 20
  rw [e20]
  by_cases h : k + 20 ≤ 8000
  · obtain ⟨f', e1⟩ := fm_all v1 v2 v3 v4 v5 20 0 k 999999999979 f rfl h
    refine ⟨(nI (k + 20), (f', nI (k + 20))), ?_, Or.inl ⟨h, rfl, rfl⟩⟩
    rw [if_neg (show ¬ (8000 : Int32) < nI (k + 20) from nI_nlt (a := 8000) h (by decide)), ← nI_0]
    exact e1
  · refine ⟨(-1, (f, nI k)), ?_, Or.inr ⟨h, rfl, rfl⟩⟩
    rw [if_pos (show (8000 : Int32) < nI (k + 20) from nI_lt (a := 8000) (by omega) (by omega))]
theorem pkX {k : Nat} (hk : k ≤ 8000) (tp : Ttp) (v1 v2 : Int32) : ∃ q, X11_poke (nI k) tp v1 v2 = some q ∧ q.1 = (if v1 < 0 then (0 : Int32) else if v1 < nI k then 1 else 0) := by
  unfold X11_poke
  by_cases h1 : v1 < 0
  · rw [if_pos h1]; exact ⟨_, rfl, by rw [if_pos h1]⟩
  rw [if_neg h1]
  by_cases h2 : v1 < nI k
  · obtain ⟨j, hj, rfl⟩ := nI_of h1
    have hjk : j < k := (nI_ltI hj (by omega)).mp h2
    rw [if_pos h2, if_pos (show nI j < (8000 : Int32) from nI_lt (b := 8000) (by omega) (by decide)), if_pos (inb_nI (by omega) (by decide))]
    exact ⟨_, rfl, by rw [if_neg h1, if_pos h2]⟩
  · rw [if_neg h2]; exact ⟨_, rfl, by rw [if_neg h1, if_neg h2]⟩
theorem pkM {k : Nat} (hk : k ≤ 8000) (f : Nat → Int32) (v1 v2 : Int32) : ∃ q, X12_poke (f, nI k) v1 v2 = some q ∧ q.1 = (if v1 < 0 then (0 : Int32) else if v1 < nI k then 1 else 0) ∧ q.2.2 = nI k := by
  unfold X12_poke
  by_cases h1 : v1 < 0
  · rw [if_pos h1]; exact ⟨_, rfl, by rw [if_pos h1], rfl⟩
  rw [if_neg h1]
  by_cases h2 : v1 < nI k
  · obtain ⟨j, hj, rfl⟩ := nI_of h1
    have hjk : j < k := (nI_ltI hj (by omega)).mp h2
    rw [if_pos h2, if_pos (inb_nI (by omega) (by decide))]
    exact ⟨_, rfl, by rw [if_neg h1, if_pos h2], rfl⟩
  · rw [if_neg h2]; exact ⟨_, rfl, by rw [if_neg h1, if_neg h2], rfl⟩
theorem en_eq (nm : Int32) (f : Nat → Int32) (v : Int32) : (X11_end nm v).1 = (X12_end (f, nm) v).1 ∧ (X11_end nm v).2 = (X12_end (f, nm) v).2.2 := by
  unfold X11_end X12_end
  show (if v < 0 then ((0 : Int32), nm) else (if nm < v then ((0 : Int32), nm) else ((1 : Int32), v))).1 = (if v < 0 then ((0 : Int32), (f, nm)) else (if nm < v then ((0 : Int32), (f, nm)) else ((1 : Int32), (f, v)))).1 ∧ (if v < 0 then ((0 : Int32), nm) else (if nm < v then ((0 : Int32), nm) else ((1 : Int32), v))).2 = (if v < 0 then ((0 : Int32), (f, nm)) else (if nm < v then ((0 : Int32), (f, nm)) else ((1 : Int32), (f, v)))).2.2
  by_cases h1 : v < 0
  · rw [if_pos h1, if_pos h1]; exact ⟨rfl, rfl⟩
  rw [if_neg h1, if_neg h1]
  by_cases h2 : nm < v
  · rw [if_pos h2, if_pos h2]; exact ⟨rfl, rfl⟩
  · rw [if_neg h2, if_neg h2]; exact ⟨rfl, rfl⟩
