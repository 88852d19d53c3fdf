/-! what both objects hold between the calls; no call fails -/
theorem and255 (x : Int32) : ∃ b, b < 256 ∧ x &&& (255 : Int32) = nI b := by
  have e : (x &&& (255 : Int32)).toBitVec.toNat = x.toBitVec.toNat &&& 255 := by
    rw [Int32.toBitVec_and, BitVec.toNat_and]
    rfl
  have hle : x.toBitVec.toNat &&& 255 ≤ 255 := Nat.and_le_right
  refine ⟨(x &&& (255 : Int32)).toBitVec.toNat, by omega, ?_⟩
  apply Int32.toBitVec_inj.mp
  show _ = BitVec.ofNat 32 _
  apply BitVec.eq_of_toNat_eq
  rw [BitVec.toNat_ofNat, Nat.mod_eq_of_lt (by omega)]
theorem By.put {f : Nat → Int32} (h : By f) (k : Nat) (x : Int32) : By (upd f k (x &&& (255 : Int32))) := by
  intro j
  by_cases c : j = k
  · subst c
    rw [upd_eq]
    exact and255 x
  · rw [upd_ne c]
    exact h j
theorem fit_put {f : Nat → Int32} (h : sb_Fit f) (k : Nat) (z : Int32) : sb_Fit (upd f k (vp_nar .byte (z.toInt8.toInt32))) := sb_fitU h (pk_fb _)
theorem apF_step {k n : Nat} (hk : k < 8000) (tp : Ttp) (hf : sb_Fit tp) (v sh : Int32) (hs : ¬ sh < 0) : ∃ tp', sb_Fit tp' ∧ X11_append_3 (n + 1) (nI k, tp, v, sh) = X11_append_3 n (nI (k + 1), tp', v, sh + (-8 : Int32)) := by
  refine ⟨upd tp (nI k).toNatClampNeg (vp_nar .byte (((v >>> (sh &&& 31))).toInt8.toInt32)), fit_put hf _ _, ?_⟩
  show X11_append_3b (fun a0 a1 a2 a3 => X11_append_3 n (a0, a1, a2, a3)) (nI k) tp v sh = _
  unfold X11_append_3b X11_append_49
  rw [if_neg hs, if_neg (nI_pos (by omega)), if_pos (show nI k < (8000 : Int32) from nI_lt (b := 8000) hk (by decide)), if_pos (inb_nI hk (by decide)), ← nI_1]
theorem apF_gen {k n : Nat} (hk : k + 4 ≤ 8000) (tp : Ttp) (hf : sb_Fit tp) (v : Int32) : ∃ tp', sb_Fit tp' ∧ X11_append_3 (n + 1 + 1 + 1 + 1 + 1) (nI k, tp, v, (24 : Int32)) = some (nI (k + 4), tp') := by
  obtain ⟨t1, f1, e1⟩ := apF_step (k := k) (n := n + 1 + 1 + 1 + 1) (by omega) tp hf v 24 (by decide)
  obtain ⟨t2, f2, e2⟩ := apF_step (k := k + 1) (n := n + 1 + 1 + 1) (by omega) t1 f1 v (24 + (-8)) (by decide)
  obtain ⟨t3, f3, e3⟩ := apF_step (k := k + 1 + 1) (n := n + 1 + 1) (by omega) t2 f2 v (24 + (-8) + (-8)) (by decide)
  obtain ⟨t4, f4, e4⟩ := apF_step (k := k + 1 + 1 + 1) (n := n + 1) (by omega) t3 f3 v (24 + (-8) + (-8) + (-8)) (by decide)
  refine ⟨t4, f4, ?_⟩
  rw [e1, e2, e3, e4]
  show X11_append_3b (fun a0 a1 a2 a3 => X11_append_3 n (a0, a1, a2, a3)) (nI (k + 4)) t4 v (24 + (-8) + (-8) + (-8) + (-8)) = _
  unfold X11_append_3b
  rw [if_pos (by decide)]
theorem apF_all {k : Nat} (hk : k + 4 ≤ 8000) (tp : Ttp) (hf : sb_Fit tp) (v : Int32) : ∃ tp', sb_Fit tp' ∧ X11_append (nI k) tp v = some (nI (k + 4), tp') := apF_gen (n := 999999999995) hk tp hf v
theorem fdXF {k : Nat} (hk : k ≤ 8000) (tp : Ttp) (hf : sb_Fit tp) (v1 v2 v3 v4 v5 : Int32) : ∃ q, X11_feed (nI k) tp v1 v2 v3 v4 v5 = some q ∧ sb_Fit q.2.2 ∧ ((k + 20 ≤ 8000 ∧ q.1 = nI (k + 20) ∧ q.2.1 = nI (k + 20)) ∨ (¬ k + 20 ≤ 8000 ∧ q.1 = -1 ∧ q.2.1 = nI k)) := by
  unfold X11_feed
  have e20 : nI k + (20 : Int32) = nI (k + 20) := nI_add k 20
  rw [e20]
  by_cases h : k + 20 ≤ 8000
  · obtain ⟨t1, f1, e1⟩ := apF_all (k := k) (by omega) tp hf v1
    obtain ⟨t2, f2, e2⟩ := apF_all (k := k + 4) (by omega) t1 f1 v2
    obtain ⟨t3, f3, e3⟩ := apF_all (k := k + 4 + 4) (by omega) t2 f2 v3
    obtain ⟨t4, f4, e4⟩ := apF_all (k := k + 4 + 4 + 4) (by omega) t3 f3 v4
    obtain ⟨t5, f5, e5⟩ := apF_all (k := k + 4 + 4 + 4 + 4) (by omega) t4 f4 v5
    refine ⟨(nI (k + 20), nI (k + 20), t5), ?_, f5, Or.inl ⟨h, rfl, rfl⟩⟩
    rw [if_neg (show ¬ (8000 : Int32) < nI (k + 20) from nI_nlt (a := 8000) h (by decide)), e1]
    show (X11_append (nI (k + 4)) t1 v2).bind _ = _
    rw [e2]
    show (X11_append (nI (k + 4 + 4)) t2 v3).bind _ = _
    rw [e3]
    show (X11_append (nI (k + 4 + 4 + 4)) t3 v4).bind _ = _
    rw [e4]
    show (X11_append (nI (k + 4 + 4 + 4 + 4)) t4 v5).bind _ = _
    rw [e5]
    rfl
  · refine ⟨(-1, nI k, tp), ?_, hf, Or.inr ⟨h, rfl, rfl⟩⟩
    rw [if_pos (show (8000 : Int32) < nI (k + 20) from nI_lt (a := 8000) (by omega) (by omega))]
theorem fmB_71 {k j n : Nat} (hk : k < 8000) (f : Nat → Int32) (hf : By f) (v1 v2 v3 v4 v5 z0 : Int32) : ∃ f', By f' ∧ X12_feed_71 (fun a0 a1 a2 a3 a4 a5 a6 => X12_feed_18 n (a0, a1, a2, a3, a4, a5, a6)) (f, nI k) v1 v2 v3 v4 v5 (nI j) z0 = X12_feed_18 n ((f', nI (k + 1)), v1, v2, v3, v4, v5, nI (j + 1)) := by
  unfold X12_feed_71
  refine ⟨upd f (nI k).toNatClampNeg ((z0 >>> (((24 : Int32) - ((8 : Int32) * (nI j - nI j / (4 : Int32) * (4 : Int32)))) &&& 31)) &&& (255 : Int32)), hf.put _ _, ?_⟩
  rw [if_pos (show inb (f, nI k).2 8000 = true from inb_nI hk (by decide)), ← nI_1, ← nI_1]
theorem fmB_step {k j n : Nat} (hk : k < 8000) (hj : j < 20) (f : Nat → Int32) (hf : By f) (v1 v2 v3 v4 v5 : Int32) : ∃ f', By f' ∧ X12_feed_18 (n + 1) ((f, nI k), v1, v2, v3, v4, v5, nI j) = X12_feed_18 n ((f', nI (k + 1)), v1, v2, v3, v4, v5, nI (j + 1)) := by
  show ∃ f', By f' ∧ X12_feed_18b (fun a0 a1 a2 a3 a4 a5 a6 => X12_feed_18 n (a0, a1, a2, a3, a4, a5, a6)) (f, nI k) v1 v2 v3 v4 v5 (nI j) = _
  unfold X12_feed_18b
  rw [if_pos (show nI j < (20 : Int32) from nI_lt (b := 20) hj (by decide))]
  by_cases c1 : nI j < (4 : Int32)
  · rw [if_pos c1]; exact fmB_71 hk f hf v1 v2 v3 v4 v5 _
  rw [if_neg c1]
  by_cases c2 : nI j < (8 : Int32)
  · rw [if_pos c2]; exact fmB_71 hk f hf v1 v2 v3 v4 v5 _
  rw [if_neg c2]
  by_cases c3 : nI j < (12 : Int32)
  · rw [if_pos c3]; exact fmB_71 hk f hf v1 v2 v3 v4 v5 _
  rw [if_neg c3]
  by_cases c4 : nI j < (16 : Int32)
  · rw [if_pos c4]; exact fmB_71 hk f hf v1 v2 v3 v4 v5 _
  rw [if_neg c4]
  exact fmB_71 hk f hf v1 v2 v3 v4 v5 _
theorem fmB_all (v1 v2 v3 v4 v5 : Int32) : ∀ (r j k n : Nat) (f : Nat → Int32), By f → j + r = 20 → k + r ≤ 8000 → ∃ f', By f' ∧ X12_feed_18 (n + r + 1) ((f, nI k), v1, v2, v3, v4, v5, nI j) = some (nI (k + r), (f', nI (k + r))) := by
  intro r
  induction r with
  | zero =>
    intro j k n f hf hj hk
    refine ⟨f, hf, ?_⟩
    show X12_feed_18b (fun a0 a1 a2 a3 a4 a5 a6 => X12_feed_18 n (a0, a1, a2, a3, a4, a5, a6)) (f, nI k) v1 v2 v3 v4 v5 (nI j) = _
    unfold X12_feed_18b
    rw [if_neg (show ¬ nI j < (20 : Int32) from nI_nlt (b := 20) (by omega) (by omega))]
    rfl
  | succ r ih =>
    intro j k n f hf hj hk
    obtain ⟨f1, h1, e1⟩ := fmB_step (k := k) (j := j) (n := n + r + 1) (by omega) (by omega) f hf v1 v2 v3 v4 v5
    obtain ⟨f2, h2, e2⟩ := ih (j + 1) (k + 1) n f1 h1 (by omega) (by omega)
    refine ⟨f2, h2, ?_⟩
    rw [show n + (r + 1) + 1 = n + r + 1 + 1 by omega, e1, e2, show k + 1 + r = k + (r + 1) by omega]
theorem fdMB {k : Nat} (hk : k ≤ 8000) (f : Nat → Int32) (hf : By f) (v1 v2 v3 v4 v5 : Int32) : ∃ q, X12_feed (f, nI k) v1 v2 v3 v4 v5 = some q ∧ By q.2.1 ∧ ((k + 20 ≤ 8000 ∧ q.1 = nI (k + 20) ∧ q.2.2 = nI (k + 20)) ∨ (¬ k + 20 ≤ 8000 ∧ q.1 = -1 ∧ q.2.2 = nI k)) := by
  unfold X12_feed
  show ∃ q, (if (8000 : Int32) < (nI k + (20 : Int32)) then some ((-1 : Int32), (f, nI k)) else X12_feed_18 FU ((f, nI k), v1, v2, v3, v4, v5, (0 : Int32))) = some q ∧ _
  have e20 : nI k + (20 : Int32) = nI (k + 20) := nI_add k 20
  rw [e20]
  by_cases h : k + 20 ≤ 8000
  · obtain ⟨f', h1, e1⟩ := fmB_all v1 v2 v3 v4 v5 20 0 k 999999999979 f hf rfl h
    refine ⟨(nI (k + 20), (f', nI (k + 20))), ?_, h1, Or.inl ⟨h, rfl, rfl⟩⟩
    rw [if_neg (show ¬ (8000 : Int32) < nI (k + 20) from nI_nlt (a := 8000) h (by decide)), ← nI_0]
    exact e1
  · refine ⟨(-1, (f, nI k)), ?_, hf, Or.inr ⟨h, rfl, rfl⟩⟩
    rw [if_pos (show (8000 : Int32) < nI (k + 20) from nI_lt (a := 8000) (by omega) (by omega))]
theorem pkXF {k : Nat} (hk : k ≤ 8000) (tp : Ttp) (hf : sb_Fit tp) (v1 v2 : Int32) : ∃ q, X11_poke (nI k) tp v1 v2 = some q ∧ sb_Fit q.2 ∧ q.1 = (if v1 < 0 then (0 : Int32) else if v1 < nI k then 1 else 0) := by
  unfold X11_poke
  by_cases h1 : v1 < 0
  · rw [if_pos h1]; exact ⟨_, rfl, hf, by rw [if_pos h1]⟩
  rw [if_neg h1]
  by_cases h2 : v1 < nI k
  · obtain ⟨j, hj, rfl⟩ := nI_of h1
    have hjk : j < k := (nI_ltI hj (by omega)).mp h2
    rw [if_pos h2, if_pos (show nI j < (8000 : Int32) from nI_lt (b := 8000) (by omega) (by decide)), if_pos (inb_nI (by omega) (by decide))]
    exact ⟨_, rfl, fit_put hf _ _, by rw [if_neg h1, if_pos h2]⟩
  · rw [if_neg h2]; exact ⟨_, rfl, hf, by rw [if_neg h1, if_neg h2]⟩
theorem pkMB {k : Nat} (hk : k ≤ 8000) (f : Nat → Int32) (hf : By f) (v1 v2 : Int32) : ∃ q, X12_poke (f, nI k) v1 v2 = some q ∧ By q.2.1 ∧ q.1 = (if v1 < 0 then (0 : Int32) else if v1 < nI k then 1 else 0) ∧ q.2.2 = nI k := by
  unfold X12_poke
  by_cases h1 : v1 < 0
  · rw [if_pos h1]; exact ⟨_, rfl, hf, by rw [if_pos h1], rfl⟩
  rw [if_neg h1]
  by_cases h2 : v1 < nI k
  · obtain ⟨j, hj, rfl⟩ := nI_of h1
    have hjk : j < k := (nI_ltI hj (by omega)).mp h2
    rw [if_pos h2, if_pos (inb_nI (by omega) (by decide))]
    exact ⟨_, rfl, hf.put _ _, by rw [if_neg h1, if_pos h2], rfl⟩
  · rw [if_neg h2]; exact ⟨_, rfl, hf, by rw [if_neg h1, if_neg h2], rfl⟩
theorem en_sz {k : Nat} (hk : k ≤ 8000) (f : Nat → Int32) (v : Int32) : (X12_end (f, nI k) v).2.1 = f ∧ ∃ k', k' ≤ 8000 ∧ (X12_end (f, nI k) v).2.2 = nI k' := by
  unfold X12_end
  by_cases h1 : v < 0
  · rw [if_pos h1]; exact ⟨rfl, k, hk, rfl⟩
  rw [if_neg h1]
  by_cases h2 : nI k < v
  · rw [if_pos (show (f, nI k).2 < v from h2)]; exact ⟨rfl, k, hk, rfl⟩
  · rw [if_neg (show ¬ (f, nI k).2 < v from h2)]
    obtain ⟨j, hj, rfl⟩ := nI_of h1
    refine ⟨rfl, j, ?_, rfl⟩
    rcases Nat.lt_or_ge k j with q | q
    · exact absurd (nI_lt q hj) h2
    · omega
def J2 (X : TX) (M : TM) : Prop := (∃ k, k ≤ 8000 ∧ X.1 = nI k ∧ M.1.2 = nI k) ∧ sb_Fit X.2.1 ∧ By M.1.1 ∧ M.2.2.2.2.2.1 = mk0 ∧ JB M.2.1 M.2.2.1 M.2.2.2.1 M.2.2.2.2.2.2.1 M.2.2.2.2.2.2.2.1 M.2.2.2.2.2.2.2.2.2.1 M.2.2.2.2.2.2.2.2.2.2.2.2.1 M.2.2.2.2.2.2.2.2.2.2.2.2.2.1 M.2.2.2.2.2.2.2.2.2.2.2.2.2.2.1 M.2.2.2.2.2.2.2.2.2.2.2.2.2.2.2.2
theorem pure_0 : J2 X0 M0 := by
  refine ⟨⟨0, by decide, rfl, rfl⟩, fun _ => (show fits .byte (.int 0) = true by decide), fun _ => ⟨0, by decide, rfl⟩, rfl, ⟨0, 0, rfl, rfl, by decide, by decide⟩, 1, 0, rfl, rfl, by decide, by decide, by decide, fun _ => ⟨0, by decide, rfl⟩, 0, fun _ => 0, fun _ => 0, fun h hh => ⟨0, ⟨rfl, by decide, fun s hs => absurd hs (by omega)⟩, fun _ => rfl⟩, ⟨fun h hh => ⟨rfl, Nat.zero_le _, fun u hu => absurd hu (Nat.not_lt_zero _)⟩, fun h hh => ⟨0, fun _ => 0, ⟨rfl, by decide, fun e he => absurd he (by omega), fun e he => absurd he (by omega), fun e he => absurd he (by omega), fun e he => absurd he (by omega)⟩, fun _ => rfl⟩, fun _ => Or.inl rfl, fun _ => Or.inl rfl⟩, rfl, fun h hh => ⟨rfl, Nat.zero_le _, fun f hf => absurd hf (Nat.not_lt_zero _)⟩, fun h hh => ⟨0, rfl, by decide⟩, fun h hh => ⟨0, rfl, by decide⟩, ⟨0, rfl, by decide, fun i hi => absurd hi (by omega)⟩, Or.inl rfl⟩
theorem pure_ok {L : Nat} (_ : L ≤ 3072) : LawOK (fun _ => J2) L := by
  intro i nm tp kp cu se ur ab lo im sy un en ra li i2 mt mc mb mo ms mk my mu ma me mr mp mg mw mf ml mq hiL hJ
  obtain ⟨f, sz⟩ := mt
  have J : J2 (nm, tp, kp, cu, se, ur, ab, lo, im, sy, un, en, ra, li, i2) ((f, sz), mc, mb, mo, ms, mk, my, mu, ma, me, mr, mp, mg, mw, mf, ml, mq) := hJ
  obtain ⟨⟨k, hk, e1, e2⟩, hfit, hby, hmk, hJB⟩ := hJ
  have e1 : nm = nI k := e1
  have e2 : sz = nI k := e2
  have hfit : sb_Fit tp := hfit
  have hby : By f := hby
  have hmk : mk = mk0 := hmk
  have hJB : JB mc mb mo my mu me mg mw mf mq := hJB
  subst e1 e2 hmk
  obtain ⟨hcu, w, t, hwb, ht, hw, ht1, htw, hBy, κy, C, F, hY, hE, hC2, hF, hG, hW, hQ⟩ := id hJB
  obtain ⟨n, dep, hH, hn⟩ := hE.2.1 t ht1
  have hn : n = C 3 := hn hC2.symm
  obtain ⟨ny, hYt, hny⟩ := hY t ht1
  have hny : ny = κy := hny rfl
  have hQ' : LQ mq n ny := by rw [hn, hny]; exact hQ
  refine ⟨J, fun a0 a1 a2 a3 a4 => ?_, fun a0 => ?_, fun a0 a1 => ?_, ?_, fun a0 => ?_, fun a0 a1 => ?_, fun a0 a1 => ?_, fun a0 a1 => ?_, fun a0 => ?_, fun a0 => ?_, fun a0 a1 => ?_, fun a0 a1 => ?_, fun a0 a1 => ?_, fun a0 => ?_, fun a0 => ?_⟩
  · obtain ⟨q, h1, h2, h3⟩ := fdXF hk tp hfit a0 a1 a2 a3 a4
    obtain ⟨q', g1, g2, g3⟩ := fdMB hk f hby a0 a1 a2 a3 a4
    have key : q.1 = q'.1 ∧ ∃ k', k' ≤ 8000 ∧ q.2.1 = nI k' ∧ q'.2.2 = nI k' := by
      rcases h3 with ⟨a, b, c⟩ | ⟨a, b, c⟩
      · rcases g3 with ⟨_, b', c'⟩ | ⟨a', _, _⟩
        · exact ⟨b.trans b'.symm, k + 20, a, c, c'⟩
        · exact absurd a a'
      · rcases g3 with ⟨a', _, _⟩ | ⟨_, b', c'⟩
        · exact absurd a' a
        · exact ⟨b.trans b'.symm, k, hk, c, c'⟩
    exact ⟨q, q', h1, g1, ⟨key.2, h2, g2, rfl, hJB⟩⟩
  · obtain ⟨g1, k', g2, g3⟩ := en_sz hk f a0
    have ee := en_eq (nI k) f a0
    exact ⟨_, _, rfl, rfl, ⟨⟨k', g2, ee.2.trans g3, g3⟩, hfit, by show By (X12_end (f, nI k) a0).2.1; rw [g1]; exact hby, rfl, hJB⟩⟩
  · obtain ⟨q, h1, h2, h3⟩ := pkXF hk tp hfit a0 a1
    obtain ⟨q', g1, g2, g3, g4⟩ := pkMB hk f hby a0 a1
    exact ⟨q, q', h1, g1, h3.trans g3.symm, ⟨⟨k, hk, rfl, g4⟩, h2, g2, rfl, hJB⟩⟩
  · obtain ⟨q, h1⟩ := tX11_load (nm := nI k) (kp := kp) (cu := cu) (se := se) (ur := ur) (ab := ab) (lo := lo) (im := i2.1) (sy := i2.2.1) (un := i2.2.2.1) (en := i2.2.2.2.1) (ra := i2.2.2.2.2.1) (li := i2.2.2.2.2.2) hfit
    obtain ⟨q', g1, g2⟩ := R_load (mt := (f, nI k)) (ms := ms) (ma := ma) (mr := mr) (mp := mp) (ml := ml) hk rfl hby hJB
    exact ⟨q, q', h1, g1, fun _ => ⟨⟨k, hk, rfl, rfl⟩, hfit, hby, rfl, g2⟩, fun _ => ⟨⟨k, hk, rfl, rfl⟩, hfit, hby, rfl, g2⟩⟩
  · exact ⟨_, _, rfl, rfl, J⟩
  · obtain ⟨q, h1⟩ := (tX11_entry : Tot (X11_entry en a0 a1))
    obtain ⟨q', g1, -⟩ := R_entry (mg := mg) (v1 := a0) (v2 := a1) ht ht1 hH hG
    exact ⟨q, q', h1, g1, J⟩
  · obtain ⟨q, h1⟩ := (tX11_holds : Tot (X11_holds en ra a0 a1))
    obtain ⟨q', g1, -⟩ := R_holds (mg := mg) (v1 := a0) (v2 := a1) ht ht1 hH hG
    exact ⟨q, q', h1, g1, J⟩
  · obtain ⟨q', g1, -⟩ := R_row (mw := mw) (v1 := a0) (v2 := a1) ht ht1 hW
    exact ⟨_, q', rfl, g1, J⟩
  · obtain ⟨q', g1, -⟩ := R_rowAt (mw := mw) (v1 := a0) ht ht1 hW
    exact ⟨_, q', rfl, g1, J⟩
  · obtain ⟨q, h1⟩ := (tX11_find : Tot (X11_find lo sy en ra li a0))
    obtain ⟨q', g1, g2⟩ := R_find (mq := mq) (mw := mw) (v1 := a0) ht ht1 hH hYt hG hW
    have g2 : LQ q'.2 (C 3) κy := by rw [← hn, ← hny]; exact g2
    exact ⟨q, q', h1, g1, ⟨k, hk, rfl, rfl⟩, hfit, hby, rfl, hcu, w, t, hwb, ht, hw, ht1, htw, hBy, κy, C, F, hY, hE, hC2, hF, hG, hW, g2⟩
  · obtain ⟨q, h1⟩ := (tX11_frame : Tot (X11_frame lo un en li a0 a1))
    obtain ⟨q', g1, -⟩ := R_frame (mf := mf) (mq := mq) (v1 := a0) (v2 := a1) ht ht1 hE.1 (hF t ht1).2.1 hH hQ'
    exact ⟨q, q', h1, g1, J⟩
  · obtain ⟨q, h1⟩ := (tX11_name : Tot (X11_name kp lo sy en a0 a1))
    obtain ⟨q', g1, -⟩ := R_name (mb := mb) (mq := mq) (v1 := a0) (v2 := a1) ht ht1 hH hYt hQ'
    exact ⟨q, q', h1, g1, J⟩
  · obtain ⟨q, h1⟩ := (tX11_file : Tot (X11_file kp lo un en li a0 a1))
    obtain ⟨q', g1, -⟩ := R_file (mb := mb) (mq := mq) (v1 := a0) (v2 := a1) ht ht1 hE.1 hF hH hQ'
    exact ⟨q, q', h1, g1, J⟩
  · obtain ⟨q', g1, -⟩ := R_symbol (mq := mq) (v1 := a0) ht ht1 hYt hQ'
    exact ⟨_, q', rfl, g1, J⟩
  · obtain ⟨q', g1, -⟩ := R_count (mt := (f, nI k)) (ms := ms) (my := my) (mu := mu) (me := me) (mg := mg) (mw := mw) (mf := mf) (v1 := a0) ht ht1
    exact ⟨_, q', rfl, g1, J⟩
