theorem tX0_indexOf_2b {ab : Tab} {k2 : Int64 → Int32 → Option (Int32)} {v1 : Int64} {v3 : Int32} (hk2 : ∀ b0 b1, b1 = v3 + (1 : Int32) → Cn v3 → Tot (k2 b0 b1)) : Tot (X0_indexOf_2b ab k2 v1 v3) := by
  unfold X0_indexOf_2b
  repeat' (first | with_reducible exact tt_s | with_reducible exact hk2 _ _ rfl (cn_lt (by assumption)) | with_reducible exact hk2 _ _ rfl (cn_le (by assumption) (by decide)) | with_reducible refine tt_g (inb_of8 (by assumption) (by assumption)) ?_ | with_reducible refine tt_i (fun _ => ?_) (fun _ => ?_) | with_reducible refine tt_b ?_ (fun _ => ?_) | with_reducible refine tt_l (fun _ => ?_))
theorem tX0_indexOf_2 {ab : Tab} {st : Int64 × Int32} : Tot (X0_indexOf_2 ab FU st) := by
  unfold X0_indexOf_2
  refine lp_cnt (fun st => st.2) (fun rec st hk => ?_) st
  obtain ⟨a0, a1⟩ := st
  exact tX0_indexOf_2b (fun b0 b1 h1 h2 => hk (b0, b1) h1 h2)
theorem tX0_indexOf {ab : Tab} {v1 : Int64}  : Tot (X0_indexOf ab v1) := by
  unfold X0_indexOf
  repeat' (first | with_reducible exact tt_s | with_reducible exact tX0_indexOf_2 | with_reducible refine tt_g (inb_of8 (by assumption) (by assumption)) ?_ | with_reducible refine tt_i (fun _ => ?_) (fun _ => ?_) | with_reducible refine tt_b ?_ (fun _ => ?_) | with_reducible refine tt_l (fun _ => ?_))
theorem tX1_byteAt {tp : Ttp} {v1 : Int32}  : Tot (X1_byteAt tp v1) := by
  unfold X1_byteAt
  repeat' (first | with_reducible exact tt_s | with_reducible refine tt_g (inb_of8 (by assumption) (by assumption)) ?_ | with_reducible refine tt_i (fun _ => ?_) (fun _ => ?_) | with_reducible refine tt_b ?_ (fun _ => ?_) | with_reducible refine tt_l (fun _ => ?_))
theorem tX1_uleb_86 {tp : Ttp} {cu : Tcu}  : Tot (X1_uleb_86 tp cu) := by
  unfold X1_uleb_86
  repeat' (first | with_reducible exact tt_s | with_reducible refine tt_g (inb_of8 (by assumption) (by assumption)) ?_ | with_reducible refine tt_i (fun _ => ?_) (fun _ => ?_) | with_reducible refine tt_b ?_ (fun _ => ?_) | with_reducible refine tt_l (fun _ => ?_))
theorem tX1_uleb_13b {tp : Ttp} {k13 : Tcu → Int64 → Int32 → Option (Int64 × Tcu)} {cu : Tcu} {v1 : Int64} {v3 : Int32} (hk13 : ∀ b0 b1 b2, b2 = v3 + (1 : Int32) → Cn v3 → Tot (k13 b0 b1 b2)) : Tot (X1_uleb_13b tp k13 cu v1 v3) := by
  unfold X1_uleb_13b
  repeat' (first | with_reducible exact tt_s | with_reducible exact hk13 _ _ _ rfl (cn_lt (by assumption)) | with_reducible exact hk13 _ _ _ rfl (cn_le (by assumption) (by decide)) | with_reducible exact tX1_byteAt | with_reducible exact tX1_uleb_86 | with_reducible refine tt_g (inb_of8 (by assumption) (by assumption)) ?_ | with_reducible refine tt_i (fun _ => ?_) (fun _ => ?_) | with_reducible refine tt_b ?_ (fun _ => ?_) | with_reducible refine tt_l (fun _ => ?_))
theorem tX1_uleb_13 {tp : Ttp} {st : Tcu × Int64 × Int32} : Tot (X1_uleb_13 tp FU st) := by
  unfold X1_uleb_13
  refine lp_cnt (fun st => st.2.2) (fun rec st hk => ?_) st
  obtain ⟨a0, a1, a2⟩ := st
  exact tX1_uleb_13b (fun b0 b1 b2 h1 h2 => hk (b0, b1, b2) h1 h2)
theorem tX1_uleb {tp : Ttp} {cu : Tcu}  : Tot (X1_uleb tp cu) := by
  unfold X1_uleb
  repeat' (first | with_reducible exact tt_s | with_reducible exact tX1_uleb_13 | with_reducible refine tt_g (inb_of8 (by assumption) (by assumption)) ?_ | with_reducible refine tt_i (fun _ => ?_) (fun _ => ?_) | with_reducible refine tt_b ?_ (fun _ => ?_) | with_reducible refine tt_l (fun _ => ?_))
theorem tX1_sleb_47 {tp : Ttp} {cu : Tcu} {v2 : Int64} {v4 : Int32} {z0 : Int32}  : Tot (X1_sleb_47 tp cu v2 v4 z0) := by
  unfold X1_sleb_47
  repeat' (first | with_reducible exact tt_s | with_reducible refine tt_g (inb_of8 (by assumption) (by assumption)) ?_ | with_reducible refine tt_i (fun _ => ?_) (fun _ => ?_) | with_reducible refine tt_b ?_ (fun _ => ?_) | with_reducible refine tt_l (fun _ => ?_))
theorem tX1_sleb_46 {tp : Ttp} {cu : Tcu} {v2 : Int64} {v4 : Int32}  : Tot (X1_sleb_46 tp cu v2 v4) := by
  unfold X1_sleb_46
  repeat' (first | with_reducible exact tt_s | with_reducible exact tX1_sleb_47 | with_reducible refine tt_g (inb_of8 (by assumption) (by assumption)) ?_ | with_reducible refine tt_i (fun _ => ?_) (fun _ => ?_) | with_reducible refine tt_b ?_ (fun _ => ?_) | with_reducible refine tt_l (fun _ => ?_))
theorem tX1_sleb {tp : Ttp} {cu : Tcu}  : Tot (X1_sleb tp cu) := by
  unfold X1_sleb
  repeat' (first | with_reducible exact tt_s | with_reducible exact tX1_uleb | with_reducible exact tX1_byteAt | with_reducible exact tX1_sleb_46 | with_reducible exact tX1_sleb_47 | with_reducible refine tt_g (inb_of8 (by assumption) (by assumption)) ?_ | with_reducible refine tt_i (fun _ => ?_) (fun _ => ?_) | with_reducible refine tt_b ?_ (fun _ => ?_) | with_reducible refine tt_l (fun _ => ?_))
theorem tX0_readPair_143 {tp : Ttp} {cu : Tcu} {ab : Tab} {v7 : Int32} {z0 : Int64} {z1 : Int32}  : Tot (X0_readPair_143 tp cu ab v7 z0 z1) := by
  unfold X0_readPair_143
  repeat' (first | with_reducible exact tt_s | with_reducible refine tt_g (inb_of8 (by assumption) (by assumption)) ?_ | with_reducible refine tt_i (fun _ => ?_) (fun _ => ?_) | with_reducible refine tt_b ?_ (fun _ => ?_) | with_reducible refine tt_l (fun _ => ?_))
theorem tX0_readPair_77 {tp : Ttp} {cu : Tcu} {ab : Tab} {v3 : Int64} {v5 : Int64} {v7 : Int32}  : Tot (X0_readPair_77 tp cu ab v3 v5 v7) := by
  unfold X0_readPair_77
  repeat' (first | with_reducible exact tt_s | with_reducible exact tX1_sleb | with_reducible exact tX0_readPair_143 | with_reducible refine tt_g (inb_of8 (by assumption) (by assumption)) ?_ | with_reducible refine tt_i (fun _ => ?_) (fun _ => ?_) | with_reducible refine tt_b ?_ (fun _ => ?_) | with_reducible refine tt_l (fun _ => ?_))
theorem tX0_readPair_51 {tp : Ttp} {cu : Tcu} {ab : Tab} {v2 : Int32} {v3 : Int64} {v5 : Int64}  : Tot (X0_readPair_51 tp cu ab v2 v3 v5) := by
  unfold X0_readPair_51
  repeat' (first | with_reducible exact tt_s | with_reducible exact tX0_readPair_77 | with_reducible refine tt_g (inb_of8 (by assumption) (by assumption)) ?_ | with_reducible refine tt_i (fun _ => ?_) (fun _ => ?_) | with_reducible refine tt_b ?_ (fun _ => ?_) | with_reducible refine tt_l (fun _ => ?_))
theorem tX0_readPair_45 {tp : Ttp} {cu : Tcu} {ab : Tab} {v2 : Int32} {v3 : Int64} {v5 : Int64}  : Tot (X0_readPair_45 tp cu ab v2 v3 v5) := by
  unfold X0_readPair_45
  repeat' (first | with_reducible exact tt_s | with_reducible exact tX0_readPair_51 | with_reducible refine tt_g (inb_of8 (by assumption) (by assumption)) ?_ | with_reducible refine tt_i (fun _ => ?_) (fun _ => ?_) | with_reducible refine tt_b ?_ (fun _ => ?_) | with_reducible refine tt_l (fun _ => ?_))
theorem tX0_readPair_31 {tp : Ttp} {cu : Tcu} {ab : Tab} {v2 : Int32} {v3 : Int64} {v5 : Int64}  : Tot (X0_readPair_31 tp cu ab v2 v3 v5) := by
  unfold X0_readPair_31
  repeat' (first | with_reducible exact tt_s | with_reducible exact tX0_readPair_45 | with_reducible exact tX0_readPair_51 | with_reducible refine tt_g (inb_of8 (by assumption) (by assumption)) ?_ | with_reducible refine tt_i (fun _ => ?_) (fun _ => ?_) | with_reducible refine tt_b ?_ (fun _ => ?_) | with_reducible refine tt_l (fun _ => ?_))
theorem tX0_readPair {tp : Ttp} {cu : Tcu} {ab : Tab}  : Tot (X0_readPair tp cu ab) := by
  unfold X0_readPair
  repeat' (first | with_reducible exact tt_s | with_reducible exact tX1_uleb | with_reducible exact tX0_readPair_31 | with_reducible refine tt_g (inb_of8 (by assumption) (by assumption)) ?_ | with_reducible refine tt_i (fun _ => ?_) (fun _ => ?_) | with_reducible refine tt_b ?_ (fun _ => ?_) | with_reducible refine tt_l (fun _ => ?_))
theorem tX1_numberAt_48 {tp : Ttp} {k5 : Int32 → Int32 → Int64 → Int32 → Option (Int64)} {v1 : Int32} {v2 : Int32} {v3 : Int64} {v5 : Int32} {z0 : Int64} (hk5 : ∀ b0 b1 b2 b3, b3 = v5 + (1 : Int32) → Tot (k5 b0 b1 b2 b3)) : Tot (X1_numberAt_48 tp k5 v1 v2 v3 v5 z0) := by
  unfold X1_numberAt_48
  repeat' (first | with_reducible exact tt_s | with_reducible exact hk5 _ _ _ _ rfl | with_reducible refine tt_g (inb_of8 (by assumption) (by assumption)) ?_ | with_reducible refine tt_i (fun _ => ?_) (fun _ => ?_) | with_reducible refine tt_b ?_ (fun _ => ?_) | with_reducible refine tt_l (fun _ => ?_))
theorem tX1_numberAt_47 {tp : Ttp} {k5 : Int32 → Int32 → Int64 → Int32 → Option (Int64)} {v1 : Int32} {v2 : Int32} {v3 : Int64} {v5 : Int32} (hk5 : ∀ b0 b1 b2 b3, b3 = v5 + (1 : Int32) → Tot (k5 b0 b1 b2 b3)) : Tot (X1_numberAt_47 tp k5 v1 v2 v3 v5) := by
  unfold X1_numberAt_47
  repeat' (first | with_reducible exact tt_s | with_reducible exact hk5 _ _ _ _ rfl | with_reducible exact tX1_numberAt_48 hk5 | with_reducible refine tt_g (inb_of8 (by assumption) (by assumption)) ?_ | with_reducible refine tt_i (fun _ => ?_) (fun _ => ?_) | with_reducible refine tt_b ?_ (fun _ => ?_) | with_reducible refine tt_l (fun _ => ?_))
theorem tX1_numberAt_5b {tp : Ttp} {k5 : Int32 → Int32 → Int64 → Int32 → Option (Int64)} {v1 : Int32} {v2 : Int32} {v3 : Int64} {v5 : Int32} (hk5 : ∀ b0 b1 b2 b3, b3 = v5 + (1 : Int32) → Cn v5 → Tot (k5 b0 b1 b2 b3)) : Tot (X1_numberAt_5b tp k5 v1 v2 v3 v5) := by
  unfold X1_numberAt_5b
  repeat' (first | with_reducible exact tt_s | with_reducible exact hk5 _ _ _ _ rfl (cn_lt (by assumption)) | with_reducible exact hk5 _ _ _ _ rfl (cn_le (by assumption) (by decide)) | with_reducible exact tX1_numberAt_47 (fun _ _ _ _ h9 => hk5 _ _ _ _ h9 (by first | exact cn_lt (by assumption) | exact cn_le (by assumption) (by decide))) | with_reducible exact tX1_numberAt_48 (fun _ _ _ _ h9 => hk5 _ _ _ _ h9 (by first | exact cn_lt (by assumption) | exact cn_le (by assumption) (by decide))) | with_reducible refine tt_g (inb_of8 (by assumption) (by assumption)) ?_ | with_reducible refine tt_i (fun _ => ?_) (fun _ => ?_) | with_reducible refine tt_b ?_ (fun _ => ?_) | with_reducible refine tt_l (fun _ => ?_))
theorem tX1_numberAt_5 {tp : Ttp} {st : Int32 × Int32 × Int64 × Int32} : Tot (X1_numberAt_5 tp FU st) := by
  unfold X1_numberAt_5
  refine lp_cnt (fun st => st.2.2.2) (fun rec st hk => ?_) st
  obtain ⟨a0, a1, a2, a3⟩ := st
  exact tX1_numberAt_5b (fun b0 b1 b2 b3 h1 h2 => hk (b0, b1, b2, b3) h1 h2)
theorem tX1_numberAt {tp : Ttp} {v1 : Int32} {v2 : Int32}  : Tot (X1_numberAt tp v1 v2) := by
  unfold X1_numberAt
  repeat' (first | with_reducible exact tt_s | with_reducible exact tX1_numberAt_5 | with_reducible refine tt_g (inb_of8 (by assumption) (by assumption)) ?_ | with_reducible refine tt_i (fun _ => ?_) (fun _ => ?_) | with_reducible refine tt_b ?_ (fun _ => ?_) | with_reducible refine tt_l (fun _ => ?_))
theorem tX1_number {tp : Ttp} {cu : Tcu} {v1 : Int32}  : Tot (X1_number tp cu v1) := by
  unfold X1_number
  repeat' (first | with_reducible exact tt_s | with_reducible exact tX1_numberAt | with_reducible refine tt_g (inb_of8 (by assumption) (by assumption)) ?_ | with_reducible refine tt_i (fun _ => ?_) (fun _ => ?_) | with_reducible refine tt_b ?_ (fun _ => ?_) | with_reducible refine tt_l (fun _ => ?_))
theorem tX1_numberBetween_29 {tp : Ttp} {cu : Tcu} {v2 : Int32} {v4 : Int32}  : Tot (X1_numberBetween_29 tp cu v2 v4) := by
  unfold X1_numberBetween_29
  repeat' (first | with_reducible exact tt_s | with_reducible refine tt_g (inb_of8 (by assumption) (by assumption)) ?_ | with_reducible refine tt_i (fun _ => ?_) (fun _ => ?_) | with_reducible refine tt_b ?_ (fun _ => ?_) | with_reducible refine tt_l (fun _ => ?_))
theorem tX1_numberBetween {tp : Ttp} {cu : Tcu} {v1 : Int32} {v2 : Int32} {v3 : Int32}  : Tot (X1_numberBetween tp cu v1 v2 v3) := by
  unfold X1_numberBetween
  repeat' (first | with_reducible exact tt_s | with_reducible exact tX1_number | with_reducible exact tX1_numberBetween_29 | with_reducible refine tt_g (inb_of8 (by assumption) (by assumption)) ?_ | with_reducible refine tt_i (fun _ => ?_) (fun _ => ?_) | with_reducible refine tt_b ?_ (fun _ => ?_) | with_reducible refine tt_l (fun _ => ?_))
theorem tX0_readCode_152 {tp : Ttp} {cu : Tcu} {ab : Tab}  : Tot (X0_readCode_152 tp cu ab) := by
  unfold X0_readCode_152
  repeat' (first | with_reducible exact tt_s | with_reducible refine tt_g (inb_of8 (by assumption) (by assumption)) ?_ | with_reducible refine tt_i (fun _ => ?_) (fun _ => ?_) | with_reducible refine tt_b ?_ (fun _ => ?_) | with_reducible refine tt_l (fun _ => ?_))
theorem tX0_readCode_120b {tp : Ttp} {k120 : Tcu → Tab → Int32 → Int32 → Option (Int32 × Tcu × Tab)} {cu : Tcu} {ab : Tab} {v5 : Int32} {v6 : Int32} (hk120 : ∀ b0 b1 b2 b3, b3 = v6 + (1 : Int32) → Cn v6 → Tot (k120 b0 b1 b2 b3)) : Tot (X0_readCode_120b tp k120 cu ab v5 v6) := by
  unfold X0_readCode_120b
  repeat' (first | with_reducible exact tt_s | with_reducible exact hk120 _ _ _ _ rfl (cn_lt (by assumption)) | with_reducible exact hk120 _ _ _ _ rfl (cn_le (by assumption) (by decide)) | with_reducible exact tX0_readCode_152 | with_reducible exact tX0_readPair | with_reducible refine tt_g (inb_of8 (by assumption) (by assumption)) ?_ | with_reducible refine tt_i (fun _ => ?_) (fun _ => ?_) | with_reducible refine tt_b ?_ (fun _ => ?_) | with_reducible refine tt_l (fun _ => ?_))
theorem tX0_readCode_120 {tp : Ttp} {st : Tcu × Tab × Int32 × Int32} : Tot (X0_readCode_120 tp FU st) := by
  unfold X0_readCode_120
  refine lp_cnt (fun st => st.2.2.2) (fun rec st hk => ?_) st
  obtain ⟨a0, a1, a2, a3⟩ := st
  exact tX0_readCode_120b (fun b0 b1 b2 b3 h1 h2 => hk (b0, b1, b2, b3) h1 h2)
theorem tX0_readCode_48 {tp : Ttp} {cu : Tcu} {ab : Tab} {v3 : Int64}  : Tot (X0_readCode_48 tp cu ab v3) := by
  unfold X0_readCode_48
  repeat' (first | with_reducible exact tt_s | with_reducible exact tX1_uleb | with_reducible exact tX1_numberBetween | with_reducible exact tX0_readCode_120 | with_reducible refine tt_g (inb_of8 (by assumption) (by assumption)) ?_ | with_reducible refine tt_i (fun _ => ?_) (fun _ => ?_) | with_reducible refine tt_b ?_ (fun _ => ?_) | with_reducible refine tt_l (fun _ => ?_))
theorem tX0_readCode_33 {tp : Ttp} {cu : Tcu} {ab : Tab} {v2 : Int32} {v3 : Int64}  : Tot (X0_readCode_33 tp cu ab v2 v3) := by
  unfold X0_readCode_33
  repeat' (first | with_reducible exact tt_s | with_reducible exact tX0_readCode_48 | with_reducible refine tt_g (inb_of8 (by assumption) (by assumption)) ?_ | with_reducible refine tt_i (fun _ => ?_) (fun _ => ?_) | with_reducible refine tt_b ?_ (fun _ => ?_) | with_reducible refine tt_l (fun _ => ?_))
theorem tX0_readCode {tp : Ttp} {cu : Tcu} {ab : Tab}  : Tot (X0_readCode tp cu ab) := by
  unfold X0_readCode
  repeat' (first | with_reducible exact tt_s | with_reducible exact tX1_uleb | with_reducible exact tX0_indexOf | with_reducible exact tX0_readCode_33 | with_reducible refine tt_g (inb_of8 (by assumption) (by assumption)) ?_ | with_reducible refine tt_i (fun _ => ?_) (fun _ => ?_) | with_reducible refine tt_b ?_ (fun _ => ?_) | with_reducible refine tt_l (fun _ => ?_))
theorem tX0_read_9b {tp : Ttp} {k9 : Tcu → Tab → Int32 → Int32 → Option (Tcu × Tab)} {cu : Tcu} {ab : Tab} {v2 : Int32} {v3 : Int32} (hk9 : ∀ b0 b1 b2 b3, b3 = v3 + (1 : Int32) → Cn v3 → Tot (k9 b0 b1 b2 b3)) : Tot (X0_read_9b tp k9 cu ab v2 v3) := by
  unfold X0_read_9b
  repeat' (first | with_reducible exact tt_s | with_reducible exact hk9 _ _ _ _ rfl (cn_lt (by assumption)) | with_reducible exact hk9 _ _ _ _ rfl (cn_le (by assumption) (by decide)) | with_reducible exact tX0_readCode | with_reducible refine tt_g (inb_of8 (by assumption) (by assumption)) ?_ | with_reducible refine tt_i (fun _ => ?_) (fun _ => ?_) | with_reducible refine tt_b ?_ (fun _ => ?_) | with_reducible refine tt_l (fun _ => ?_))
theorem tX0_read_9 {tp : Ttp} {st : Tcu × Tab × Int32 × Int32} : Tot (X0_read_9 tp FU st) := by
  unfold X0_read_9
  refine lp_cnt (fun st => st.2.2.2) (fun rec st hk => ?_) st
  obtain ⟨a0, a1, a2, a3⟩ := st
  exact tX0_read_9b (fun b0 b1 b2 b3 h1 h2 => hk (b0, b1, b2, b3) h1 h2)
theorem tX0_read {tp : Ttp} {cu : Tcu} {ab : Tab}  : Tot (X0_read tp cu ab) := by
  unfold X0_read
  repeat' (first | with_reducible exact tt_s | with_reducible exact tX0_read_9 | with_reducible refine tt_g (inb_of8 (by assumption) (by assumption)) ?_ | with_reducible refine tt_i (fun _ => ?_) (fun _ => ?_) | with_reducible refine tt_b ?_ (fun _ => ?_) | with_reducible refine tt_l (fun _ => ?_))
theorem tX1_expectUleb {tp : Ttp} {cu : Tcu} {v1 : Int64}  : Tot (X1_expectUleb tp cu v1) := by
  unfold X1_expectUleb
  repeat' (first | with_reducible exact tt_s | with_reducible exact tX1_uleb | with_reducible refine tt_g (inb_of8 (by assumption) (by assumption)) ?_ | with_reducible refine tt_i (fun _ => ?_) (fun _ => ?_) | with_reducible refine tt_b ?_ (fun _ => ?_) | with_reducible refine tt_l (fun _ => ?_))
theorem tX1_textLength_33 {tp : Ttp} {k2 : Int32 → Int32 → Int32 → Option (Int32)} {v1 : Int32} {v2 : Int32} {v3 : Int32} (hk2 : ∀ b0 b1 b2, b2 = v3 + (1 : Int32) → Tot (k2 b0 b1 b2)) : Tot (X1_textLength_33 tp k2 v1 v2 v3) := by
  unfold X1_textLength_33
  repeat' (first | with_reducible exact tt_s | with_reducible exact hk2 _ _ _ rfl | with_reducible refine tt_g (inb_of8 (by assumption) (by assumption)) ?_ | with_reducible refine tt_i (fun _ => ?_) (fun _ => ?_) | with_reducible refine tt_b ?_ (fun _ => ?_) | with_reducible refine tt_l (fun _ => ?_))
theorem tX1_textLength_2b {tp : Ttp} {k2 : Int32 → Int32 → Int32 → Option (Int32)} {v1 : Int32} {v2 : Int32} {v3 : Int32} (hk2 : ∀ b0 b1 b2, b2 = v3 + (1 : Int32) → Cn v3 → Tot (k2 b0 b1 b2)) : Tot (X1_textLength_2b tp k2 v1 v2 v3) := by
  unfold X1_textLength_2b
  repeat' (first | with_reducible exact tt_s | with_reducible exact hk2 _ _ _ rfl (cn_lt (by assumption)) | with_reducible exact hk2 _ _ _ rfl (cn_le (by assumption) (by decide)) | with_reducible exact tX1_textLength_33 (fun _ _ _ h9 => hk2 _ _ _ h9 (by first | exact cn_lt (by assumption) | exact cn_le (by assumption) (by decide))) | with_reducible refine tt_g (inb_of8 (by assumption) (by assumption)) ?_ | with_reducible refine tt_i (fun _ => ?_) (fun _ => ?_) | with_reducible refine tt_b ?_ (fun _ => ?_) | with_reducible refine tt_l (fun _ => ?_))
theorem tX1_textLength_2 {tp : Ttp} {st : Int32 × Int32 × Int32} : Tot (X1_textLength_2 tp FU st) := by
  unfold X1_textLength_2
  refine lp_cnt (fun st => st.2.2) (fun rec st hk => ?_) st
  obtain ⟨a0, a1, a2⟩ := st
  exact tX1_textLength_2b (fun b0 b1 b2 h1 h2 => hk (b0, b1, b2) h1 h2)
theorem tX1_textLength {tp : Ttp} {v1 : Int32} {v2 : Int32}  : Tot (X1_textLength tp v1 v2) := by
  unfold X1_textLength
  repeat' (first | with_reducible exact tt_s | with_reducible exact tX1_textLength_2 | with_reducible refine tt_g (inb_of8 (by assumption) (by assumption)) ?_ | with_reducible refine tt_i (fun _ => ?_) (fun _ => ?_) | with_reducible refine tt_b ?_ (fun _ => ?_) | with_reducible refine tt_l (fun _ => ?_))
theorem tX1_text {tp : Ttp} {cu : Tcu}  : Tot (X1_text tp cu) := by
  unfold X1_text
  repeat' (first | with_reducible exact tt_s | with_reducible exact tX1_textLength | with_reducible refine tt_g (inb_of8 (by assumption) (by assumption)) ?_ | with_reducible refine tt_i (fun _ => ?_) (fun _ => ?_) | with_reducible refine tt_b ?_ (fun _ => ?_) | with_reducible refine tt_l (fun _ => ?_))
theorem tX1_toldText_15 {tp : Ttp} {cu : Tcu} {v5 : Int32}  : Tot (X1_toldText_15 tp cu v5) := by
  unfold X1_toldText_15
  repeat' (first | with_reducible exact tt_s | with_reducible refine tt_g (inb_of8 (by assumption) (by assumption)) ?_ | with_reducible refine tt_i (fun _ => ?_) (fun _ => ?_) | with_reducible refine tt_b ?_ (fun _ => ?_) | with_reducible refine tt_l (fun _ => ?_))
theorem tX1_toldText {tp : Ttp} {cu : Tcu} {v1 : Int32} {v2 : Int32} {v3 : Int64} {v5 : Int32}  : Tot (X1_toldText tp cu v1 v2 v3 v5) := by
  unfold X1_toldText
  repeat' (first | with_reducible exact tt_s | with_reducible exact tX1_toldText_15 | with_reducible exact tX1_textLength | with_reducible refine tt_g (inb_of8 (by assumption) (by assumption)) ?_ | with_reducible refine tt_i (fun _ => ?_) (fun _ => ?_) | with_reducible refine tt_b ?_ (fun _ => ?_) | with_reducible refine tt_l (fun _ => ?_))
theorem tX1_isText_13 {tp : Ttp} {k : Nat} {v1 : Int32} : Tot (X1_isText_13 tp k FU (v1, (0 : Int32))) := by
  unfold X1_isText_13
  refine tq_t (Q := fun _ => True) (lp_cntQ (fun st => st.2) (fun st => ¬ st.2 < 0) (fun rec st hP hk => ?_) FU (v1, 0) (show ¬ (0 : Int32) < 0 by decide) (FU_ok _))
  obtain ⟨a, v⟩ := st
  have hP : ¬ v < 0 := hP
  show TQ (X1_isText_13b tp k (fun a0 a1 => rec (a0, a1)) a v) _
  unfold X1_isText_13b
  refine tq_i (fun c1 => ?_) (fun _ => tq_s trivial)
  obtain ⟨q, hq⟩ := (tX1_byteAt : Tot (X1_byteAt tp (a + v)))
  rw [hq, Option.bind_some]
  exact tq_g (decide_eq_true ⟨hP, c1⟩) (tq_i (fun c2 => hk (a, v + 1) (cn_0 (cn_lt c1) hP) rfl (cn_lt c1)) (fun _ => tq_s trivial))
theorem tX1_isText {tp : Ttp} {k : Nat} {v1 : Int32} {v2 : Int32}  : Tot (X1_isText tp k v1 v2) := by
  unfold X1_isText
  repeat' (first | with_reducible exact tt_s | with_reducible exact tX1_isText_13 | with_reducible refine tt_g (inb_of8 (by assumption) (by assumption)) ?_ | with_reducible refine tt_i (fun _ => ?_) (fun _ => ?_) | with_reducible refine tt_b ?_ (fun _ => ?_) | with_reducible refine tt_l (fun _ => ?_))
theorem tX1_enterCounted {tp : Ttp} {cu : Tcu}  : Tot (X1_enterCounted tp cu) := by
  unfold X1_enterCounted
  repeat' (first | with_reducible exact tt_s | with_reducible exact tX1_number | with_reducible refine tt_g (inb_of8 (by assumption) (by assumption)) ?_ | with_reducible refine tt_i (fun _ => ?_) (fun _ => ?_) | with_reducible refine tt_b ?_ (fun _ => ?_) | with_reducible refine tt_l (fun _ => ?_))
theorem tX2_placedAt_80 {en : Ten} {k14 : Int64 → Int32 → Int32 → Int32 → Option (Int32)} {v1 : Int64} {v4 : Int32} {v5 : Int32} {v6 : Int32} (hk14 : ∀ b0 b1 b2 b3, b3 = v6 + (1 : Int32) → Tot (k14 b0 b1 b2 b3)) : Tot (X2_placedAt_80 en k14 v1 v4 v5 v6) := by
  unfold X2_placedAt_80
  repeat' (first | with_reducible exact tt_s | with_reducible exact hk14 _ _ _ _ rfl | with_reducible refine tt_g (inb_of8 (by assumption) (by assumption)) ?_ | with_reducible refine tt_i (fun _ => ?_) (fun _ => ?_) | with_reducible refine tt_b ?_ (fun _ => ?_) | with_reducible refine tt_l (fun _ => ?_))
theorem tX2_placedAt_14b {en : Ten} {k14 : Int64 → Int32 → Int32 → Int32 → Option (Int32)} {v1 : Int64} {v4 : Int32} {v5 : Int32} {v6 : Int32} (hk14 : ∀ b0 b1 b2 b3, b3 = v6 + (1 : Int32) → Cn v6 → Tot (k14 b0 b1 b2 b3)) : Tot (X2_placedAt_14b en k14 v1 v4 v5 v6) := by
  unfold X2_placedAt_14b
  repeat' (first | with_reducible exact tt_s | with_reducible exact hk14 _ _ _ _ rfl (cn_lt (by assumption)) | with_reducible exact hk14 _ _ _ _ rfl (cn_le (by assumption) (by decide)) | with_reducible exact tX2_placedAt_80 (fun _ _ _ _ h9 => hk14 _ _ _ _ h9 (by first | exact cn_lt (by assumption) | exact cn_le (by assumption) (by decide))) | with_reducible refine tt_g (inb_of8 (by assumption) (by assumption)) ?_ | with_reducible refine tt_i (fun _ => ?_) (fun _ => ?_) | with_reducible refine tt_b ?_ (fun _ => ?_) | with_reducible refine tt_l (fun _ => ?_))
theorem tX2_placedAt_14 {en : Ten} {st : Int64 × Int32 × Int32 × Int32} : Tot (X2_placedAt_14 en FU st) := by
  unfold X2_placedAt_14
  refine lp_cnt (fun st => st.2.2.2) (fun rec st hk => ?_) st
  obtain ⟨a0, a1, a2, a3⟩ := st
  exact tX2_placedAt_14b (fun b0 b1 b2 b3 h1 h2 => hk (b0, b1, b2, b3) h1 h2)
theorem tX2_placedAt {en : Ten} {v1 : Int64} {v3 : Int32}  : Tot (X2_placedAt en v1 v3) := by
  unfold X2_placedAt
  repeat' (first | with_reducible exact tt_s | with_reducible exact tX2_placedAt_14 | with_reducible refine tt_g (inb_of8 (by assumption) (by assumption)) ?_ | with_reducible refine tt_i (fun _ => ?_) (fun _ => ?_) | with_reducible refine tt_b ?_ (fun _ => ?_) | with_reducible refine tt_l (fun _ => ?_))
theorem tX2_settleOrigin_40 {en : Ten} {z0 : Int32} {z1 : Int32}  : Tot (X2_settleOrigin_40 en z0 z1) := by
  unfold X2_settleOrigin_40
  repeat' (first | with_reducible exact tt_s | with_reducible refine tt_g (inb_of8 (by assumption) (by assumption)) ?_ | with_reducible refine tt_i (fun _ => ?_) (fun _ => ?_) | with_reducible refine tt_b ?_ (fun _ => ?_) | with_reducible refine tt_l (fun _ => ?_))
theorem tX2_settleOrigin {en : Ten} {v1 : Int32} {v2 : Int32}  : Tot (X2_settleOrigin en v1 v2) := by
  unfold X2_settleOrigin
  repeat' (first | with_reducible exact tt_s | with_reducible exact tX2_settleOrigin_40 | with_reducible exact tX2_placedAt | with_reducible refine tt_g (inb_of8 (by assumption) (by assumption)) ?_ | with_reducible refine tt_i (fun _ => ?_) (fun _ => ?_) | with_reducible refine tt_b ?_ (fun _ => ?_) | with_reducible refine tt_l (fun _ => ?_))
theorem tX2_namedFor_4b {en : Ten} {k4 : Int32 → Int32 → Option (Int32)} {v2 : Int32} {v3 : Int32} (hk4 : ∀ b0 b1, b1 = v3 + (1 : Int32) → Cn v3 → Tot (k4 b0 b1)) : Tot (X2_namedFor_4b en k4 v2 v3) := by
  unfold X2_namedFor_4b
  repeat' (first | with_reducible exact tt_s | with_reducible exact hk4 _ _ rfl (cn_lt (by assumption)) | with_reducible exact hk4 _ _ rfl (cn_le (by assumption) (by decide)) | with_reducible refine tt_g (inb_of8 (by assumption) (by assumption)) ?_ | with_reducible refine tt_i (fun _ => ?_) (fun _ => ?_) | with_reducible refine tt_b ?_ (fun _ => ?_) | with_reducible refine tt_l (fun _ => ?_))
theorem tX2_namedFor_4 {en : Ten} {st : Int32 × Int32} : Tot (X2_namedFor_4 en FU st) := by
  unfold X2_namedFor_4
  refine lp_cnt (fun st => st.2) (fun rec st hk => ?_) st
  obtain ⟨a0, a1⟩ := st
  exact tX2_namedFor_4b (fun b0 b1 h1 h2 => hk (b0, b1) h1 h2)
theorem tX2_namedFor {en : Ten} {v1 : Int32}  : Tot (X2_namedFor en v1) := by
  unfold X2_namedFor
  repeat' (first | with_reducible exact tt_s | with_reducible exact tX2_namedFor_4 | with_reducible refine tt_g (inb_of8 (by assumption) (by assumption)) ?_ | with_reducible refine tt_i (fun _ => ?_) (fun _ => ?_) | with_reducible refine tt_b ?_ (fun _ => ?_) | with_reducible refine tt_l (fun _ => ?_))
theorem tzX6_oneHolds {ra : Tra} {v1 v2 : Int32} {v3 : Int64} : TQ (X6_oneHolds ra v1 v2 v3) (fun q => bz q = true) := by
  unfold X6_oneHolds X6_oneHolds_3
  refine lp_cntQ (fun st => st.2.2.2) (fun _ => True) (fun rec st _ hk => ?_) FU (v1, v2, v3, v1) trivial (FU_ok _)
  obtain ⟨a0, a1, a2, a3⟩ := st
  show TQ (X6_oneHolds_3b ra (fun a0 a1 a2 a3 => rec (a0, a1, a2, a3)) a0 a1 a2 a3) _
  unfold X6_oneHolds_3b X6_oneHolds_50
  refine tq_i (fun c1 => ?_) (fun _ => tq_s (by decide))
  refine tq_i (fun c2 => ?_) (fun _ => tq_s (by decide))
  refine tq_i (fun c3 => hk (a0, a1, a2, a3 + 1) trivial rfl (cn_lt c1)) (fun c3 => ?_)
  exact tq_i (fun c4 => tq_s (by decide)) (fun c4 => hk (a0, a1, a2, a3 + 1) trivial rfl (cn_lt c1))
theorem tX6_oneHolds {ra : Tra} {v1 v2 : Int32} {v3 : Int64} : Tot (X6_oneHolds ra v1 v2 v3) := tq_t tzX6_oneHolds
theorem tzX3_entryHolds {en : Ten} {ra : Tra} {v1 : Int32} {v2 : Int64} : TQ (X3_entryHolds en ra v1 v2) (fun q => bz q = true) := by
  unfold X3_entryHolds
  refine tq_i (fun _ => tq_s (by decide)) (fun _ => ?_)
  exact tq_b tzX6_oneHolds (fun q h => tq_g h (tq_s h))
theorem tX3_entryHolds {en : Ten} {ra : Tra} {v1 : Int32} {v2 : Int64} : Tot (X3_entryHolds en ra v1 v2) := tq_t tzX3_entryHolds
theorem tX3_functionHolding_46 {en : Ten} {ra : Tra} {k2 : Int64 → Int32 → Option (Int32)} {v1 : Int64} {v3 : Int32} (hk2 : ∀ b0 b1, b1 = v3 + (1 : Int32) → Tot (k2 b0 b1)) : Tot (X3_functionHolding_46 en ra k2 v1 v3) := by
  unfold X3_functionHolding_46
  repeat' (first | with_reducible exact tt_s | with_reducible exact hk2 _ _ rfl | with_reducible refine tt_g (inb_of8 (by assumption) (by assumption)) ?_ | with_reducible refine tt_i (fun _ => ?_) (fun _ => ?_) | with_reducible refine tt_b ?_ (fun _ => ?_) | with_reducible refine tt_l (fun _ => ?_))
theorem tX3_functionHolding_2b {en : Ten} {ra : Tra} {k2 : Int64 → Int32 → Option (Int32)} {v1 : Int64} {v3 : Int32} (hk2 : ∀ b0 b1, b1 = v3 + (1 : Int32) → Cn v3 → Tot (k2 b0 b1)) : Tot (X3_functionHolding_2b en ra k2 v1 v3) := by
  unfold X3_functionHolding_2b
  repeat' (first | with_reducible exact tt_s | with_reducible exact hk2 _ _ rfl (cn_lt (by assumption)) | with_reducible exact hk2 _ _ rfl (cn_le (by assumption) (by decide)) | with_reducible exact tX3_entryHolds | with_reducible exact tX3_functionHolding_46 (fun _ _ h9 => hk2 _ _ h9 (by first | exact cn_lt (by assumption) | exact cn_le (by assumption) (by decide))) | with_reducible refine tt_g (inb_of8 (by assumption) (by assumption)) ?_ | with_reducible refine tt_i (fun _ => ?_) (fun _ => ?_) | with_reducible refine tt_b ?_ (fun _ => ?_) | with_reducible refine tt_l (fun _ => ?_))
theorem tX3_functionHolding_2 {en : Ten} {ra : Tra} {st : Int64 × Int32} : Tot (X3_functionHolding_2 en ra FU st) := by
  unfold X3_functionHolding_2
  refine lp_cnt (fun st => st.2) (fun rec st hk => ?_) st
  obtain ⟨a0, a1⟩ := st
  exact tX3_functionHolding_2b (fun b0 b1 h1 h2 => hk (b0, b1) h1 h2)
theorem tX3_functionHolding {en : Ten} {ra : Tra} {v1 : Int64}  : Tot (X3_functionHolding en ra v1) := by
  unfold X3_functionHolding
  repeat' (first | with_reducible exact tt_s | with_reducible exact tX3_functionHolding_2 | with_reducible refine tt_g (inb_of8 (by assumption) (by assumption)) ?_ | with_reducible refine tt_i (fun _ => ?_) (fun _ => ?_) | with_reducible refine tt_b ?_ (fun _ => ?_) | with_reducible refine tt_l (fun _ => ?_))
theorem tX3_childHolding_92 {en : Ten} {ra : Tra} {k5 : Int32 → Int64 → Int32 → Option (Int32)} {v1 : Int32} {v2 : Int64} {v4 : Int32} (hk5 : ∀ b0 b1 b2, b2 = v4 + (1 : Int32) → Tot (k5 b0 b1 b2)) : Tot (X3_childHolding_92 en ra k5 v1 v2 v4) := by
  unfold X3_childHolding_92
  repeat' (first | with_reducible exact tt_s | with_reducible exact hk5 _ _ _ rfl | with_reducible refine tt_g (inb_of8 (by assumption) (by assumption)) ?_ | with_reducible refine tt_i (fun _ => ?_) (fun _ => ?_) | with_reducible refine tt_b ?_ (fun _ => ?_) | with_reducible refine tt_l (fun _ => ?_))
theorem tX3_childHolding_59 {en : Ten} {ra : Tra} {k5 : Int32 → Int64 → Int32 → Option (Int32)} {v1 : Int32} {v2 : Int64} {v4 : Int32} {z0 : Int32} (hk5 : ∀ b0 b1 b2, b2 = v4 + (1 : Int32) → Tot (k5 b0 b1 b2)) : Tot (X3_childHolding_59 en ra k5 v1 v2 v4 z0) := by
  unfold X3_childHolding_59
  repeat' (first | with_reducible exact tt_s | with_reducible exact hk5 _ _ _ rfl | with_reducible exact tX3_childHolding_92 hk5 | with_reducible exact tX3_entryHolds | with_reducible refine tt_g (inb_of8 (by assumption) (by assumption)) ?_ | with_reducible refine tt_i (fun _ => ?_) (fun _ => ?_) | with_reducible refine tt_b ?_ (fun _ => ?_) | with_reducible refine tt_l (fun _ => ?_))
theorem tX3_childHolding_54 {en : Ten} {ra : Tra} {k5 : Int32 → Int64 → Int32 → Option (Int32)} {v1 : Int32} {v2 : Int64} {v4 : Int32} (hk5 : ∀ b0 b1 b2, b2 = v4 + (1 : Int32) → Tot (k5 b0 b1 b2)) : Tot (X3_childHolding_54 en ra k5 v1 v2 v4) := by
  unfold X3_childHolding_54
  repeat' (first | with_reducible exact tt_s | with_reducible exact hk5 _ _ _ rfl | with_reducible exact tX3_childHolding_59 hk5 | with_reducible refine tt_g (inb_of8 (by assumption) (by assumption)) ?_ | with_reducible refine tt_i (fun _ => ?_) (fun _ => ?_) | with_reducible refine tt_b ?_ (fun _ => ?_) | with_reducible refine tt_l (fun _ => ?_))
theorem tX3_childHolding_5b {en : Ten} {ra : Tra} {k5 : Int32 → Int64 → Int32 → Option (Int32)} {v1 : Int32} {v2 : Int64} {v4 : Int32} (hk5 : ∀ b0 b1 b2, b2 = v4 + (1 : Int32) → Cn v4 → Tot (k5 b0 b1 b2)) : Tot (X3_childHolding_5b en ra k5 v1 v2 v4) := by
  unfold X3_childHolding_5b
  repeat' (first | with_reducible exact tt_s | with_reducible exact hk5 _ _ _ rfl (cn_lt (by assumption)) | with_reducible exact hk5 _ _ _ rfl (cn_le (by assumption) (by decide)) | with_reducible exact tX3_childHolding_54 (fun _ _ _ h9 => hk5 _ _ _ h9 (by first | exact cn_lt (by assumption) | exact cn_le (by assumption) (by decide))) | with_reducible exact tX3_childHolding_59 (fun _ _ _ h9 => hk5 _ _ _ h9 (by first | exact cn_lt (by assumption) | exact cn_le (by assumption) (by decide))) | with_reducible refine tt_g (inb_of8 (by assumption) (by assumption)) ?_ | with_reducible refine tt_i (fun _ => ?_) (fun _ => ?_) | with_reducible refine tt_b ?_ (fun _ => ?_) | with_reducible refine tt_l (fun _ => ?_))
theorem tX3_childHolding_5 {en : Ten} {ra : Tra} {st : Int32 × Int64 × Int32} : Tot (X3_childHolding_5 en ra FU st) := by
  unfold X3_childHolding_5
  refine lp_cnt (fun st => st.2.2) (fun rec st hk => ?_) st
  obtain ⟨a0, a1, a2⟩ := st
  exact tX3_childHolding_5b (fun b0 b1 b2 h1 h2 => hk (b0, b1, b2) h1 h2)
theorem tX3_childHolding {en : Ten} {ra : Tra} {v1 : Int32} {v2 : Int64}  : Tot (X3_childHolding en ra v1 v2) := by
  unfold X3_childHolding
  repeat' (first | with_reducible exact tt_s | with_reducible exact tX3_childHolding_5 | with_reducible refine tt_g (inb_of8 (by assumption) (by assumption)) ?_ | with_reducible refine tt_i (fun _ => ?_) (fun _ => ?_) | with_reducible refine tt_b ?_ (fun _ => ?_) | with_reducible refine tt_l (fun _ => ?_))
theorem tX4_readDirectories_50 {tp : Ttp} {k28 : Tcu → Int64 → Int32 → Option (Int64 × Tcu)} {cu : Tcu} {v2 : Int64} {v4 : Int32} (hk28 : ∀ b0 b1 b2, b2 = v4 + (1 : Int32) → Tot (k28 b0 b1 b2)) : Tot (X4_readDirectories_50 tp k28 cu v2 v4) := by
  unfold X4_readDirectories_50
  repeat' (first | with_reducible exact tt_s | with_reducible exact hk28 _ _ _ rfl | with_reducible exact tX1_text | with_reducible refine tt_g (inb_of8 (by assumption) (by assumption)) ?_ | with_reducible refine tt_i (fun _ => ?_) (fun _ => ?_) | with_reducible refine tt_b ?_ (fun _ => ?_) | with_reducible refine tt_l (fun _ => ?_))
theorem tX4_readDirectories_28b {tp : Ttp} {k28 : Tcu → Int64 → Int32 → Option (Int64 × Tcu)} {cu : Tcu} {v2 : Int64} {v4 : Int32} (hk28 : ∀ b0 b1 b2, b2 = v4 + (1 : Int32) → Cn v4 → Tot (k28 b0 b1 b2)) : Tot (X4_readDirectories_28b tp k28 cu v2 v4) := by
  unfold X4_readDirectories_28b
  repeat' (first | with_reducible exact tt_s | with_reducible exact hk28 _ _ _ rfl (cn_lt (by assumption)) | with_reducible exact hk28 _ _ _ rfl (cn_le (by assumption) (by decide)) | with_reducible exact tX4_readDirectories_50 (fun _ _ _ h9 => hk28 _ _ _ h9 (by first | exact cn_lt (by assumption) | exact cn_le (by assumption) (by decide))) | with_reducible refine tt_g (inb_of8 (by assumption) (by assumption)) ?_ | with_reducible refine tt_i (fun _ => ?_) (fun _ => ?_) | with_reducible refine tt_b ?_ (fun _ => ?_) | with_reducible refine tt_l (fun _ => ?_))
theorem tX4_readDirectories_28 {tp : Ttp} {st : Tcu × Int64 × Int32} : Tot (X4_readDirectories_28 tp FU st) := by
  unfold X4_readDirectories_28
  refine lp_cnt (fun st => st.2.2) (fun rec st hk => ?_) st
  obtain ⟨a0, a1, a2⟩ := st
  exact tX4_readDirectories_28b (fun b0 b1 b2 h1 h2 => hk (b0, b1, b2) h1 h2)
theorem tX4_readDirectories {tp : Ttp} {cu : Tcu}  : Tot (X4_readDirectories tp cu) := by
  unfold X4_readDirectories
  repeat' (first | with_reducible exact tt_s | with_reducible exact tX1_numberBetween | with_reducible exact tX1_expectUleb | with_reducible exact tX1_uleb | with_reducible exact tX4_readDirectories_28 | with_reducible refine tt_g (inb_of8 (by assumption) (by assumption)) ?_ | with_reducible refine tt_i (fun _ => ?_) (fun _ => ?_) | with_reducible refine tt_b ?_ (fun _ => ?_) | with_reducible refine tt_l (fun _ => ?_))
theorem tX4_readFiles_147 {tp : Ttp} {li : Tli} {k85 : Tcu → Tun → Int64 → Int64 → Int32 → Option (Tcu × Tun)} {cu : Tcu} {un : Tun} {v3 : Int64} {v6 : Int64} {v8 : Int32} {v9 : Int32} {v10 : Int32} (hk85 : ∀ b0 b1 b2 b3 b4, b4 = v8 + (1 : Int32) → Tot (k85 b0 b1 b2 b3 b4)) : Tot (X4_readFiles_147 tp li k85 cu un v3 v6 v8 v9 v10) := by
  unfold X4_readFiles_147
  repeat' (first | with_reducible exact tt_s | with_reducible exact hk85 _ _ _ _ _ rfl | with_reducible refine tt_g (inb_of8 (by assumption) (by assumption)) ?_ | with_reducible refine tt_i (fun _ => ?_) (fun _ => ?_) | with_reducible refine tt_b ?_ (fun _ => ?_) | with_reducible refine tt_l (fun _ => ?_))
theorem tX4_readFiles_140 {tp : Ttp} {li : Tli} {k85 : Tcu → Tun → Int64 → Int64 → Int32 → Option (Tcu × Tun)} {cu : Tcu} {un : Tun} {v3 : Int64} {v6 : Int64} {v8 : Int32} {v9 : Int32} {v10 : Int32} (hk85 : ∀ b0 b1 b2 b3 b4, b4 = v8 + (1 : Int32) → Tot (k85 b0 b1 b2 b3 b4)) : Tot (X4_readFiles_140 tp li k85 cu un v3 v6 v8 v9 v10) := by
  unfold X4_readFiles_140
  repeat' (first | with_reducible exact tt_s | with_reducible exact hk85 _ _ _ _ _ rfl | with_reducible exact tX4_readFiles_147 hk85 | with_reducible refine tt_g (inb_of8 (by assumption) (by assumption)) ?_ | with_reducible refine tt_i (fun _ => ?_) (fun _ => ?_) | with_reducible refine tt_b ?_ (fun _ => ?_) | with_reducible refine tt_l (fun _ => ?_))
theorem tX4_readFiles_85b {tp : Ttp} {li : Tli} {k85 : Tcu → Tun → Int64 → Int64 → Int32 → Option (Tcu × Tun)} {cu : Tcu} {un : Tun} {v3 : Int64} {v6 : Int64} {v8 : Int32} (hk85 : ∀ b0 b1 b2 b3 b4, b4 = v8 + (1 : Int32) → Cn v8 → Tot (k85 b0 b1 b2 b3 b4)) : Tot (X4_readFiles_85b tp li k85 cu un v3 v6 v8) := by
  unfold X4_readFiles_85b
  repeat' (first | with_reducible exact tt_s | with_reducible exact hk85 _ _ _ _ _ rfl (cn_lt (by assumption)) | with_reducible exact hk85 _ _ _ _ _ rfl (cn_le (by assumption) (by decide)) | with_reducible exact tX1_text | with_reducible exact tX1_uleb | with_reducible exact tX4_readFiles_140 (fun _ _ _ _ _ h9 => hk85 _ _ _ _ _ h9 (by first | exact cn_lt (by assumption) | exact cn_le (by assumption) (by decide))) | with_reducible exact tX4_readFiles_147 (fun _ _ _ _ _ h9 => hk85 _ _ _ _ _ h9 (by first | exact cn_lt (by assumption) | exact cn_le (by assumption) (by decide))) | with_reducible refine tt_g (inb_of8 (by assumption) (by assumption)) ?_ | with_reducible refine tt_i (fun _ => ?_) (fun _ => ?_) | with_reducible refine tt_b ?_ (fun _ => ?_) | with_reducible refine tt_l (fun _ => ?_))
theorem tX4_readFiles_85 {tp : Ttp} {li : Tli} {st : Tcu × Tun × Int64 × Int64 × Int32} : Tot (X4_readFiles_85 tp li FU st) := by
  unfold X4_readFiles_85
  refine lp_cnt (fun st => st.2.2.2.2) (fun rec st hk => ?_) st
  obtain ⟨a0, a1, a2, a3, a4⟩ := st
  exact tX4_readFiles_85b (fun b0 b1 b2 b3 b4 h1 h2 => hk (b0, b1, b2, b3, b4) h1 h2)
theorem tX4_readFiles_74 {tp : Ttp} {li : Tli} {cu : Tcu} {un : Tun} {v3 : Int64} {v6 : Int64}  : Tot (X4_readFiles_74 tp li cu un v3 v6) := by
  unfold X4_readFiles_74
  repeat' (first | with_reducible exact tt_s | with_reducible exact tX4_readFiles_85 | with_reducible refine tt_g (inb_of8 (by assumption) (by assumption)) ?_ | with_reducible refine tt_i (fun _ => ?_) (fun _ => ?_) | with_reducible refine tt_b ?_ (fun _ => ?_) | with_reducible refine tt_l (fun _ => ?_))
theorem tX4_readFiles_67 {tp : Ttp} {li : Tli} {cu : Tcu} {un : Tun} {v3 : Int64} {v5 : Int32} {v6 : Int64}  : Tot (X4_readFiles_67 tp li cu un v3 v5 v6) := by
  unfold X4_readFiles_67
  repeat' (first | with_reducible exact tt_s | with_reducible exact tX4_readFiles_74 | with_reducible refine tt_g (inb_of8 (by assumption) (by assumption)) ?_ | with_reducible refine tt_i (fun _ => ?_) (fun _ => ?_) | with_reducible refine tt_b ?_ (fun _ => ?_) | with_reducible refine tt_l (fun _ => ?_))
theorem tX4_readFiles {tp : Ttp} {cu : Tcu} {un : Tun} {li : Tli} {v3 : Int64}  : Tot (X4_readFiles tp cu un li v3) := by
  unfold X4_readFiles
  repeat' (first | with_reducible exact tt_s | with_reducible exact tX1_numberBetween | with_reducible exact tX1_expectUleb | with_reducible exact tX1_uleb | with_reducible exact tX4_readFiles_67 | with_reducible exact tX4_readFiles_74 | with_reducible refine tt_g (inb_of8 (by assumption) (by assumption)) ?_ | with_reducible refine tt_i (fun _ => ?_) (fun _ => ?_) | with_reducible refine tt_b ?_ (fun _ => ?_) | with_reducible refine tt_l (fun _ => ?_))
theorem tX4_readHead_73 {tp : Ttp} {cu : Tcu} {li : Tli}  : Tot (X4_readHead_73 tp cu li) := by
  unfold X4_readHead_73
  repeat' (first | with_reducible exact tt_s | with_reducible exact tX1_number | with_reducible exact tX1_numberBetween | with_reducible refine tt_g (inb_of8 (by assumption) (by assumption)) ?_ | with_reducible refine tt_i (fun _ => ?_) (fun _ => ?_) | with_reducible refine tt_b ?_ (fun _ => ?_) | with_reducible refine tt_l (fun _ => ?_))
theorem tX4_readHead {tp : Ttp} {cu : Tcu} {li : Tli}  : Tot (X4_readHead tp cu li) := by
  unfold X4_readHead
  repeat' (first | with_reducible exact tt_s | with_reducible exact tX1_numberBetween | with_reducible exact tX1_number | with_reducible exact tX4_readHead_73 | with_reducible refine tt_g (inb_of8 (by assumption) (by assumption)) ?_ | with_reducible refine tt_i (fun _ => ?_) (fun _ => ?_) | with_reducible refine tt_b ?_ (fun _ => ?_) | with_reducible refine tt_l (fun _ => ?_))
theorem tX4_readOperands_67 {tp : Ttp} {k2 : Tcu → Tli → Int32 → Option (Tcu × Tli)} {cu : Tcu} {li : Tli} {v2 : Int32} (hk2 : ∀ b0 b1 b2, b2 = v2 + (1 : Int32) → Tot (k2 b0 b1 b2)) : Tot (X4_readOperands_67 tp k2 cu li v2) := by
  unfold X4_readOperands_67
  repeat' (first | with_reducible exact tt_s | with_reducible exact hk2 _ _ _ rfl | with_reducible refine tt_g (inb_of8 (by assumption) (by assumption)) ?_ | with_reducible refine tt_i (fun _ => ?_) (fun _ => ?_) | with_reducible refine tt_b ?_ (fun _ => ?_) | with_reducible refine tt_l (fun _ => ?_))
theorem tX4_readOperands_2b {tp : Ttp} {k2 : Tcu → Tli → Int32 → Option (Tcu × Tli)} {cu : Tcu} {li : Tli} {v2 : Int32} (hk2 : ∀ b0 b1 b2, b2 = v2 + (1 : Int32) → Cn v2 → Tot (k2 b0 b1 b2)) : Tot (X4_readOperands_2b tp k2 cu li v2) := by
  unfold X4_readOperands_2b
  repeat' (first | with_reducible exact tt_s | with_reducible exact hk2 _ _ _ rfl (cn_lt (by assumption)) | with_reducible exact hk2 _ _ _ rfl (cn_le (by assumption) (by decide)) | with_reducible exact tX1_number | with_reducible exact tX4_readOperands_67 (fun _ _ _ h9 => hk2 _ _ _ h9 (by first | exact cn_lt (by assumption) | exact cn_le (by assumption) (by decide))) | with_reducible exact tX1_numberBetween | with_reducible refine tt_g (inb_of8 (by assumption) (by assumption)) ?_ | with_reducible refine tt_i (fun _ => ?_) (fun _ => ?_) | with_reducible refine tt_b ?_ (fun _ => ?_) | with_reducible refine tt_l (fun _ => ?_))
theorem tX4_readOperands_2 {tp : Ttp} {st : Tcu × Tli × Int32} : Tot (X4_readOperands_2 tp FU st) := by
  unfold X4_readOperands_2
  refine lp_cnt (fun st => st.2.2) (fun rec st hk => ?_) st
  obtain ⟨a0, a1, a2⟩ := st
  exact tX4_readOperands_2b (fun b0 b1 b2 h1 h2 => hk (b0, b1, b2) h1 h2)
theorem tX4_readOperands {tp : Ttp} {cu : Tcu} {li : Tli}  : Tot (X4_readOperands tp cu li) := by
  unfold X4_readOperands
  repeat' (first | with_reducible exact tt_s | with_reducible exact tX4_readOperands_2 | with_reducible refine tt_g (inb_of8 (by assumption) (by assumption)) ?_ | with_reducible refine tt_i (fun _ => ?_) (fun _ => ?_) | with_reducible refine tt_b ?_ (fun _ => ?_) | with_reducible refine tt_l (fun _ => ?_))
theorem tX4_rangesIn {li : Tli} {v1 : Int32} : Tot (X4_rangesIn li v1) := by
  unfold X4_rangesIn
  refine tt_i (fun c => ?_) (fun _ => tt_s)
  refine tt_g ?_ tt_s
  refine decide_eq_true (fun e => ?_)
  rw [e] at c
  exact absurd c (by decide)
theorem tX4_runExtended_95 {tp : Ttp} {cu : Tcu} {li : Tli} {v2 : Int32}  : Tot (X4_runExtended_95 tp cu li v2) := by
  unfold X4_runExtended_95
  repeat' (first | with_reducible exact tt_s | with_reducible refine tt_g (inb_of8 (by assumption) (by assumption)) ?_ | with_reducible refine tt_i (fun _ => ?_) (fun _ => ?_) | with_reducible refine tt_b ?_ (fun _ => ?_) | with_reducible refine tt_l (fun _ => ?_))
theorem tX4_runExtended_104 {tp : Ttp} {cu : Tcu} {li : Tli} {v2 : Int32} {v5 : Int32} {v6 : Int32}  : Tot (X4_runExtended_104 tp cu li v2 v5 v6) := by
  unfold X4_runExtended_104
  repeat' (first | with_reducible exact tt_s | with_reducible exact tX1_numberAt | with_reducible refine tt_g (inb_of8 (by assumption) (by assumption)) ?_ | with_reducible refine tt_i (fun _ => ?_) (fun _ => ?_) | with_reducible refine tt_b ?_ (fun _ => ?_) | with_reducible refine tt_l (fun _ => ?_))
theorem tX4_runExtended_81 {tp : Ttp} {cu : Tcu} {li : Tli} {v2 : Int32} {v3 : Int64} {v5 : Int32} {v6 : Int32}  : Tot (X4_runExtended_81 tp cu li v2 v3 v5 v6) := by
  unfold X4_runExtended_81
  repeat' (first | with_reducible exact tt_s | with_reducible exact tX4_runExtended_104 | with_reducible exact tX4_runExtended_95 | with_reducible refine tt_g (inb_of8 (by assumption) (by assumption)) ?_ | with_reducible refine tt_i (fun _ => ?_) (fun _ => ?_) | with_reducible refine tt_b ?_ (fun _ => ?_) | with_reducible refine tt_l (fun _ => ?_))
theorem tX4_runExtended_34 {tp : Ttp} {cu : Tcu} {li : Tli} {v2 : Int32} {v3 : Int64}  : Tot (X4_runExtended_34 tp cu li v2 v3) := by
  unfold X4_runExtended_34
  repeat' (first | with_reducible exact tt_s | with_reducible exact tX1_byteAt | with_reducible exact tX4_runExtended_81 | with_reducible exact tX4_runExtended_95 | with_reducible refine tt_g (inb_of8 (by assumption) (by assumption)) ?_ | with_reducible refine tt_i (fun _ => ?_) (fun _ => ?_) | with_reducible refine tt_b ?_ (fun _ => ?_) | with_reducible refine tt_l (fun _ => ?_))
theorem tX4_runExtended {tp : Ttp} {cu : Tcu} {li : Tli} {v2 : Int32}  : Tot (X4_runExtended tp cu li v2) := by
  unfold X4_runExtended
  repeat' (first | with_reducible exact tt_s | with_reducible exact tX1_uleb | with_reducible exact tX4_runExtended_34 | with_reducible refine tt_g (inb_of8 (by assumption) (by assumption)) ?_ | with_reducible refine tt_i (fun _ => ?_) (fun _ => ?_) | with_reducible refine tt_b ?_ (fun _ => ?_) | with_reducible refine tt_l (fun _ => ?_))
theorem tX4_runSpecial {cu : Tcu} {li : Tli} {v2 : Int32} {v3 : Int32}  : Tot (X4_runSpecial cu li v2 v3) := by
  unfold X4_runSpecial
  repeat' (first | with_reducible exact tt_s | with_reducible exact tX4_rangesIn | with_reducible refine tt_g (inb_of8 (by assumption) (by assumption)) ?_ | with_reducible refine tt_i (fun _ => ?_) (fun _ => ?_) | with_reducible refine tt_b ?_ (fun _ => ?_) | with_reducible refine tt_l (fun _ => ?_))
theorem tX4_skipOperands_2b {tp : Ttp} {k2 : Tcu → Int32 → Int32 → Option (Tcu)} {cu : Tcu} {v2 : Int32} {v3 : Int32} (hk2 : ∀ b0 b1 b2, b2 = v3 + (1 : Int32) → Cn v3 → Tot (k2 b0 b1 b2)) : Tot (X4_skipOperands_2b tp k2 cu v2 v3) := by
  unfold X4_skipOperands_2b
  repeat' (first | with_reducible exact tt_s | with_reducible exact hk2 _ _ _ rfl (cn_lt (by assumption)) | with_reducible exact hk2 _ _ _ rfl (cn_le (by assumption) (by decide)) | with_reducible exact tX1_uleb | with_reducible refine tt_g (inb_of8 (by assumption) (by assumption)) ?_ | with_reducible refine tt_i (fun _ => ?_) (fun _ => ?_) | with_reducible refine tt_b ?_ (fun _ => ?_) | with_reducible refine tt_l (fun _ => ?_))
theorem tX4_skipOperands_2 {tp : Ttp} {st : Tcu × Int32 × Int32} : Tot (X4_skipOperands_2 tp FU st) := by
  unfold X4_skipOperands_2
  refine lp_cnt (fun st => st.2.2) (fun rec st hk => ?_) st
  obtain ⟨a0, a1, a2⟩ := st
  exact tX4_skipOperands_2b (fun b0 b1 b2 h1 h2 => hk (b0, b1, b2) h1 h2)
theorem tX4_skipOperands {tp : Ttp} {cu : Tcu} {v2 : Int32}  : Tot (X4_skipOperands tp cu v2) := by
  unfold X4_skipOperands
  repeat' (first | with_reducible exact tt_s | with_reducible exact tX4_skipOperands_2 | with_reducible refine tt_g (inb_of8 (by assumption) (by assumption)) ?_ | with_reducible refine tt_i (fun _ => ?_) (fun _ => ?_) | with_reducible refine tt_b ?_ (fun _ => ?_) | with_reducible refine tt_l (fun _ => ?_))
theorem tX4_runOpcode {tp : Ttp} {cu : Tcu} {li : Tli}  : Tot (X4_runOpcode tp cu li) := by
  unfold X4_runOpcode
  repeat' (first | with_reducible exact tt_s | with_reducible exact tX1_number | with_reducible exact tX4_runExtended | with_reducible exact tX1_uleb | with_reducible exact tX1_sleb | with_reducible exact tX4_rangesIn | with_reducible exact tX4_skipOperands | with_reducible exact tX4_runSpecial | with_reducible refine tt_g (inb_of8 (by assumption) (by assumption)) ?_ | with_reducible refine tt_i (fun _ => ?_) (fun _ => ?_) | with_reducible refine tt_b ?_ (fun _ => ?_) | with_reducible refine tt_l (fun _ => ?_))
theorem tX4_runProgram_42 {tp : Ttp} {cu : Tcu} {li : Tli}  : Tot (X4_runProgram_42 tp cu li) := by
  unfold X4_runProgram_42
  repeat' (first | with_reducible exact tt_s | with_reducible refine tt_g (inb_of8 (by assumption) (by assumption)) ?_ | with_reducible refine tt_i (fun _ => ?_) (fun _ => ?_) | with_reducible refine tt_b ?_ (fun _ => ?_) | with_reducible refine tt_l (fun _ => ?_))
theorem tX4_runProgram_6b {tp : Ttp} {k6 : Tcu → Tli → Int32 → Option (Tcu × Tli)} {cu : Tcu} {li : Tli} {v2 : Int32} (hk6 : ∀ b0 b1 b2, b2 = v2 + (1 : Int32) → Cn v2 → Tot (k6 b0 b1 b2)) : Tot (X4_runProgram_6b tp k6 cu li v2) := by
  unfold X4_runProgram_6b
  repeat' (first | with_reducible exact tt_s | with_reducible exact hk6 _ _ _ rfl (cn_lt (by assumption)) | with_reducible exact hk6 _ _ _ rfl (cn_le (by assumption) (by decide)) | with_reducible exact tX4_runProgram_42 | with_reducible exact tX4_runOpcode | with_reducible refine tt_g (inb_of8 (by assumption) (by assumption)) ?_ | with_reducible refine tt_i (fun _ => ?_) (fun _ => ?_) | with_reducible refine tt_b ?_ (fun _ => ?_) | with_reducible refine tt_l (fun _ => ?_))
theorem tX4_runProgram_6 {tp : Ttp} {st : Tcu × Tli × Int32} : Tot (X4_runProgram_6 tp FU st) := by
  unfold X4_runProgram_6
  refine lp_cnt (fun st => st.2.2) (fun rec st hk => ?_) st
  obtain ⟨a0, a1, a2⟩ := st
  exact tX4_runProgram_6b (fun b0 b1 b2 h1 h2 => hk (b0, b1, b2) h1 h2)
theorem tX4_runProgram {tp : Ttp} {cu : Tcu} {li : Tli}  : Tot (X4_runProgram tp cu li) := by
  unfold X4_runProgram
  repeat' (first | with_reducible exact tt_s | with_reducible exact tX4_runProgram_6 | with_reducible refine tt_g (inb_of8 (by assumption) (by assumption)) ?_ | with_reducible refine tt_i (fun _ => ?_) (fun _ => ?_) | with_reducible refine tt_b ?_ (fun _ => ?_) | with_reducible refine tt_l (fun _ => ?_))
theorem tX4_readTable_87 {tp : Ttp} {se : Tse} {cu : Tcu} {un : Tun} {li : Tli}  : Tot (X4_readTable_87 tp se cu un li) := by
  unfold X4_readTable_87
  repeat' (first | with_reducible exact tt_s | with_reducible exact tX4_runProgram | with_reducible refine tt_g (inb_of8 (by assumption) (by assumption)) ?_ | with_reducible refine tt_i (fun _ => ?_) (fun _ => ?_) | with_reducible refine tt_b ?_ (fun _ => ?_) | with_reducible refine tt_l (fun _ => ?_))
theorem tX4_readTable {tp : Ttp} {cu : Tcu} {se : Tse} {un : Tun} {li : Tli} {v4 : Int64}  : Tot (X4_readTable tp cu se un li v4) := by
  unfold X4_readTable
  repeat' (first | with_reducible exact tt_s | with_reducible exact tX1_enterCounted | with_reducible exact tX4_readHead | with_reducible exact tX4_readOperands | with_reducible exact tX4_readDirectories | with_reducible exact tX4_readFiles | with_reducible exact tX4_readTable_87 | with_reducible refine tt_g (inb_of8 (by assumption) (by assumption)) ?_ | with_reducible refine tt_i (fun _ => ?_) (fun _ => ?_) | with_reducible refine tt_b ?_ (fun _ => ?_) | with_reducible refine tt_l (fun _ => ?_))
theorem tX4_readAll_87 {tp : Ttp} {se : Tse} {en : Ten} {k8 : Tcu → Tun → Tli → Int32 → Option (Tcu × Tun × Tli)} {cu : Tcu} {un : Tun} {li : Tli} {v4 : Int32} (hk8 : ∀ b0 b1 b2 b3, b3 = v4 + (1 : Int32) → Tot (k8 b0 b1 b2 b3)) : Tot (X4_readAll_87 tp se en k8 cu un li v4) := by
  unfold X4_readAll_87
  repeat' (first | with_reducible exact tt_s | with_reducible exact hk8 _ _ _ _ rfl | with_reducible refine tt_g (inb_of8 (by assumption) (by assumption)) ?_ | with_reducible refine tt_i (fun _ => ?_) (fun _ => ?_) | with_reducible refine tt_b ?_ (fun _ => ?_) | with_reducible refine tt_l (fun _ => ?_))
theorem tX4_readAll_8b {tp : Ttp} {se : Tse} {en : Ten} {k8 : Tcu → Tun → Tli → Int32 → Option (Tcu × Tun × Tli)} {cu : Tcu} {un : Tun} {li : Tli} {v4 : Int32} (hk8 : ∀ b0 b1 b2 b3, b3 = v4 + (1 : Int32) → Cn v4 → Tot (k8 b0 b1 b2 b3)) : Tot (X4_readAll_8b tp se en k8 cu un li v4) := by
  unfold X4_readAll_8b
  repeat' (first | with_reducible exact tt_s | with_reducible exact hk8 _ _ _ _ rfl (cn_lt (by assumption)) | with_reducible exact hk8 _ _ _ _ rfl (cn_le (by assumption) (by decide)) | with_reducible exact tX4_readAll_87 (fun _ _ _ _ h9 => hk8 _ _ _ _ h9 (by first | exact cn_lt (by assumption) | exact cn_le (by assumption) (by decide))) | with_reducible exact tX4_readTable | with_reducible refine tt_g (inb_of8 (by assumption) (by assumption)) ?_ | with_reducible refine tt_i (fun _ => ?_) (fun _ => ?_) | with_reducible refine tt_b ?_ (fun _ => ?_) | with_reducible refine tt_l (fun _ => ?_))
theorem tX4_readAll_8 {tp : Ttp} {se : Tse} {en : Ten} {st : Tcu × Tun × Tli × Int32} : Tot (X4_readAll_8 tp se en FU st) := by
  unfold X4_readAll_8
  refine lp_cnt (fun st => st.2.2.2) (fun rec st hk => ?_) st
  obtain ⟨a0, a1, a2, a3⟩ := st
  exact tX4_readAll_8b (fun b0 b1 b2 b3 h1 h2 => hk (b0, b1, b2, b3) h1 h2)
theorem tX4_readAll {tp : Ttp} {cu : Tcu} {se : Tse} {un : Tun} {en : Ten} {li : Tli}  : Tot (X4_readAll tp cu se un en li) := by
  unfold X4_readAll
  repeat' (first | with_reducible exact tt_s | with_reducible exact tX4_readAll_8 | with_reducible refine tt_g (inb_of8 (by assumption) (by assumption)) ?_ | with_reducible refine tt_i (fun _ => ?_) (fun _ => ?_) | with_reducible refine tt_b ?_ (fun _ => ?_) | with_reducible refine tt_l (fun _ => ?_))
theorem tX4_governing_80 {li : Tli} {k3 : Int32 → Int64 → Int32 → Option (Int32)} {v1 : Int32} {v2 : Int64} {v4 : Int32} (hk3 : ∀ b0 b1 b2, b2 = v4 + (1 : Int32) → Tot (k3 b0 b1 b2)) : Tot (X4_governing_80 li k3 v1 v2 v4) := by
  unfold X4_governing_80
  repeat' (first | with_reducible exact tt_s | with_reducible exact hk3 _ _ _ rfl | with_reducible refine tt_g (inb_of8 (by assumption) (by assumption)) ?_ | with_reducible refine tt_i (fun _ => ?_) (fun _ => ?_) | with_reducible refine tt_b ?_ (fun _ => ?_) | with_reducible refine tt_l (fun _ => ?_))
theorem tX4_governing_46 {li : Tli} {k3 : Int32 → Int64 → Int32 → Option (Int32)} {v1 : Int32} {v2 : Int64} {v4 : Int32} {z0 : Int32} (hk3 : ∀ b0 b1 b2, b2 = v4 + (1 : Int32) → Tot (k3 b0 b1 b2)) : Tot (X4_governing_46 li k3 v1 v2 v4 z0) := by
  unfold X4_governing_46
  repeat' (first | with_reducible exact tt_s | with_reducible exact hk3 _ _ _ rfl | with_reducible exact tX4_governing_80 hk3 | with_reducible refine tt_g (inb_of8 (by assumption) (by assumption)) ?_ | with_reducible refine tt_i (fun _ => ?_) (fun _ => ?_) | with_reducible refine tt_b ?_ (fun _ => ?_) | with_reducible refine tt_l (fun _ => ?_))
theorem tX4_governing_45 {li : Tli} {k3 : Int32 → Int64 → Int32 → Option (Int32)} {v1 : Int32} {v2 : Int64} {v4 : Int32} (hk3 : ∀ b0 b1 b2, b2 = v4 + (1 : Int32) → Tot (k3 b0 b1 b2)) : Tot (X4_governing_45 li k3 v1 v2 v4) := by
  unfold X4_governing_45
  repeat' (first | with_reducible exact tt_s | with_reducible exact hk3 _ _ _ rfl | with_reducible exact tX4_governing_46 hk3 | with_reducible refine tt_g (inb_of8 (by assumption) (by assumption)) ?_ | with_reducible refine tt_i (fun _ => ?_) (fun _ => ?_) | with_reducible refine tt_b ?_ (fun _ => ?_) | with_reducible refine tt_l (fun _ => ?_))
theorem tX4_governing_3b {li : Tli} {k3 : Int32 → Int64 → Int32 → Option (Int32)} {v1 : Int32} {v2 : Int64} {v4 : Int32} (hk3 : ∀ b0 b1 b2, b2 = v4 + (1 : Int32) → Cn v4 → Tot (k3 b0 b1 b2)) : Tot (X4_governing_3b li k3 v1 v2 v4) := by
  unfold X4_governing_3b
  repeat' (first | with_reducible exact tt_s | with_reducible exact hk3 _ _ _ rfl (cn_lt (by assumption)) | with_reducible exact hk3 _ _ _ rfl (cn_le (by assumption) (by decide)) | with_reducible exact tX4_governing_46 (fun _ _ _ h9 => hk3 _ _ _ h9 (by first | exact cn_lt (by assumption) | exact cn_le (by assumption) (by decide))) | with_reducible exact tX4_governing_45 (fun _ _ _ h9 => hk3 _ _ _ h9 (by first | exact cn_lt (by assumption) | exact cn_le (by assumption) (by decide))) | with_reducible refine tt_g (inb_of8 (by assumption) (by assumption)) ?_ | with_reducible refine tt_i (fun _ => ?_) (fun _ => ?_) | with_reducible refine tt_b ?_ (fun _ => ?_) | with_reducible refine tt_l (fun _ => ?_))
theorem tX4_governing_3 {li : Tli} {st : Int32 × Int64 × Int32} : Tot (X4_governing_3 li FU st) := by
  unfold X4_governing_3
  refine lp_cnt (fun st => st.2.2) (fun rec st hk => ?_) st
  obtain ⟨a0, a1, a2⟩ := st
  exact tX4_governing_3b (fun b0 b1 b2 h1 h2 => hk (b0, b1, b2) h1 h2)
theorem tX4_governing {li : Tli} {v1 : Int32} {v2 : Int64}  : Tot (X4_governing li v1 v2) := by
  unfold X4_governing
  repeat' (first | with_reducible exact tt_s | with_reducible exact tX4_governing_3 | with_reducible refine tt_g (inb_of8 (by assumption) (by assumption)) ?_ | with_reducible refine tt_i (fun _ => ?_) (fun _ => ?_) | with_reducible refine tt_b ?_ (fun _ => ?_) | with_reducible refine tt_l (fun _ => ?_))
theorem tX8_holding_90 {sy : Tsy} {k5 : Int64 → Int32 → Int32 → Option (Int32)} {v1 : Int64} {v3 : Int32} {v4 : Int32} (hk5 : ∀ b0 b1 b2, b2 = v4 + (1 : Int32) → Tot (k5 b0 b1 b2)) : Tot (X8_holding_90 sy k5 v1 v3 v4) := by
  unfold X8_holding_90
  repeat' (first | with_reducible exact tt_s | with_reducible exact hk5 _ _ _ rfl | with_reducible refine tt_g (inb_of8 (by assumption) (by assumption)) ?_ | with_reducible refine tt_i (fun _ => ?_) (fun _ => ?_) | with_reducible refine tt_b ?_ (fun _ => ?_) | with_reducible refine tt_l (fun _ => ?_))
theorem tX8_holding_87 {sy : Tsy} {k5 : Int64 → Int32 → Int32 → Option (Int32)} {v1 : Int64} {v4 : Int32} (hk5 : ∀ b0 b1 b2, b2 = v4 + (1 : Int32) → Tot (k5 b0 b1 b2)) : Tot (X8_holding_87 sy k5 v1 v4) := by
  unfold X8_holding_87
  repeat' (first | with_reducible exact tt_s | with_reducible exact hk5 _ _ _ rfl | with_reducible exact tX8_holding_90 hk5 | with_reducible refine tt_g (inb_of8 (by assumption) (by assumption)) ?_ | with_reducible refine tt_i (fun _ => ?_) (fun _ => ?_) | with_reducible refine tt_b ?_ (fun _ => ?_) | with_reducible refine tt_l (fun _ => ?_))
theorem tX8_holding_61 {sy : Tsy} {k5 : Int64 → Int32 → Int32 → Option (Int32)} {v1 : Int64} {v3 : Int32} {v4 : Int32} {v5 : Int64} {z0 : Int32} (hk5 : ∀ b0 b1 b2, b2 = v4 + (1 : Int32) → Tot (k5 b0 b1 b2)) : Tot (X8_holding_61 sy k5 v1 v3 v4 v5 z0) := by
  unfold X8_holding_61
  repeat' (first | with_reducible exact tt_s | with_reducible exact hk5 _ _ _ rfl | with_reducible exact tX8_holding_90 hk5 | with_reducible exact tX8_holding_87 hk5 | with_reducible refine tt_g (inb_of8 (by assumption) (by assumption)) ?_ | with_reducible refine tt_i (fun _ => ?_) (fun _ => ?_) | with_reducible refine tt_b ?_ (fun _ => ?_) | with_reducible refine tt_l (fun _ => ?_))
theorem tX8_holding_60 {sy : Tsy} {k5 : Int64 → Int32 → Int32 → Option (Int32)} {v1 : Int64} {v3 : Int32} {v4 : Int32} {v5 : Int64} (hk5 : ∀ b0 b1 b2, b2 = v4 + (1 : Int32) → Tot (k5 b0 b1 b2)) : Tot (X8_holding_60 sy k5 v1 v3 v4 v5) := by
  unfold X8_holding_60
  repeat' (first | with_reducible exact tt_s | with_reducible exact hk5 _ _ _ rfl | with_reducible exact tX8_holding_61 hk5 | with_reducible refine tt_g (inb_of8 (by assumption) (by assumption)) ?_ | with_reducible refine tt_i (fun _ => ?_) (fun _ => ?_) | with_reducible refine tt_b ?_ (fun _ => ?_) | with_reducible refine tt_l (fun _ => ?_))
theorem tX8_holding_5b {sy : Tsy} {k5 : Int64 → Int32 → Int32 → Option (Int32)} {v1 : Int64} {v3 : Int32} {v4 : Int32} (hk5 : ∀ b0 b1 b2, b2 = v4 + (1 : Int32) → Cn v4 → Tot (k5 b0 b1 b2)) : Tot (X8_holding_5b sy k5 v1 v3 v4) := by
  unfold X8_holding_5b
  repeat' (first | with_reducible exact tt_s | with_reducible exact hk5 _ _ _ rfl (cn_lt (by assumption)) | with_reducible exact hk5 _ _ _ rfl (cn_le (by assumption) (by decide)) | with_reducible exact tX8_holding_60 (fun _ _ _ h9 => hk5 _ _ _ h9 (by first | exact cn_lt (by assumption) | exact cn_le (by assumption) (by decide))) | with_reducible exact tX8_holding_61 (fun _ _ _ h9 => hk5 _ _ _ h9 (by first | exact cn_lt (by assumption) | exact cn_le (by assumption) (by decide))) | with_reducible refine tt_g (inb_of8 (by assumption) (by assumption)) ?_ | with_reducible refine tt_i (fun _ => ?_) (fun _ => ?_) | with_reducible refine tt_b ?_ (fun _ => ?_) | with_reducible refine tt_l (fun _ => ?_))
theorem tX8_holding_5 {sy : Tsy} {st : Int64 × Int32 × Int32} : Tot (X8_holding_5 sy FU st) := by
  unfold X8_holding_5
  refine lp_cnt (fun st => st.2.2) (fun rec st hk => ?_) st
  obtain ⟨a0, a1, a2⟩ := st
  exact tX8_holding_5b (fun b0 b1 b2 h1 h2 => hk (b0, b1, b2) h1 h2)
theorem tX8_holding {sy : Tsy} {v1 : Int64}  : Tot (X8_holding sy v1) := by
  unfold X8_holding
  repeat' (first | with_reducible exact tt_s | with_reducible exact tX8_holding_5 | with_reducible refine tt_g (inb_of8 (by assumption) (by assumption)) ?_ | with_reducible refine tt_i (fun _ => ?_) (fun _ => ?_) | with_reducible refine tt_b ?_ (fun _ => ?_) | with_reducible refine tt_l (fun _ => ?_))
theorem tX5_seekSymbol {lo : Tlo} {sy : Tsy} {v2 : Int64}  : Tot (X5_seekSymbol lo sy v2) := by
  unfold X5_seekSymbol
  repeat' (first | with_reducible exact tt_s | with_reducible exact tX8_holding | with_reducible refine tt_g (inb_of8 (by assumption) (by assumption)) ?_ | with_reducible refine tt_i (fun _ => ?_) (fun _ => ?_) | with_reducible refine tt_b ?_ (fun _ => ?_) | with_reducible refine tt_l (fun _ => ?_))
theorem tX5_seek_66 {sy : Tsy} {en : Ten} {ra : Tra} {li : Tli} {k14 : Tlo → Int64 → Int32 → Int32 → Option (Int32 × Tlo)} {lo : Tlo} {v2 : Int64} {v4 : Int32} {v5 : Int32} (hk14 : ∀ b0 b1 b2 b3, b3 = v5 + (1 : Int32) → Tot (k14 b0 b1 b2 b3)) : Tot (X5_seek_66 sy en ra li k14 lo v2 v4 v5) := by
  unfold X5_seek_66
  repeat' (first | with_reducible exact tt_s | with_reducible exact hk14 _ _ _ _ rfl | with_reducible exact tX3_childHolding | with_reducible refine tt_g (inb_of8 (by assumption) (by assumption)) ?_ | with_reducible refine tt_i (fun _ => ?_) (fun _ => ?_) | with_reducible refine tt_b ?_ (fun _ => ?_) | with_reducible refine tt_l (fun _ => ?_))
theorem tX5_seek_81 {sy : Tsy} {en : Ten} {ra : Tra} {li : Tli} {lo : Tlo} {v2 : Int64}  : Tot (X5_seek_81 sy en ra li lo v2) := by
  unfold X5_seek_81
  repeat' (first | with_reducible exact tt_s | with_reducible exact tX4_governing | with_reducible exact tX5_seekSymbol | with_reducible refine tt_g (inb_of8 (by assumption) (by assumption)) ?_ | with_reducible refine tt_i (fun _ => ?_) (fun _ => ?_) | with_reducible refine tt_b ?_ (fun _ => ?_) | with_reducible refine tt_l (fun _ => ?_))
theorem tX5_seek_14b {sy : Tsy} {en : Ten} {ra : Tra} {li : Tli} {k14 : Tlo → Int64 → Int32 → Int32 → Option (Int32 × Tlo)} {lo : Tlo} {v2 : Int64} {v4 : Int32} {v5 : Int32} (hk14 : ∀ b0 b1 b2 b3, b3 = v5 + (1 : Int32) → Cn v5 → Tot (k14 b0 b1 b2 b3)) : Tot (X5_seek_14b sy en ra li k14 lo v2 v4 v5) := by
  unfold X5_seek_14b
  repeat' (first | with_reducible exact tt_s | with_reducible exact hk14 _ _ _ _ rfl (cn_lt (by assumption)) | with_reducible exact hk14 _ _ _ _ rfl (cn_le (by assumption) (by decide)) | with_reducible exact tX5_seek_81 | with_reducible exact tX5_seek_66 (fun _ _ _ _ h9 => hk14 _ _ _ _ h9 (by first | exact cn_lt (by assumption) | exact cn_le (by assumption) (by decide))) | with_reducible refine tt_g (inb_of8 (by assumption) (by assumption)) ?_ | with_reducible refine tt_i (fun _ => ?_) (fun _ => ?_) | with_reducible refine tt_b ?_ (fun _ => ?_) | with_reducible refine tt_l (fun _ => ?_))
theorem tX5_seek_14 {sy : Tsy} {en : Ten} {ra : Tra} {li : Tli} {st : Tlo × Int64 × Int32 × Int32} : Tot (X5_seek_14 sy en ra li FU st) := by
  unfold X5_seek_14
  refine lp_cnt (fun st => st.2.2.2) (fun rec st hk => ?_) st
  obtain ⟨a0, a1, a2, a3⟩ := st
  exact tX5_seek_14b (fun b0 b1 b2 b3 h1 h2 => hk (b0, b1, b2, b3) h1 h2)
theorem tX5_seek {lo : Tlo} {sy : Tsy} {en : Ten} {ra : Tra} {li : Tli} {v2 : Int64}  : Tot (X5_seek lo sy en ra li v2) := by
  unfold X5_seek
  repeat' (first | with_reducible exact tt_s | with_reducible exact tX3_functionHolding | with_reducible exact tX5_seek_14 | with_reducible refine tt_g (inb_of8 (by assumption) (by assumption)) ?_ | with_reducible refine tt_i (fun _ => ?_) (fun _ => ?_) | with_reducible refine tt_b ?_ (fun _ => ?_) | with_reducible refine tt_l (fun _ => ?_))
theorem tX6_readRow {tp : Ttp} {cu : Tcu} {ra : Tra}  : Tot (X6_readRow tp cu ra) := by
  unfold X6_readRow
  repeat' (first | with_reducible exact tt_s | with_reducible exact tX1_number | with_reducible exact tX1_uleb | with_reducible refine tt_g (inb_of8 (by assumption) (by assumption)) ?_ | with_reducible refine tt_i (fun _ => ?_) (fun _ => ?_) | with_reducible refine tt_b ?_ (fun _ => ?_) | with_reducible refine tt_l (fun _ => ?_))
theorem tX6_readList_43b {tp : Ttp} {se : Tse} {k43 : Tcu → Tra → Int32 → Int32 → Option (Tcu × Tra)} {cu : Tcu} {ra : Tra} {v6 : Int32} {v7 : Int32} (hk43 : ∀ b0 b1 b2 b3, b3 = v7 + (1 : Int32) → Cn v7 → Tot (k43 b0 b1 b2 b3)) : Tot (X6_readList_43b tp se k43 cu ra v6 v7) := by
  unfold X6_readList_43b
  repeat' (first | with_reducible exact tt_s | with_reducible exact hk43 _ _ _ _ rfl (cn_lt (by assumption)) | with_reducible exact hk43 _ _ _ _ rfl (cn_le (by assumption) (by decide)) | with_reducible exact tX6_readRow | with_reducible refine tt_g (inb_of8 (by assumption) (by assumption)) ?_ | with_reducible refine tt_i (fun _ => ?_) (fun _ => ?_) | with_reducible refine tt_b ?_ (fun _ => ?_) | with_reducible refine tt_l (fun _ => ?_))
theorem tX6_readList_43 {tp : Ttp} {se : Tse} {st : Tcu × Tra × Int32 × Int32} : Tot (X6_readList_43 tp se FU st) := by
  unfold X6_readList_43
  refine lp_cnt (fun st => st.2.2.2) (fun rec st hk => ?_) st
  obtain ⟨a0, a1, a2, a3⟩ := st
  exact tX6_readList_43b (fun b0 b1 b2 b3 h1 h2 => hk (b0, b1, b2, b3) h1 h2)
theorem tX6_readList {tp : Ttp} {cu : Tcu} {se : Tse} {ra : Tra} {v3 : Int64} {v5 : Int32}  : Tot (X6_readList tp cu se ra v3 v5) := by
  unfold X6_readList
  repeat' (first | with_reducible exact tt_s | with_reducible exact tX6_readList_43 | with_reducible refine tt_g (inb_of8 (by assumption) (by assumption)) ?_ | with_reducible refine tt_i (fun _ => ?_) (fun _ => ?_) | with_reducible refine tt_b ?_ (fun _ => ?_) | with_reducible refine tt_l (fun _ => ?_))
theorem tX6_readAll_219 {tp : Ttp} {se : Tse} {un : Tun} {k14 : Tcu → Ten → Tra → Int32 → Option (Tcu × Ten × Tra)} {cu : Tcu} {en : Ten} {ra : Tra} {v5 : Int32} {v6 : Int32} (hk14 : ∀ b0 b1 b2 b3, b3 = v5 + (1 : Int32) → Tot (k14 b0 b1 b2 b3)) : Tot (X6_readAll_219 tp se un k14 cu en ra v5 v6) := by
  unfold X6_readAll_219
  repeat' (first | with_reducible exact tt_s | with_reducible exact hk14 _ _ _ _ rfl | with_reducible refine tt_g (inb_of8 (by assumption) (by assumption)) ?_ | with_reducible refine tt_i (fun _ => ?_) (fun _ => ?_) | with_reducible refine tt_b ?_ (fun _ => ?_) | with_reducible refine tt_l (fun _ => ?_))
theorem tX6_readAll_161 {tp : Ttp} {se : Tse} {un : Tun} {k14 : Tcu → Ten → Tra → Int32 → Option (Tcu × Ten × Tra)} {cu : Tcu} {en : Ten} {ra : Tra} {v5 : Int32} {v6 : Int32} (hk14 : ∀ b0 b1 b2 b3, b3 = v5 + (1 : Int32) → Tot (k14 b0 b1 b2 b3)) : Tot (X6_readAll_161 tp se un k14 cu en ra v5 v6) := by
  unfold X6_readAll_161
  repeat' (first | with_reducible exact tt_s | with_reducible exact hk14 _ _ _ _ rfl | with_reducible exact tX6_readAll_219 hk14 | with_reducible exact tX6_readList | with_reducible refine tt_g (inb_of8 (by assumption) (by assumption)) ?_ | with_reducible refine tt_i (fun _ => ?_) (fun _ => ?_) | with_reducible refine tt_b ?_ (fun _ => ?_) | with_reducible refine tt_l (fun _ => ?_))
theorem tX6_readAll_104 {tp : Ttp} {se : Tse} {un : Tun} {k14 : Tcu → Ten → Tra → Int32 → Option (Tcu × Ten × Tra)} {cu : Tcu} {en : Ten} {ra : Tra} {v5 : Int32} {v6 : Int32} {v7 : Int64} (hk14 : ∀ b0 b1 b2 b3, b3 = v5 + (1 : Int32) → Tot (k14 b0 b1 b2 b3)) : Tot (X6_readAll_104 tp se un k14 cu en ra v5 v6 v7) := by
  unfold X6_readAll_104
  repeat' (first | with_reducible exact tt_s | with_reducible exact hk14 _ _ _ _ rfl | with_reducible exact tX6_readAll_161 hk14 | with_reducible exact tX6_readAll_219 hk14 | with_reducible refine tt_g (inb_of8 (by assumption) (by assumption)) ?_ | with_reducible refine tt_i (fun _ => ?_) (fun _ => ?_) | with_reducible refine tt_b ?_ (fun _ => ?_) | with_reducible refine tt_l (fun _ => ?_))
theorem tX6_readAll_14b {tp : Ttp} {se : Tse} {un : Tun} {k14 : Tcu → Ten → Tra → Int32 → Option (Tcu × Ten × Tra)} {cu : Tcu} {en : Ten} {ra : Tra} {v5 : Int32} (hk14 : ∀ b0 b1 b2 b3, b3 = v5 + (1 : Int32) → Cn v5 → Tot (k14 b0 b1 b2 b3)) : Tot (X6_readAll_14b tp se un k14 cu en ra v5) := by
  unfold X6_readAll_14b
  repeat' (first | with_reducible exact tt_s | with_reducible exact hk14 _ _ _ _ rfl (cn_lt (by assumption)) | with_reducible exact hk14 _ _ _ _ rfl (cn_le (by assumption) (by decide)) | with_reducible exact tX6_readAll_104 (fun _ _ _ _ h9 => hk14 _ _ _ _ h9 (by first | exact cn_lt (by assumption) | exact cn_le (by assumption) (by decide))) | with_reducible exact tX6_readAll_219 (fun _ _ _ _ h9 => hk14 _ _ _ _ h9 (by first | exact cn_lt (by assumption) | exact cn_le (by assumption) (by decide))) | with_reducible refine tt_g (inb_of8 (by assumption) (by assumption)) ?_ | with_reducible refine tt_i (fun _ => ?_) (fun _ => ?_) | with_reducible refine tt_b ?_ (fun _ => ?_) | with_reducible refine tt_l (fun _ => ?_))
theorem tX6_readAll_14 {tp : Ttp} {se : Tse} {un : Tun} {st : Tcu × Ten × Tra × Int32} : Tot (X6_readAll_14 tp se un FU st) := by
  unfold X6_readAll_14
  refine lp_cnt (fun st => st.2.2.2) (fun rec st hk => ?_) st
  obtain ⟨a0, a1, a2, a3⟩ := st
  exact tX6_readAll_14b (fun b0 b1 b2 b3 h1 h2 => hk (b0, b1, b2, b3) h1 h2)
theorem tX6_readAll {tp : Ttp} {cu : Tcu} {se : Tse} {un : Tun} {en : Ten} {ra : Tra}  : Tot (X6_readAll tp cu se un en ra) := by
  unfold X6_readAll
  repeat' (first | with_reducible exact tt_s | with_reducible exact tX6_readAll_14 | with_reducible refine tt_g (inb_of8 (by assumption) (by assumption)) ?_ | with_reducible refine tt_i (fun _ => ?_) (fun _ => ?_) | with_reducible refine tt_b ?_ (fun _ => ?_) | with_reducible refine tt_l (fun _ => ?_))
theorem tX7_readHead_172 {tp : Ttp} {cu : Tcu} {se : Tse} {v2 : Int64} {v4 : Int64} {v6 : Int64}  : Tot (X7_readHead_172 tp cu se v2 v4 v6) := by
  unfold X7_readHead_172
  repeat' (first | with_reducible exact tt_s | with_reducible refine tt_g (inb_of8 (by assumption) (by assumption)) ?_ | with_reducible refine tt_i (fun _ => ?_) (fun _ => ?_) | with_reducible refine tt_b ?_ (fun _ => ?_) | with_reducible refine tt_l (fun _ => ?_))
theorem tX7_readHead_141 {tp : Ttp} {cu : Tcu} {se : Tse} {v2 : Int64} {v4 : Int64}  : Tot (X7_readHead_141 tp cu se v2 v4) := by
  unfold X7_readHead_141
  repeat' (first | with_reducible exact tt_s | with_reducible exact tX1_numberAt | with_reducible exact tX7_readHead_172 | with_reducible refine tt_g (inb_of8 (by assumption) (by assumption)) ?_ | with_reducible refine tt_i (fun _ => ?_) (fun _ => ?_) | with_reducible refine tt_b ?_ (fun _ => ?_) | with_reducible refine tt_l (fun _ => ?_))
theorem tX7_readHead_118 {tp : Ttp} {cu : Tcu} {se : Tse} {v2 : Int64}  : Tot (X7_readHead_118 tp cu se v2) := by
  unfold X7_readHead_118
  repeat' (first | with_reducible exact tt_s | with_reducible exact tX1_numberAt | with_reducible exact tX7_readHead_141 | with_reducible refine tt_g (inb_of8 (by assumption) (by assumption)) ?_ | with_reducible refine tt_i (fun _ => ?_) (fun _ => ?_) | with_reducible refine tt_b ?_ (fun _ => ?_) | with_reducible refine tt_l (fun _ => ?_))
theorem tX7_readHead_79 {tp : Ttp} {cu : Tcu} {se : Tse}  : Tot (X7_readHead_79 tp cu se) := by
  unfold X7_readHead_79
  repeat' (first | with_reducible exact tt_s | with_reducible exact tX1_numberAt | with_reducible exact tX7_readHead_118 | with_reducible refine tt_g (inb_of8 (by assumption) (by assumption)) ?_ | with_reducible refine tt_i (fun _ => ?_) (fun _ => ?_) | with_reducible refine tt_b ?_ (fun _ => ?_) | with_reducible refine tt_l (fun _ => ?_))
theorem tX7_readHead_58 {tp : Ttp} {cu : Tcu} {se : Tse}  : Tot (X7_readHead_58 tp cu se) := by
  unfold X7_readHead_58
  repeat' (first | with_reducible exact tt_s | with_reducible exact tX1_numberAt | with_reducible exact tX7_readHead_79 | with_reducible refine tt_g (inb_of8 (by assumption) (by assumption)) ?_ | with_reducible refine tt_i (fun _ => ?_) (fun _ => ?_) | with_reducible refine tt_b ?_ (fun _ => ?_) | with_reducible refine tt_l (fun _ => ?_))
theorem tX7_readHead_43 {tp : Ttp} {cu : Tcu} {se : Tse}  : Tot (X7_readHead_43 tp cu se) := by
  unfold X7_readHead_43
  repeat' (first | with_reducible exact tt_s | with_reducible exact tX7_readHead_58 | with_reducible refine tt_g (inb_of8 (by assumption) (by assumption)) ?_ | with_reducible refine tt_i (fun _ => ?_) (fun _ => ?_) | with_reducible refine tt_b ?_ (fun _ => ?_) | with_reducible refine tt_l (fun _ => ?_))
theorem tX7_readHead_2 {tp : Ttp} {cu : Tcu} {se : Tse} : Tot (X7_readHead_2 tp FU (cu, se, (0 : Int32))) := by
  unfold X7_readHead_2
  refine tq_t (Q := fun _ => True) (lp_cntQ (fun st => st.2.2) (fun st => ¬ st.2.2 < 0) (fun rec st hP hk => ?_) FU (cu, se, 0) (show ¬ (0 : Int32) < 0 by decide) (FU_ok _))
  obtain ⟨a, b, v⟩ := st
  have hP : ¬ v < 0 := hP
  have t43 : ∀ (a : Tcu) (b : Tse), TQ (X7_readHead_43 tp a b) (fun _ => True) := fun a b => by
    obtain ⟨q, e⟩ := (tX7_readHead_43 : Tot (X7_readHead_43 tp a b))
    exact ⟨q, e, trivial⟩
  show TQ (X7_readHead_2b tp (fun a0 a1 a2 => rec (a0, a1, a2)) a b v) _
  unfold X7_readHead_2b X7_readHead_37
  refine tq_i (fun c1 => ?_) (fun _ => t43 _ _)
  refine tq_i (fun c2 => ?_) (fun _ => t43 _ _)
  obtain ⟨q, hq⟩ := (tX1_byteAt : Tot (X1_byteAt tp v))
  rw [hq, Option.bind_some]
  refine tq_g (inb_of (n := 7) hP c1 (by decide)) (tq_i (fun _ => ?_) (fun _ => ?_))
  · exact hk (a, b, v + 1) (cn_0 (cn_lt c1) hP) rfl (cn_lt c1)
  · exact hk (X1_refuse a (2 : Int32) v, b, v + 1) (cn_0 (cn_lt c1) hP) rfl (cn_lt c1)
theorem tX7_readHead {tp : Ttp} {cu : Tcu} {se : Tse}  : Tot (X7_readHead tp cu se) := by
  unfold X7_readHead
  repeat' (first | with_reducible exact tt_s | with_reducible exact tX7_readHead_2 | with_reducible refine tt_g (inb_of8 (by assumption) (by assumption)) ?_ | with_reducible refine tt_i (fun _ => ?_) (fun _ => ?_) | with_reducible refine tt_b ?_ (fun _ => ?_) | with_reducible refine tt_l (fun _ => ?_))
theorem tX7_readName_114 {tp : Ttp} {k64 : Tcu → Tse → Int32 → Int64 → Int32 → Int32 → Int32 → Option (Tcu × Tse)} {cu : Tcu} {se : Tse} {v2 : Int32} {v4 : Int64} {v6 : Int32} {v7 : Int32} {v8 : Int32} (hk64 : ∀ b0 b1 b2 b3 b4 b5 b6, b6 = v8 + (1 : Int32) → Tot (k64 b0 b1 b2 b3 b4 b5 b6)) : Tot (X7_readName_114 tp k64 cu se v2 v4 v6 v7 v8) := by
  unfold X7_readName_114
  repeat' (first | with_reducible exact tt_s | with_reducible exact hk64 _ _ _ _ _ _ _ rfl | with_reducible refine tt_g (inb_of8 (by assumption) (by assumption)) ?_ | with_reducible refine tt_i (fun _ => ?_) (fun _ => ?_) | with_reducible refine tt_b ?_ (fun _ => ?_) | with_reducible refine tt_l (fun _ => ?_))
theorem tX7_readName_64b {tp : Ttp} {k64 : Tcu → Tse → Int32 → Int64 → Int32 → Int32 → Int32 → Option (Tcu × Tse)} {cu : Tcu} {se : Tse} {v2 : Int32} {v4 : Int64} {v6 : Int32} {v7 : Int32} {v8 : Int32} (hk64 : ∀ b0 b1 b2 b3 b4 b5 b6, b6 = v8 + (1 : Int32) → Cn v8 → Tot (k64 b0 b1 b2 b3 b4 b5 b6)) : Tot (X7_readName_64b tp k64 cu se v2 v4 v6 v7 v8) := by
  unfold X7_readName_64b
  repeat' (first | with_reducible exact tt_s | with_reducible exact hk64 _ _ _ _ _ _ _ rfl (cn_lt (by assumption)) | with_reducible exact hk64 _ _ _ _ _ _ _ rfl (cn_le (by assumption) (by decide)) | with_reducible exact tX1_isText | with_reducible exact tX7_readName_114 (fun _ _ _ _ _ _ _ h9 => hk64 _ _ _ _ _ _ _ h9 (by first | exact cn_lt (by assumption) | exact cn_le (by assumption) (by decide))) | with_reducible refine tt_g (inb_of8 (by assumption) (by assumption)) ?_ | with_reducible refine tt_i (fun _ => ?_) (fun _ => ?_) | with_reducible refine tt_b ?_ (fun _ => ?_) | with_reducible refine tt_l (fun _ => ?_))
theorem tX7_readName_64 {tp : Ttp} {st : Tcu × Tse × Int32 × Int64 × Int32 × Int32 × Int32} : Tot (X7_readName_64 tp FU st) := by
  unfold X7_readName_64
  refine lp_cnt (fun st => st.2.2.2.2.2.2) (fun rec st hk => ?_) st
  obtain ⟨a0, a1, a2, a3, a4, a5, a6⟩ := st
  exact tX7_readName_64b (fun b0 b1 b2 b3 b4 b5 b6 h1 h2 => hk (b0, b1, b2, b3, b4, b5, b6) h1 h2)
theorem tX7_readName {tp : Ttp} {cu : Tcu} {se : Tse} {v2 : Int32}  : Tot (X7_readName tp cu se v2) := by
  unfold X7_readName
  repeat' (first | with_reducible exact tt_s | with_reducible exact tX1_numberAt | with_reducible exact tX1_toldText | with_reducible exact tX7_readName_64 | with_reducible refine tt_g (inb_of8 (by assumption) (by assumption)) ?_ | with_reducible refine tt_i (fun _ => ?_) (fun _ => ?_) | with_reducible refine tt_b ?_ (fun _ => ?_) | with_reducible refine tt_l (fun _ => ?_))
theorem tX7_readRow_132 {tp : Ttp} {cu : Tcu} {se : Tse} {z0 : Int32} {z1 : Int32}  : Tot (X7_readRow_132 tp cu se z0 z1) := by
  unfold X7_readRow_132
  repeat' (first | with_reducible exact tt_s | with_reducible refine tt_g (inb_of8 (by assumption) (by assumption)) ?_ | with_reducible refine tt_i (fun _ => ?_) (fun _ => ?_) | with_reducible refine tt_b ?_ (fun _ => ?_) | with_reducible refine tt_l (fun _ => ?_))
theorem tX7_readRow_109 {tp : Ttp} {cu : Tcu} {se : Tse} {v2 : Int32} {v6 : Int64} {v8 : Int64} {v10 : Int32} {z0 : Int32} {z1 : Int32}  : Tot (X7_readRow_109 tp cu se v2 v6 v8 v10 z0 z1) := by
  unfold X7_readRow_109
  repeat' (first | with_reducible exact tt_s | with_reducible exact tX7_readRow_132 | with_reducible refine tt_g (inb_of8 (by assumption) (by assumption)) ?_ | with_reducible refine tt_i (fun _ => ?_) (fun _ => ?_) | with_reducible refine tt_b ?_ (fun _ => ?_) | with_reducible refine tt_l (fun _ => ?_))
theorem tX7_readRow_92 {tp : Ttp} {cu : Tcu} {se : Tse} {v2 : Int32} {v6 : Int64} {v8 : Int64} {v10 : Int32}  : Tot (X7_readRow_92 tp cu se v2 v6 v8 v10) := by
  unfold X7_readRow_92
  repeat' (first | with_reducible exact tt_s | with_reducible exact tX7_readRow_109 | with_reducible refine tt_g (inb_of8 (by assumption) (by assumption)) ?_ | with_reducible refine tt_i (fun _ => ?_) (fun _ => ?_) | with_reducible refine tt_b ?_ (fun _ => ?_) | with_reducible refine tt_l (fun _ => ?_))
theorem tX7_readRow_65 {tp : Ttp} {cu : Tcu} {se : Tse} {v2 : Int32} {v3 : Int32} {v6 : Int64} {v8 : Int64} {z0 : Int32}  : Tot (X7_readRow_65 tp cu se v2 v3 v6 v8 z0) := by
  unfold X7_readRow_65
  repeat' (first | with_reducible exact tt_s | with_reducible exact tX7_readRow_92 | with_reducible refine tt_g (inb_of8 (by assumption) (by assumption)) ?_ | with_reducible refine tt_i (fun _ => ?_) (fun _ => ?_) | with_reducible refine tt_b ?_ (fun _ => ?_) | with_reducible refine tt_l (fun _ => ?_))
theorem tX7_readRow_60 {tp : Ttp} {cu : Tcu} {se : Tse} {v2 : Int32} {v3 : Int32} {v6 : Int64} {v8 : Int64}  : Tot (X7_readRow_60 tp cu se v2 v3 v6 v8) := by
  unfold X7_readRow_60
  repeat' (first | with_reducible exact tt_s | with_reducible exact tX7_readRow_65 | with_reducible refine tt_g (inb_of8 (by assumption) (by assumption)) ?_ | with_reducible refine tt_i (fun _ => ?_) (fun _ => ?_) | with_reducible refine tt_b ?_ (fun _ => ?_) | with_reducible refine tt_l (fun _ => ?_))
theorem tX7_readRow {tp : Ttp} {cu : Tcu} {se : Tse} {v2 : Int32}  : Tot (X7_readRow tp cu se v2) := by
  unfold X7_readRow
  repeat' (first | with_reducible exact tt_s | with_reducible exact tX1_numberAt | with_reducible exact tX7_readRow_60 | with_reducible exact tX7_readRow_65 | with_reducible refine tt_g (inb_of8 (by assumption) (by assumption)) ?_ | with_reducible refine tt_i (fun _ => ?_) (fun _ => ?_) | with_reducible refine tt_b ?_ (fun _ => ?_) | with_reducible refine tt_l (fun _ => ?_))
theorem tX7_read_55b {tp : Ttp} {k55 : Tcu → Tse → Int32 → Option (Tcu × Tse)} {cu : Tcu} {se : Tse} {v2 : Int32} (hk55 : ∀ b0 b1 b2, b2 = v2 + (1 : Int32) → Cn v2 → Tot (k55 b0 b1 b2)) : Tot (X7_read_55b tp k55 cu se v2) := by
  unfold X7_read_55b
  repeat' (first | with_reducible exact tt_s | with_reducible exact hk55 _ _ _ rfl (cn_lt (by assumption)) | with_reducible exact hk55 _ _ _ rfl (cn_le (by assumption) (by decide)) | with_reducible exact tX7_readName | with_reducible refine tt_g (inb_of8 (by assumption) (by assumption)) ?_ | with_reducible refine tt_i (fun _ => ?_) (fun _ => ?_) | with_reducible refine tt_b ?_ (fun _ => ?_) | with_reducible refine tt_l (fun _ => ?_))
theorem tX7_read_55 {tp : Ttp} {st : Tcu × Tse × Int32} : Tot (X7_read_55 tp FU st) := by
  unfold X7_read_55
  refine lp_cnt (fun st => st.2.2) (fun rec st hk => ?_) st
  obtain ⟨a0, a1, a2⟩ := st
  exact tX7_read_55b (fun b0 b1 b2 h1 h2 => hk (b0, b1, b2) h1 h2)
theorem tX7_read_53 {tp : Ttp} {cu : Tcu} {se : Tse}  : Tot (X7_read_53 tp cu se) := by
  unfold X7_read_53
  repeat' (first | with_reducible exact tt_s | with_reducible exact tX7_read_55 | with_reducible refine tt_g (inb_of8 (by assumption) (by assumption)) ?_ | with_reducible refine tt_i (fun _ => ?_) (fun _ => ?_) | with_reducible refine tt_b ?_ (fun _ => ?_) | with_reducible refine tt_l (fun _ => ?_))
theorem tX7_read_20b {tp : Ttp} {k20 : Tcu → Tse → Int32 → Option (Tcu × Tse)} {cu : Tcu} {se : Tse} {v2 : Int32} (hk20 : ∀ b0 b1 b2, b2 = v2 + (1 : Int32) → Cn v2 → Tot (k20 b0 b1 b2)) : Tot (X7_read_20b tp k20 cu se v2) := by
  unfold X7_read_20b
  repeat' (first | with_reducible exact tt_s | with_reducible exact hk20 _ _ _ rfl (cn_lt (by assumption)) | with_reducible exact hk20 _ _ _ rfl (cn_le (by assumption) (by decide)) | with_reducible exact tX7_read_53 | with_reducible exact tX7_readRow | with_reducible refine tt_g (inb_of8 (by assumption) (by assumption)) ?_ | with_reducible refine tt_i (fun _ => ?_) (fun _ => ?_) | with_reducible refine tt_b ?_ (fun _ => ?_) | with_reducible refine tt_l (fun _ => ?_))
theorem tX7_read_20 {tp : Ttp} {st : Tcu × Tse × Int32} : Tot (X7_read_20 tp FU st) := by
  unfold X7_read_20
  refine lp_cnt (fun st => st.2.2) (fun rec st hk => ?_) st
  obtain ⟨a0, a1, a2⟩ := st
  exact tX7_read_20b (fun b0 b1 b2 h1 h2 => hk (b0, b1, b2) h1 h2)
theorem tX7_read {tp : Ttp} {cu : Tcu} {se : Tse}  : Tot (X7_read tp cu se) := by
  unfold X7_read
  repeat' (first | with_reducible exact tt_s | with_reducible exact tX7_readHead | with_reducible exact tX7_read_20 | with_reducible refine tt_g (inb_of8 (by assumption) (by assumption)) ?_ | with_reducible refine tt_i (fun _ => ?_) (fun _ => ?_) | with_reducible refine tt_b ?_ (fun _ => ?_) | with_reducible refine tt_l (fun _ => ?_))
theorem tX8_readRow_148 {tp : Ttp} {se : Tse} {cu : Tcu} {sy : Tsy} {v4 : Int64} {v6 : Int64} {v9 : Int64} {v11 : Int32} {v12 : Int32}  : Tot (X8_readRow_148 tp se cu sy v4 v6 v9 v11 v12) := by
  unfold X8_readRow_148
  repeat' (first | with_reducible exact tt_s | with_reducible refine tt_g (inb_of8 (by assumption) (by assumption)) ?_ | with_reducible refine tt_i (fun _ => ?_) (fun _ => ?_) | with_reducible refine tt_b ?_ (fun _ => ?_) | with_reducible refine tt_l (fun _ => ?_))
theorem tX8_readRow_102 {tp : Ttp} {se : Tse} {cu : Tcu} {sy : Tsy} {v3 : Int32} {v4 : Int64} {v6 : Int64}  : Tot (X8_readRow_102 tp se cu sy v3 v4 v6) := by
  unfold X8_readRow_102
  repeat' (first | with_reducible exact tt_s | with_reducible exact tX1_numberAt | with_reducible exact tX1_toldText | with_reducible exact tX8_readRow_148 | with_reducible refine tt_g (inb_of8 (by assumption) (by assumption)) ?_ | with_reducible refine tt_i (fun _ => ?_) (fun _ => ?_) | with_reducible refine tt_b ?_ (fun _ => ?_) | with_reducible refine tt_l (fun _ => ?_))
theorem tX8_readRow_96 {tp : Ttp} {se : Tse} {cu : Tcu} {sy : Tsy} {v3 : Int32} {v4 : Int64} {v6 : Int64}  : Tot (X8_readRow_96 tp se cu sy v3 v4 v6) := by
  unfold X8_readRow_96
  repeat' (first | with_reducible exact tt_s | with_reducible exact tX8_readRow_102 | with_reducible refine tt_g (inb_of8 (by assumption) (by assumption)) ?_ | with_reducible refine tt_i (fun _ => ?_) (fun _ => ?_) | with_reducible refine tt_b ?_ (fun _ => ?_) | with_reducible refine tt_l (fun _ => ?_))
theorem tX8_readRow_43 {tp : Ttp} {se : Tse} {cu : Tcu} {sy : Tsy} {v3 : Int32} {v4 : Int64} {v6 : Int64} {z0 : Int32}  : Tot (X8_readRow_43 tp se cu sy v3 v4 v6 z0) := by
  unfold X8_readRow_43
  repeat' (first | with_reducible exact tt_s | with_reducible exact tX1_numberAt | with_reducible exact tX8_readRow_96 | with_reducible exact tX8_readRow_102 | with_reducible refine tt_g (inb_of8 (by assumption) (by assumption)) ?_ | with_reducible refine tt_i (fun _ => ?_) (fun _ => ?_) | with_reducible refine tt_b ?_ (fun _ => ?_) | with_reducible refine tt_l (fun _ => ?_))
theorem tX8_readRow {tp : Ttp} {cu : Tcu} {se : Tse} {sy : Tsy} {v3 : Int32}  : Tot (X8_readRow tp cu se sy v3) := by
  unfold X8_readRow
  repeat' (first | with_reducible exact tt_s | with_reducible exact tX1_numberAt | with_reducible exact tX1_byteAt | with_reducible exact tX8_readRow_43 | with_reducible refine tt_g (inb_of8 (by assumption) (by assumption)) ?_ | with_reducible refine tt_i (fun _ => ?_) (fun _ => ?_) | with_reducible refine tt_b ?_ (fun _ => ?_) | with_reducible refine tt_l (fun _ => ?_))
theorem tX8_read_63 {tp : Ttp} {se : Tse} {cu : Tcu} {sy : Tsy} {v3 : Int32} {v4 : Int32} {v5 : Int32}  : Tot (X8_read_63 tp se cu sy v3 v4 v5) := by
  unfold X8_read_63
  repeat' (first | with_reducible exact tt_s | with_reducible refine tt_g (inb_of8 (by assumption) (by assumption)) ?_ | with_reducible refine tt_i (fun _ => ?_) (fun _ => ?_) | with_reducible refine tt_b ?_ (fun _ => ?_) | with_reducible refine tt_l (fun _ => ?_))
theorem tX8_read_30b {tp : Ttp} {se : Tse} {k30 : Tcu → Tsy → Int32 → Int32 → Int32 → Int32 → Option (Tcu × Tsy)} {cu : Tcu} {sy : Tsy} {v3 : Int32} {v4 : Int32} {v5 : Int32} {v6 : Int32} (hk30 : ∀ b0 b1 b2 b3 b4 b5, b5 = v6 + (1 : Int32) → Cn v6 → Tot (k30 b0 b1 b2 b3 b4 b5)) : Tot (X8_read_30b tp se k30 cu sy v3 v4 v5 v6) := by
  unfold X8_read_30b
  repeat' (first | with_reducible exact tt_s | with_reducible exact hk30 _ _ _ _ _ _ rfl (cn_lt (by assumption)) | with_reducible exact hk30 _ _ _ _ _ _ rfl (cn_le (by assumption) (by decide)) | with_reducible exact tX8_read_63 | with_reducible exact tX8_readRow | with_reducible refine tt_g (inb_of8 (by assumption) (by assumption)) ?_ | with_reducible refine tt_i (fun _ => ?_) (fun _ => ?_) | with_reducible refine tt_b ?_ (fun _ => ?_) | with_reducible refine tt_l (fun _ => ?_))
theorem tX8_read_30 {tp : Ttp} {se : Tse} {st : Tcu × Tsy × Int32 × Int32 × Int32 × Int32} : Tot (X8_read_30 tp se FU st) := by
  unfold X8_read_30
  refine lp_cnt (fun st => st.2.2.2.2.2) (fun rec st hk => ?_) st
  obtain ⟨a0, a1, a2, a3, a4, a5⟩ := st
  exact tX8_read_30b (fun b0 b1 b2 b3 b4 b5 h1 h2 => hk (b0, b1, b2, b3, b4, b5) h1 h2)
theorem tX8_read {tp : Ttp} {cu : Tcu} {se : Tse} {sy : Tsy}  : Tot (X8_read tp cu se sy) := by
  unfold X8_read
  repeat' (first | with_reducible exact tt_s | with_reducible exact tX8_read_30 | with_reducible refine tt_g (inb_of8 (by assumption) (by assumption)) ?_ | with_reducible refine tt_i (fun _ => ?_) (fun _ => ?_) | with_reducible refine tt_b ?_ (fun _ => ?_) | with_reducible refine tt_l (fun _ => ?_))
theorem tX9_readAddress {tp : Ttp} {cu : Tcu}  : Tot (X9_readAddress tp cu) := by
  unfold X9_readAddress
  repeat' (first | with_reducible exact tt_s | with_reducible exact tX1_number | with_reducible refine tt_g (inb_of8 (by assumption) (by assumption)) ?_ | with_reducible refine tt_i (fun _ => ?_) (fun _ => ?_) | with_reducible refine tt_b ?_ (fun _ => ?_) | with_reducible refine tt_l (fun _ => ?_))
theorem tX9_readReference {tp : Ttp} {cu : Tcu} {ur : Tur}  : Tot (X9_readReference tp cu ur) := by
  unfold X9_readReference
  repeat' (first | with_reducible exact tt_s | with_reducible exact tX1_number | with_reducible refine tt_g (inb_of8 (by assumption) (by assumption)) ?_ | with_reducible refine tt_i (fun _ => ?_) (fun _ => ?_) | with_reducible refine tt_b ?_ (fun _ => ?_) | with_reducible refine tt_l (fun _ => ?_))
theorem tX9_readToldText {tp : Ttp} {cu : Tcu} {se : Tse} {ur : Tur}  : Tot (X9_readToldText tp cu se ur) := by
  unfold X9_readToldText
  repeat' (first | with_reducible exact tt_s | with_reducible exact tX1_number | with_reducible exact tX1_toldText | with_reducible refine tt_g (inb_of8 (by assumption) (by assumption)) ?_ | with_reducible refine tt_i (fun _ => ?_) (fun _ => ?_) | with_reducible refine tt_b ?_ (fun _ => ?_) | with_reducible refine tt_l (fun _ => ?_))
theorem tX9_skipBytes {tp : Ttp} {cu : Tcu}  : Tot (X9_skipBytes tp cu) := by
  unfold X9_skipBytes
  repeat' (first | with_reducible exact tt_s | with_reducible exact tX1_uleb | with_reducible refine tt_g (inb_of8 (by assumption) (by assumption)) ?_ | with_reducible refine tt_i (fun _ => ?_) (fun _ => ?_) | with_reducible refine tt_b ?_ (fun _ => ?_) | with_reducible refine tt_l (fun _ => ?_))
theorem tX9_readValue {tp : Ttp} {cu : Tcu} {se : Tse} {ur : Tur} {v1 : Int32} {v2 : Int64}  : Tot (X9_readValue tp cu se ur v1 v2) := by
  unfold X9_readValue
  repeat' (first | with_reducible exact tt_s | with_reducible exact tX9_readAddress | with_reducible exact tX1_number | with_reducible exact tX1_text | with_reducible exact tX1_sleb | with_reducible exact tX9_readToldText | with_reducible exact tX1_uleb | with_reducible exact tX9_readReference | with_reducible exact tX9_skipBytes | with_reducible refine tt_g (inb_of8 (by assumption) (by assumption)) ?_ | with_reducible refine tt_i (fun _ => ?_) (fun _ => ?_) | with_reducible refine tt_b ?_ (fun _ => ?_) | with_reducible refine tt_l (fun _ => ?_))
theorem tX9_readEntry_212 {tp : Ttp} {se : Tse} {ab : Tab} {k124 : Tcu → Tur → Ten → Int32 → Int32 → Int32 → Int32 → Option (Tcu × Tur × Ten)} {cu : Tcu} {ur : Tur} {en : Ten} {v6 : Int32} {v8 : Int32} {v9 : Int32} {v10 : Int32} (hk124 : ∀ b0 b1 b2 b3 b4 b5 b6, b6 = v10 + (1 : Int32) → Tot (k124 b0 b1 b2 b3 b4 b5 b6)) : Tot (X9_readEntry_212 tp se ab k124 cu ur en v6 v8 v9 v10) := by
  unfold X9_readEntry_212
  repeat' (first | with_reducible exact tt_s | with_reducible exact hk124 _ _ _ _ _ _ _ rfl | with_reducible refine tt_g (inb_of8 (by assumption) (by assumption)) ?_ | with_reducible refine tt_i (fun _ => ?_) (fun _ => ?_) | with_reducible refine tt_b ?_ (fun _ => ?_) | with_reducible refine tt_l (fun _ => ?_))
theorem tX9_readEntry_218 {tp : Ttp} {se : Tse} {ab : Tab} {cu : Tcu} {ur : Tur} {en : Ten} {v6 : Int32} {v8 : Int32}  : Tot (X9_readEntry_218 tp se ab cu ur en v6 v8) := by
  unfold X9_readEntry_218
  repeat' (first | with_reducible exact tt_s | with_reducible refine tt_g (inb_of8 (by assumption) (by assumption)) ?_ | with_reducible refine tt_i (fun _ => ?_) (fun _ => ?_) | with_reducible refine tt_b ?_ (fun _ => ?_) | with_reducible refine tt_l (fun _ => ?_))
theorem tX9_readEntry_124b {tp : Ttp} {se : Tse} {ab : Tab} {k124 : Tcu → Tur → Ten → Int32 → Int32 → Int32 → Int32 → Option (Tcu × Tur × Ten)} {cu : Tcu} {ur : Tur} {en : Ten} {v6 : Int32} {v8 : Int32} {v9 : Int32} {v10 : Int32} (hk124 : ∀ b0 b1 b2 b3 b4 b5 b6, b6 = v10 + (1 : Int32) → Cn v10 → Tot (k124 b0 b1 b2 b3 b4 b5 b6)) : Tot (X9_readEntry_124b tp se ab k124 cu ur en v6 v8 v9 v10) := by
  unfold X9_readEntry_124b
  repeat' (first | with_reducible exact tt_s | with_reducible exact hk124 _ _ _ _ _ _ _ rfl (cn_lt (by assumption)) | with_reducible exact hk124 _ _ _ _ _ _ _ rfl (cn_le (by assumption) (by decide)) | with_reducible exact tX9_readEntry_218 | with_reducible exact tX9_readValue | with_reducible exact tX9_readEntry_212 (fun _ _ _ _ _ _ _ h9 => hk124 _ _ _ _ _ _ _ h9 (by first | exact cn_lt (by assumption) | exact cn_le (by assumption) (by decide))) | with_reducible refine tt_g (inb_of8 (by assumption) (by assumption)) ?_ | with_reducible refine tt_i (fun _ => ?_) (fun _ => ?_) | with_reducible refine tt_b ?_ (fun _ => ?_) | with_reducible refine tt_l (fun _ => ?_))
theorem tX9_readEntry_124 {tp : Ttp} {se : Tse} {ab : Tab} {st : Tcu × Tur × Ten × Int32 × Int32 × Int32 × Int32} : Tot (X9_readEntry_124 tp se ab FU st) := by
  unfold X9_readEntry_124
  refine lp_cnt (fun st => st.2.2.2.2.2.2) (fun rec st hk => ?_) st
  obtain ⟨a0, a1, a2, a3, a4, a5, a6⟩ := st
  exact tX9_readEntry_124b (fun b0 b1 b2 b3 b4 b5 b6 h1 h2 => hk (b0, b1, b2, b3, b4, b5, b6) h1 h2)
theorem tX9_readEntry_89 {tp : Ttp} {se : Tse} {ab : Tab} {cu : Tcu} {ur : Tur} {en : Ten} {v2 : Int32} {v3 : Int32} {v6 : Int32} {z0 : Int32}  : Tot (X9_readEntry_89 tp se ab cu ur en v2 v3 v6 z0) := by
  unfold X9_readEntry_89
  repeat' (first | with_reducible exact tt_s | with_reducible exact tX9_readEntry_124 | with_reducible refine tt_g (inb_of8 (by assumption) (by assumption)) ?_ | with_reducible refine tt_i (fun _ => ?_) (fun _ => ?_) | with_reducible refine tt_b ?_ (fun _ => ?_) | with_reducible refine tt_l (fun _ => ?_))
theorem tX9_readEntry_54 {tp : Ttp} {se : Tse} {ab : Tab} {cu : Tcu} {ur : Tur} {en : Ten} {v2 : Int32} {v3 : Int32} {v6 : Int32}  : Tot (X9_readEntry_54 tp se ab cu ur en v2 v3 v6) := by
  unfold X9_readEntry_54
  repeat' (first | with_reducible exact tt_s | with_reducible exact tX9_readEntry_89 | with_reducible refine tt_g (inb_of8 (by assumption) (by assumption)) ?_ | with_reducible refine tt_i (fun _ => ?_) (fun _ => ?_) | with_reducible refine tt_b ?_ (fun _ => ?_) | with_reducible refine tt_l (fun _ => ?_))
theorem tX9_readEntry_45 {tp : Ttp} {se : Tse} {ab : Tab} {cu : Tcu} {ur : Tur} {en : Ten} {v2 : Int32} {v3 : Int32} {v6 : Int32}  : Tot (X9_readEntry_45 tp se ab cu ur en v2 v3 v6) := by
  unfold X9_readEntry_45
  repeat' (first | with_reducible exact tt_s | with_reducible exact tX9_readEntry_54 | with_reducible refine tt_g (inb_of8 (by assumption) (by assumption)) ?_ | with_reducible refine tt_i (fun _ => ?_) (fun _ => ?_) | with_reducible refine tt_b ?_ (fun _ => ?_) | with_reducible refine tt_l (fun _ => ?_))
theorem tX9_readEntry_26 {tp : Ttp} {se : Tse} {ab : Tab} {cu : Tcu} {ur : Tur} {en : Ten} {v2 : Int32} {v3 : Int32} {v6 : Int32}  : Tot (X9_readEntry_26 tp se ab cu ur en v2 v3 v6) := by
  unfold X9_readEntry_26
  repeat' (first | with_reducible exact tt_s | with_reducible exact tX9_readEntry_54 | with_reducible exact tX9_readEntry_45 | with_reducible refine tt_g (inb_of8 (by assumption) (by assumption)) ?_ | with_reducible refine tt_i (fun _ => ?_) (fun _ => ?_) | with_reducible refine tt_b ?_ (fun _ => ?_) | with_reducible refine tt_l (fun _ => ?_))
theorem tX9_readEntry {tp : Ttp} {cu : Tcu} {se : Tse} {ur : Tur} {ab : Tab} {en : Ten} {v2 : Int32} {v3 : Int32} {v4 : Int64}  : Tot (X9_readEntry tp cu se ur ab en v2 v3 v4) := by
  unfold X9_readEntry
  repeat' (first | with_reducible exact tt_s | with_reducible exact tX0_indexOf | with_reducible exact tX9_readEntry_26 | with_reducible refine tt_g (inb_of8 (by assumption) (by assumption)) ?_ | with_reducible refine tt_i (fun _ => ?_) (fun _ => ?_) | with_reducible refine tt_b ?_ (fun _ => ?_) | with_reducible refine tt_l (fun _ => ?_))
theorem tX9_readEntries_117 {tp : Ttp} {se : Tse} {ab : Tab} {k15 : Tcu → Tur → Ten → Int32 → Int32 → Int32 → Option (Tcu × Tur × Ten)} {cu : Tcu} {ur : Tur} {en : Ten} {v2 : Int32} {v4 : Int32} {z0 : Int32} (hk15 : ∀ b0 b1 b2 b3 b4 b5, b5 = v4 + (1 : Int32) → Tot (k15 b0 b1 b2 b3 b4 b5)) : Tot (X9_readEntries_117 tp se ab k15 cu ur en v2 v4 z0) := by
  unfold X9_readEntries_117
  repeat' (first | with_reducible exact tt_s | with_reducible exact hk15 _ _ _ _ _ _ rfl | with_reducible refine tt_g (inb_of8 (by assumption) (by assumption)) ?_ | with_reducible refine tt_i (fun _ => ?_) (fun _ => ?_) | with_reducible refine tt_b ?_ (fun _ => ?_) | with_reducible refine tt_l (fun _ => ?_))
theorem tX9_readEntries_105 {tp : Ttp} {se : Tse} {ab : Tab} {k15 : Tcu → Tur → Ten → Int32 → Int32 → Int32 → Option (Tcu × Tur × Ten)} {cu : Tcu} {ur : Tur} {en : Ten} {v2 : Int32} {v4 : Int32} (hk15 : ∀ b0 b1 b2 b3 b4 b5, b5 = v4 + (1 : Int32) → Tot (k15 b0 b1 b2 b3 b4 b5)) : Tot (X9_readEntries_105 tp se ab k15 cu ur en v2 v4) := by
  unfold X9_readEntries_105
  repeat' (first | with_reducible exact tt_s | with_reducible exact hk15 _ _ _ _ _ _ rfl | with_reducible exact tX9_readEntries_117 hk15 | with_reducible refine tt_g (inb_of8 (by assumption) (by assumption)) ?_ | with_reducible refine tt_i (fun _ => ?_) (fun _ => ?_) | with_reducible refine tt_b ?_ (fun _ => ?_) | with_reducible refine tt_l (fun _ => ?_))
theorem tX9_readEntries_124 {tp : Ttp} {se : Tse} {ab : Tab} {cu : Tcu} {ur : Tur} {en : Ten}  : Tot (X9_readEntries_124 tp se ab cu ur en) := by
  unfold X9_readEntries_124
  repeat' (first | with_reducible exact tt_s | with_reducible refine tt_g (inb_of8 (by assumption) (by assumption)) ?_ | with_reducible refine tt_i (fun _ => ?_) (fun _ => ?_) | with_reducible refine tt_b ?_ (fun _ => ?_) | with_reducible refine tt_l (fun _ => ?_))
theorem tX9_readEntries_15b {tp : Ttp} {se : Tse} {ab : Tab} {k15 : Tcu → Tur → Ten → Int32 → Int32 → Int32 → Option (Tcu × Tur × Ten)} {cu : Tcu} {ur : Tur} {en : Ten} {v2 : Int32} {v3 : Int32} {v4 : Int32} (hk15 : ∀ b0 b1 b2 b3 b4 b5, b5 = v4 + (1 : Int32) → Cn v4 → Tot (k15 b0 b1 b2 b3 b4 b5)) : Tot (X9_readEntries_15b tp se ab k15 cu ur en v2 v3 v4) := by
  unfold X9_readEntries_15b
  repeat' (first | with_reducible exact tt_s | with_reducible exact hk15 _ _ _ _ _ _ rfl (cn_lt (by assumption)) | with_reducible exact hk15 _ _ _ _ _ _ rfl (cn_le (by assumption) (by decide)) | with_reducible exact tX9_readEntries_124 | with_reducible exact tX1_uleb | with_reducible exact tX9_readEntries_105 (fun _ _ _ _ _ _ h9 => hk15 _ _ _ _ _ _ h9 (by first | exact cn_lt (by assumption) | exact cn_le (by assumption) (by decide))) | with_reducible exact tX9_readEntry | with_reducible refine tt_g (inb_of8 (by assumption) (by assumption)) ?_ | with_reducible refine tt_i (fun _ => ?_) (fun _ => ?_) | with_reducible refine tt_b ?_ (fun _ => ?_) | with_reducible refine tt_l (fun _ => ?_))
theorem tX9_readEntries_15 {tp : Ttp} {se : Tse} {ab : Tab} {st : Tcu × Tur × Ten × Int32 × Int32 × Int32} : Tot (X9_readEntries_15 tp se ab FU st) := by
  unfold X9_readEntries_15
  refine lp_cnt (fun st => st.2.2.2.2.2) (fun rec st hk => ?_) st
  obtain ⟨a0, a1, a2, a3, a4, a5⟩ := st
  exact tX9_readEntries_15b (fun b0 b1 b2 b3 b4 b5 h1 h2 => hk (b0, b1, b2, b3, b4, b5) h1 h2)
theorem tX9_readEntries {tp : Ttp} {cu : Tcu} {se : Tse} {ur : Tur} {ab : Tab} {en : Ten} {v2 : Int32}  : Tot (X9_readEntries tp cu se ur ab en v2) := by
  unfold X9_readEntries
  repeat' (first | with_reducible exact tt_s | with_reducible exact tX9_readEntries_15 | with_reducible refine tt_g (inb_of8 (by assumption) (by assumption)) ?_ | with_reducible refine tt_i (fun _ => ?_) (fun _ => ?_) | with_reducible refine tt_b ?_ (fun _ => ?_) | with_reducible refine tt_l (fun _ => ?_))
theorem tX9_readHead_28 {tp : Ttp} {se : Tse} {ur : Tur} {un : Tun} {cu : Tcu}  : Tot (X9_readHead_28 tp se ur un cu) := by
  unfold X9_readHead_28
  repeat' (first | with_reducible exact tt_s | with_reducible exact tX1_numberBetween | with_reducible exact tX1_number | with_reducible refine tt_g (inb_of8 (by assumption) (by assumption)) ?_ | with_reducible refine tt_i (fun _ => ?_) (fun _ => ?_) | with_reducible refine tt_b ?_ (fun _ => ?_) | with_reducible refine tt_l (fun _ => ?_))
theorem tX9_readHead {tp : Ttp} {cu : Tcu} {se : Tse} {ur : Tur} {un : Tun}  : Tot (X9_readHead tp cu se ur un) := by
  unfold X9_readHead
  repeat' (first | with_reducible exact tt_s | with_reducible exact tX1_enterCounted | with_reducible exact tX9_readHead_28 | with_reducible refine tt_g (inb_of8 (by assumption) (by assumption)) ?_ | with_reducible refine tt_i (fun _ => ?_) (fun _ => ?_) | with_reducible refine tt_b ?_ (fun _ => ?_) | with_reducible refine tt_l (fun _ => ?_))
theorem tX9_settleReferences_65 {tp : Ttp} {ur : Tur} {k2 : Tcu → Ten → Int32 → Int32 → Option (Tcu × Ten)} {cu : Tcu} {en : Ten} {v2 : Int32} {v3 : Int32} (hk2 : ∀ b0 b1 b2 b3, b3 = v3 + (1 : Int32) → Tot (k2 b0 b1 b2 b3)) : Tot (X9_settleReferences_65 tp ur k2 cu en v2 v3) := by
  unfold X9_settleReferences_65
  repeat' (first | with_reducible exact tt_s | with_reducible exact hk2 _ _ _ _ rfl | with_reducible refine tt_g (inb_of8 (by assumption) (by assumption)) ?_ | with_reducible refine tt_i (fun _ => ?_) (fun _ => ?_) | with_reducible refine tt_b ?_ (fun _ => ?_) | with_reducible refine tt_l (fun _ => ?_))
theorem tX9_settleReferences_73b {tp : Ttp} {ur : Tur} {k73 : Tcu → Ten → Int32 → Int32 → Option (Tcu × Ten)} {cu : Tcu} {en : Ten} {v2 : Int32} {v3 : Int32} (hk73 : ∀ b0 b1 b2 b3, b3 = v3 + (1 : Int32) → Cn v3 → Tot (k73 b0 b1 b2 b3)) : Tot (X9_settleReferences_73b tp ur k73 cu en v2 v3) := by
  unfold X9_settleReferences_73b
  repeat' (first | with_reducible exact tt_s | with_reducible exact hk73 _ _ _ _ rfl (cn_lt (by assumption)) | with_reducible exact hk73 _ _ _ _ rfl (cn_le (by assumption) (by decide)) | with_reducible exact tX2_settleOrigin | with_reducible refine tt_g (inb_of8 (by assumption) (by assumption)) ?_ | with_reducible refine tt_i (fun _ => ?_) (fun _ => ?_) | with_reducible refine tt_b ?_ (fun _ => ?_) | with_reducible refine tt_l (fun _ => ?_))
theorem tX9_settleReferences_73 {tp : Ttp} {ur : Tur} {st : Tcu × Ten × Int32 × Int32} : Tot (X9_settleReferences_73 tp ur FU st) := by
  unfold X9_settleReferences_73
  refine lp_cnt (fun st => st.2.2.2) (fun rec st hk => ?_) st
  obtain ⟨a0, a1, a2, a3⟩ := st
  exact tX9_settleReferences_73b (fun b0 b1 b2 b3 h1 h2 => hk (b0, b1, b2, b3) h1 h2)
theorem tX9_settleReferences_71 {tp : Ttp} {ur : Tur} {cu : Tcu} {en : Ten} {v2 : Int32}  : Tot (X9_settleReferences_71 tp ur cu en v2) := by
  unfold X9_settleReferences_71
  repeat' (first | with_reducible exact tt_s | with_reducible exact tX9_settleReferences_73 | with_reducible refine tt_g (inb_of8 (by assumption) (by assumption)) ?_ | with_reducible refine tt_i (fun _ => ?_) (fun _ => ?_) | with_reducible refine tt_b ?_ (fun _ => ?_) | with_reducible refine tt_l (fun _ => ?_))
theorem tX9_settleReferences_2b {tp : Ttp} {ur : Tur} {k2 : Tcu → Ten → Int32 → Int32 → Option (Tcu × Ten)} {cu : Tcu} {en : Ten} {v2 : Int32} {v3 : Int32} (hk2 : ∀ b0 b1 b2 b3, b3 = v3 + (1 : Int32) → Cn v3 → Tot (k2 b0 b1 b2 b3)) : Tot (X9_settleReferences_2b tp ur k2 cu en v2 v3) := by
  unfold X9_settleReferences_2b
  repeat' (first | with_reducible exact tt_s | with_reducible exact hk2 _ _ _ _ rfl (cn_lt (by assumption)) | with_reducible exact hk2 _ _ _ _ rfl (cn_le (by assumption) (by decide)) | with_reducible exact tX9_settleReferences_71 | with_reducible exact tX1_numberAt | with_reducible exact tX2_placedAt | with_reducible exact tX9_settleReferences_65 (fun _ _ _ _ h9 => hk2 _ _ _ _ h9 (by first | exact cn_lt (by assumption) | exact cn_le (by assumption) (by decide))) | with_reducible refine tt_g (inb_of8 (by assumption) (by assumption)) ?_ | with_reducible refine tt_i (fun _ => ?_) (fun _ => ?_) | with_reducible refine tt_b ?_ (fun _ => ?_) | with_reducible refine tt_l (fun _ => ?_))
theorem tX9_settleReferences_2 {tp : Ttp} {ur : Tur} {st : Tcu × Ten × Int32 × Int32} : Tot (X9_settleReferences_2 tp ur FU st) := by
  unfold X9_settleReferences_2
  refine lp_cnt (fun st => st.2.2.2) (fun rec st hk => ?_) st
  obtain ⟨a0, a1, a2, a3⟩ := st
  exact tX9_settleReferences_2b (fun b0 b1 b2 b3 h1 h2 => hk (b0, b1, b2, b3) h1 h2)
theorem tX9_settleReferences {tp : Ttp} {cu : Tcu} {ur : Tur} {en : Ten} {v2 : Int32}  : Tot (X9_settleReferences tp cu ur en v2) := by
  unfold X9_settleReferences
  repeat' (first | with_reducible exact tt_s | with_reducible exact tX9_settleReferences_2 | with_reducible refine tt_g (inb_of8 (by assumption) (by assumption)) ?_ | with_reducible refine tt_i (fun _ => ?_) (fun _ => ?_) | with_reducible refine tt_b ?_ (fun _ => ?_) | with_reducible refine tt_l (fun _ => ?_))
theorem tX9_readAll_37b {tp : Ttp} {se : Tse} {k37 : Tcu → Tur → Tab → Tun → Ten → Int32 → Int32 → Option (Tcu × Tur × Tab × Tun × Ten)} {cu : Tcu} {ur : Tur} {ab : Tab} {un : Tun} {en : Ten} {v2 : Int32} {v3 : Int32} (hk37 : ∀ b0 b1 b2 b3 b4 b5 b6, b6 = v3 + (1 : Int32) → Cn v3 → Tot (k37 b0 b1 b2 b3 b4 b5 b6)) : Tot (X9_readAll_37b tp se k37 cu ur ab un en v2 v3) := by
  unfold X9_readAll_37b
  repeat' (first | with_reducible exact tt_s | with_reducible exact hk37 _ _ _ _ _ _ _ rfl (cn_lt (by assumption)) | with_reducible exact hk37 _ _ _ _ _ _ _ rfl (cn_le (by assumption) (by decide)) | with_reducible exact tX9_readHead | with_reducible exact tX0_read | with_reducible exact tX9_readEntries | with_reducible exact tX9_settleReferences | with_reducible refine tt_g (inb_of8 (by assumption) (by assumption)) ?_ | with_reducible refine tt_i (fun _ => ?_) (fun _ => ?_) | with_reducible refine tt_b ?_ (fun _ => ?_) | with_reducible refine tt_l (fun _ => ?_))
theorem tX9_readAll_37 {tp : Ttp} {se : Tse} {st : Tcu × Tur × Tab × Tun × Ten × Int32 × Int32} : Tot (X9_readAll_37 tp se FU st) := by
  unfold X9_readAll_37
  refine lp_cnt (fun st => st.2.2.2.2.2.2) (fun rec st hk => ?_) st
  obtain ⟨a0, a1, a2, a3, a4, a5, a6⟩ := st
  exact tX9_readAll_37b (fun b0 b1 b2 b3 b4 b5 b6 h1 h2 => hk (b0, b1, b2, b3, b4, b5, b6) h1 h2)
theorem tX9_readAll {tp : Ttp} {cu : Tcu} {se : Tse} {ur : Tur} {ab : Tab} {un : Tun} {en : Ten}  : Tot (X9_readAll tp cu se ur ab un en) := by
  unfold X9_readAll
  repeat' (first | with_reducible exact tt_s | with_reducible exact tX9_readAll_37 | with_reducible refine tt_g (inb_of8 (by assumption) (by assumption)) ?_ | with_reducible refine tt_i (fun _ => ?_) (fun _ => ?_) | with_reducible refine tt_b ?_ (fun _ => ?_) | with_reducible refine tt_l (fun _ => ?_))
theorem tX11_takeSpare {nm : Tnm} {tp : Ttp} {kp : Tkp} {lo : Tlo} (hf : ∀ j, fits .byte (.int (tp j)) = true) : Tot (X11_takeSpare nm tp kp lo) := by
  have t66 : ∀ kp : Tkp, Tot (X11_takeSpare_66 nm tp kp lo) := fun kp => ⟨_, rfl⟩
  unfold X11_takeSpare
  refine tt_i (fun _ => t66 _) (fun c1 => ?_)
  refine tt_i (fun _ => t66 _) (fun c2 => ?_)
  refine tt_i (fun _ => t66 _) (fun c3 => ?_)
  refine tt_g ?_ (t66 _)
  obtain ⟨a, ha, rfl⟩ := nI_of c1
  have h8 : a ≤ 8000 := by
    rcases Nat.lt_or_ge 8000 a with q | q
    · exact absurd (show (8000 : Int32) < nI a from nI_lt (a := 8000) q ha) c2
    · exact q
  unfold cpOK
  rw [nI_clamp ha]
  simp only [Bool.and_eq_true, Bool.not_eq_true', decide_eq_false_iff_not, decide_eq_true_eq, List.all_eq_true]
  exact ⟨⟨c1, h8⟩, fun i _ => hf i⟩
theorem tX11_load {nm : Tnm} {tp : Ttp} {kp : Tkp} {cu : Tcu} {se : Tse} {ur : Tur} {ab : Tab} {lo : Tlo} {im : Tim} {sy : Tsy} {un : Tun} {en : Ten} {ra : Tra} {li : Tli} (hf : ∀ j, fits .byte (.int (tp j)) = true) : Tot (X11_load nm tp kp cu se ur ab lo im sy un en ra li) := by
  unfold X11_load
  refine tt_l (fun _ => ?_)
  refine tt_b tX7_read (fun _ => ?_)
  refine tt_b tX8_read (fun _ => ?_)
  refine tt_b tX9_readAll (fun _ => ?_)
  refine tt_b tX6_readAll (fun _ => ?_)
  refine tt_b tX4_readAll (fun _ => ?_)
  refine tt_i (fun _ => tt_s) (fun _ => ?_)
  exact tt_b (tX11_takeSpare hf) (fun _ => tt_s)

theorem tX11_entry {en : Ten} {v1 : Int32} {v2 : Int32}  : Tot (X11_entry en v1 v2) := by
  unfold X11_entry
  repeat' (first | with_reducible exact tt_s | with_reducible exact tX2_namedFor | with_reducible refine tt_g (inb_of8 (by assumption) (by assumption)) ?_ | with_reducible refine tt_i (fun _ => ?_) (fun _ => ?_) | with_reducible refine tt_b ?_ (fun _ => ?_) | with_reducible refine tt_l (fun _ => ?_))
theorem tX11_holds {en : Ten} {ra : Tra} {v1 : Int32} {v2 : Int64} : Tot (X11_holds en ra v1 v2) := by
  unfold X11_holds
  exact tt_bq tzX3_entryHolds (fun q h => tt_g h tt_s)
theorem tX11_find {lo : Tlo} {sy : Tsy} {en : Ten} {ra : Tra} {li : Tli} {v1 : Int64}  : Tot (X11_find lo sy en ra li v1) := by
  unfold X11_find
  repeat' (first | with_reducible exact tt_s | with_reducible exact tX5_seek | with_reducible refine tt_g (inb_of8 (by assumption) (by assumption)) ?_ | with_reducible refine tt_i (fun _ => ?_) (fun _ => ?_) | with_reducible refine tt_b ?_ (fun _ => ?_) | with_reducible refine tt_l (fun _ => ?_))
theorem tX11_frame {lo : Tlo} {un : Tun} {en : Ten} {li : Tli} {v1 : Int32} {v2 : Int32}  : Tot (X11_frame lo un en li v1 v2) := by
  unfold X11_frame
  repeat' (first | with_reducible exact tt_s | with_reducible exact tX2_namedFor | with_reducible refine tt_g (inb_of8 (by assumption) (by assumption)) ?_ | with_reducible refine tt_i (fun _ => ?_) (fun _ => ?_) | with_reducible refine tt_b ?_ (fun _ => ?_) | with_reducible refine tt_l (fun _ => ?_))
theorem tX11_sign {kp : Tkp} {v1 v2 v3 : Int32} : Tot (X11_sign kp v1 v2 v3) := by
  unfold X11_sign
  refine tt_i (fun _ => tt_s) (fun c1 => ?_)
  refine tt_i (fun _ => tt_s) (fun c2 => ?_)
  refine tt_i (fun c3 => ?_) (fun _ => tt_s)
  refine tt_i (fun c4 => ?_) (fun _ => tt_s)
  exact tt_g (sgn_in c1 c2 c4) tt_s
theorem tX11_name {kp : Tkp} {lo : Tlo} {sy : Tsy} {en : Ten} {v1 : Int32} {v2 : Int32}  : Tot (X11_name kp lo sy en v1 v2) := by
  unfold X11_name
  repeat' (first | with_reducible exact tt_s | with_reducible exact tX11_sign | with_reducible exact tX2_namedFor | with_reducible refine tt_g (inb_of8 (by assumption) (by assumption)) ?_ | with_reducible refine tt_i (fun _ => ?_) (fun _ => ?_) | with_reducible refine tt_b ?_ (fun _ => ?_) | with_reducible refine tt_l (fun _ => ?_))
theorem tX11_file {kp : Tkp} {lo : Tlo} {un : Tun} {en : Ten} {li : Tli} {v1 : Int32} {v2 : Int32}  : Tot (X11_file kp lo un en li v1 v2) := by
  unfold X11_file
  repeat' (first | with_reducible exact tt_s | with_reducible exact tX11_sign | with_reducible refine tt_g (inb_of8 (by assumption) (by assumption)) ?_ | with_reducible refine tt_i (fun _ => ?_) (fun _ => ?_) | with_reducible refine tt_b ?_ (fun _ => ?_) | with_reducible refine tt_l (fun _ => ?_))
