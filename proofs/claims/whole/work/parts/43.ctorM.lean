section
variable {p : Program} {l : Launch} {e : Env} {R : Room} {s : State} {m : MethodId} {args : Array Value} {below : List Frame} {meth : Method} {c : Code} {H : Heap} {locs : List Loc} {cells slots : Nat} {Q : State → Prop}
variable {cc : ByteArray} {pc nL : Nat} {ls : Array Slot} {rest : List Value} {ret : Option FieldType} {own : String} {x : Cond} {D : va_G} {cy : Nat → ClassId} {A : Nat → Prop} {H0 : Heap} {h0 idx : Nat} {fs : List Value} {as : va_W} {b : Nat × va_E}
/-- the object's own field, final: a row behind the others -/
theorem pfF (C : Cx p s m args meth c cc nL ret RX12 x) (hin : meth.name = "<init>") (hlen : fs.length = 95) (hK : va_K D vwCl (tysX cy) s) (hP : va_P D vwCl (((h0, .inr (12, fs)) :: as) ++ [b]) H) (hD : va_D A (((h0, .inr (12, fs)) :: as) ++ [b])) (hS : va_S A H0 H locs) (k : Nat) (hk : k < 95) (hfin : (TX12 k).2.2.2 = true) (hdecl : (TX12 k).1 = RX12) {ty : FieldType} {q : Nat} (hd : parseFieldDescriptor (TX12 k).2.2.1 = some ty) (hn : narrow ty (.ref q) = .ref q) (hfit : fits ty (.ref q) = true) (hl : Cond.fieldLink RX12 idx RX12 (TX12 k).2.1 (TX12 k).2.2.1 ∈ WA) (hdg : decode cc pc = .ok (.putfield idx, 3))
    (kk : ∀ (H1 : Heap) (locs1 : List Loc), (fs.set k (.ref q)).length = 95 → va_P D vwCl ((h0, .inr (12, fs.set k (.ref q))) :: (as ++ [b])) H1 → va_D A ((h0, .inr (12, fs.set k (.ref q))) :: (as ++ [b])) → va_S A H0 H1 locs1 → W p l e R s m args below meth c H1 locs1 cells slots Q (F0 m (pc + 3) ls rest)) : W p l e R s m args below meth c H locs cells slots Q (F0 m pc ls (.ref q :: .ref h0 :: rest)) :=
  va_putF (ci := 12) (C := RX12) (T := TX12) (N := 95) C.1 C.2.1 C.2.2.2.2.1 (fun w h => List.mem_cons_of_mem _ (inX12 w h)) tyX12 tyX12_ok nmX12 C.2.2.2.1 hK hP hD hS 0 rfl rfl k hk (C.2.2.2.2.1 _ (List.mem_cons_of_mem _ hl)) (fun y h9 => by rw [hdecl] at h9; exact h9) hfin hin hdecl hd hn hfit (by rw [hlen]; exact hk) hdg (fun H1 locs1 a b c => kk H1 locs1 (by rw [List.length_set]; exact hlen) a b c)
theorem pfI (C : Cx p s m args meth c cc nL ret RX12 x) (hlen : fs.length = 95) (hK : va_K D vwCl (tysX cy) s) (hP : va_P D vwCl ((h0, .inr (12, fs)) :: as) H) (hD : va_D A ((h0, .inr (12, fs)) :: as)) (hS : va_S A H0 H locs) (k : Nat) (hk : k < 95) (hfin : (TX12 k).2.2.2 = false) (hdecl : (TX12 k).1 = RX12) {v : Int32} (hd : parseFieldDescriptor (TX12 k).2.2.1 = some .int) (hl : Cond.fieldLink RX12 idx RX12 (TX12 k).2.1 (TX12 k).2.2.1 ∈ WA) (hdg : decode cc pc = .ok (.putfield idx, 3))
    (kk : ∀ (H1 : Heap) (locs1 : List Loc), (fs.set k (.int v)).length = 95 → va_P D vwCl ((h0, .inr (12, fs.set k (.int v))) :: as) H1 → va_D A ((h0, .inr (12, fs.set k (.int v))) :: as) → va_S A H0 H1 locs1 → W p l e R s m args below meth c H1 locs1 cells slots Q (F0 m (pc + 3) ls rest)) : W p l e R s m args below meth c H locs cells slots Q (F0 m pc ls (.int v :: .ref h0 :: rest)) :=
  va_put (ci := 12) (C := RX12) (T := TX12) (N := 95) C.1 C.2.1 C.2.2.2.2.1 (fun w h => List.mem_cons_of_mem _ (inX12 w h)) tyX12 tyX12_ok nmX12 C.2.2.2.1 hK hP hD hS 0 rfl rfl k hk (C.2.2.2.2.1 _ (List.mem_cons_of_mem _ hl)) (fun y h9 => by rw [hdecl] at h9; exact h9) hfin hd rfl rfl (by rw [hlen]; exact hk) hdg (fun H1 locs1 a b c => kk H1 locs1 (by rw [List.length_set]; exact hlen) a b c)
end
def mt0 : Tmt := ((fun _ => 0), (0 : Int32))
def mc0 : Tmc := ((0 : Int32), (0 : Int32), (0 : Int32), (0 : Int32))
def mb0 : Tmb := ((fun _ => 0), (1 : Int32), (0 : Int32))
def mo0 : Tmo := ((0 : Int32), (0 : Int32), (-1 : Int32))
def ms0 : Tms := ((fun _ => 0), (fun _ => 0), (fun _ => 0), (fun _ => 0), (fun _ => 0), (fun _ => 0))
def mk0 : Tmk := ((lstF [46, 115, 121, 109, 116, 97, 98, 0, 46, 115, 116, 114, 116, 97, 98, 0, 46, 100, 101, 98, 117, 103, 95, 97, 98, 98, 114, 101, 118, 0, 46, 100, 101, 98, 117, 103, 95, 105, 110, 102, 111, 0, 46, 100, 101, 98, 117, 103, 95, 115, 116, 114, 0, 46, 100, 101, 98, 117, 103, 95, 108, 105, 110, 101, 0, 46, 100, 101, 98, 117, 103, 95, 114, 110, 103, 108, 105, 115, 116, 115, 0]), (lstF [127, 69, 76, 70, 2, 1, 1]))
def my0 : Tmy := ((fun _ => 0), (fun _ => 0), (fun _ => 0), (fun _ => 0), (fun _ => 0))
def mu0 : Tmu := ((fun _ => 0), (fun _ => 0), (fun _ => 0), (fun _ => 0), (fun _ => 0), (fun _ => 0), (fun _ => 0))
def ma0 : Tma := ((0 : Int32), (fun _ => 0), (fun _ => 0), (fun _ => 0), (fun _ => 0), (fun _ => 0), (fun _ => 0), (fun _ => 0))
def me0 : Tme := ((fun _ => 0), (fun _ => 0), (fun _ => 0), (fun _ => 0), (fun _ => 0), (fun _ => 0), (fun _ => 0), (fun _ => 0), (fun _ => 0), (fun _ => 0), (fun _ => 0), (fun _ => 0), (fun _ => 0), (fun _ => 0), (fun _ => 0), (fun _ => 0), (fun _ => 0), (fun _ => 0), (fun _ => 0))
def mr0 : Tmr := ((0 : Int32), (fun _ => 0), (fun _ => 0), (fun _ => 0), (fun _ => 0))
def mp0 : Tmp := ((fun _ => 0), (0 : Int32))
def mg0 : Tmg := ((fun _ => 0), (fun _ => 0), (fun _ => 0), (fun _ => 0))
def mw0 : Tmw := ((fun _ => 0), (fun _ => 0), (fun _ => 0), (fun _ => 0), (fun _ => 0), (fun _ => 0))
def mf0 : Tmf := ((fun _ => 0), (fun _ => 0), (fun _ => 0))
def ml0 : Tml := ((0 : Int32), (0 : Int32), (0 : Int32), (0 : Int32), (fun _ => 0), (0 : Int64), (0 : Int64), (0 : Int64), (0 : Int64), (0 : Int32))
def mq0 : Tmq := ((0 : Int32), (fun _ => 0), (fun _ => 0), (fun _ => 0), (-1 : Int32), (0 : Int32))
set_option maxRecDepth 50000 in
set_option maxHeartbeats 4000000 in
theorem kX12_init {l : Launch} {D : va_G} {cy : Nat → ClassId} {h0 sz : Nat}  : Met l yX12_init (.code yX12_init cX12_init 1 none :: WA) ({ frames := 1, cells := 70, slots := 54366, locals := 12 } : Room) (va_Pc (.ref h0 :: []) (PN D cy sz [(h0, .inr (12, [.null, .int 0, .int 0, .int 0, .int 0, .int 0, .int 0, .int 0, .null, .int 0, .null, .null, .null, .null, .null, .null, .null, .null, .null, .null, .null, .null, .null, .null, .null, .null, .null, .null, .null, .null, .null, .null, .null, .null, .int 0, .null, .null, .null, .null, .null, .null, .null, .null, .null, .null, .null, .null, .null, .null, .null, .null, .null, .null, .null, .null, .null, .null, .null, .null, .null, .int 0, .null, .null, .null, .null, .null, .int 0, .null, .null, .null, .null, .null, .null, .null, .null, .null, .null, .int 0, .int 0, .int 0, .int 0, .int 0, .int 0, .null, .long 0, .long 0, .long 0, .long 0, .int 0, .int 0, .null, .null, .null, .int 0, .int 0]))])) (QN D (fun f => GM cy (adOf h0 f) mt0 mc0 mb0 mo0 ms0 mk0 my0 mu0 ma0 me0 mr0 mp0 mg0 mw0 mf0 ml0 mq0) (An h0 sz)) 70 54366 (An h0 sz) := by
  refine met_ini (by decide) (Nat.le_of_ble_eq_true rfl) rfl (fun p e s m below meth c ls C hin hP hD hK hN hl => ?_)
  obtain ⟨hx, hb, hml, hown, hts, hr, hlk⟩ := id C
  have hl : lv_has ls 1 [(0, .ref h0)] := hl
  have hA : ∀ q, s.heap.size ≤ q → An h0 s.heap.size q := fun q h => Or.inr h
  generalize hAe : An h0 s.heap.size = A at hD hA ⊢
  have hS : va_S A s.heap s.heap [] := va_S.rf
  have hlen : ([.null, .int 0, .int 0, .int 0, .int 0, .int 0, .int 0, .int 0, .null, .int 0, .null, .null, .null, .null, .null, .null, .null, .null, .null, .null, .null, .null, .null, .null, .null, .null, .null, .null, .null, .null, .null, .null, .null, .null, .int 0, .null, .null, .null, .null, .null, .null, .null, .null, .null, .null, .null, .null, .null, .null, .null, .null, .null, .null, .null, .null, .null, .null, .null, .null, .null, .int 0, .null, .null, .null, .null, .null, .int 0, .null, .null, .null, .null, .null, .null, .null, .null, .null, .null, .int 0, .int 0, .int 0, .int 0, .int 0, .int 0, .null, .long 0, .long 0, .long 0, .long 0, .int 0, .int 0, .null, .null, .null, .int 0, .int 0] : List Value).length = 95 := rfl
  have hP : va_P D vwCl ((h0, .inr (12, [.null, .int 0, .int 0, .int 0, .int 0, .int 0, .int 0, .int 0, .null, .int 0, .null, .null, .null, .null, .null, .null, .null, .null, .null, .null, .null, .null, .null, .null, .null, .null, .null, .null, .null, .null, .null, .null, .null, .null, .int 0, .null, .null, .null, .null, .null, .null, .null, .null, .null, .null, .null, .null, .null, .null, .null, .null, .null, .null, .null, .null, .null, .null, .null, .null, .null, .int 0, .null, .null, .null, .null, .null, .int 0, .null, .null, .null, .null, .null, .null, .null, .null, .null, .null, .int 0, .int 0, .int 0, .int 0, .int 0, .int 0, .null, .long 0, .long 0, .long 0, .long 0, .int 0, .int 0, .null, .null, .null, .int 0, .int 0])) :: []) s.heap := hP
  refine lv_aload_n hx hb dX12_init_0 rfl (lv_at hl 0 rfl) ?_
  refine W.objInit hx hb hown (hts _ (List.mem_cons_of_mem _ w1336)) (hts _ (List.mem_cons_of_mem _ w117)) (hts _ (List.mem_cons_of_mem _ w118)) rfl (by rw [hml]; exact hl.1) rfl dX12_init_1 (Nat.le_of_ble_eq_true rfl) (Nat.le_of_ble_eq_true rfl) ?_
  refine W.eq (g2 := F0 m 4 ls []) rfl ?_
  refine lv_aload_n hx hb dX12_init_4 rfl (lv_at hl 0 rfl) ?_
  refine lv_sipush (v := (8000 : Int32)) hx hb dX12_init_5 (by decide) ?_
  refine nwa (atype := .int) (ty := .int) (N := 8000) (a0 := (8000, .inl (fun _ => 0))) C rfl w170 (ra_i hK).1 (ra_i hK).2 hK hP hD hS hA (fun _ => rfl) (by decide) (by decide) (by decide) (Nat.le_of_ble_eq_true rfl) (Nat.le_of_ble_eq_true rfl) dX12_init_8 (fun q1 H hP hD hS => ?_)
  refine W.cs (cells' := 1) (slots' := 8000) rfl rfl ?_
  refine pfF (ty := (.array .int)) C hin hlen hK hP hD hS 0 (by decide) rfl rfl rfl rfl rfl w1337 dX12_init_10 (fun H locs hlen hP hD hS => ?_)
  refine lv_aload_n hx hb dX12_init_13 rfl (lv_at hl 0 rfl) ?_
  refine lv_iconst (v := (-1 : Int32)) hx hb dX12_init_14 (by decide) ?_
  refine pfI C hlen hK hP hD hS 5 (by decide) rfl rfl rfl w1342 dX12_init_15 (fun H locs hlen hP hD hS => ?_)
  refine lv_aload_n hx hb dX12_init_18 rfl (lv_at hl 0 rfl) ?_
  refine lv_iconst (v := (1 : Int32)) hx hb dX12_init_19 (by decide) ?_
  refine pfI C hlen hK hP hD hS 6 (by decide) rfl rfl rfl w1343 dX12_init_20 (fun H locs hlen hP hD hS => ?_)
  refine lv_aload_n hx hb dX12_init_23 rfl (lv_at hl 0 rfl) ?_
  refine lv_sipush (v := (16000 : Int32)) hx hb dX12_init_24 (by decide) ?_
  refine nwa (atype := .int) (ty := .int) (N := 16000) (a0 := (16000, .inl (fun _ => 0))) C rfl w170 (ra_i hK).1 (ra_i hK).2 hK hP hD hS hA (fun _ => rfl) (by decide) (by decide) (by decide) (Nat.le_of_ble_eq_true rfl) (Nat.le_of_ble_eq_true rfl) dX12_init_27 (fun q2 H hP hD hS => ?_)
  refine W.cs (cells' := 2) (slots' := 24000) rfl rfl ?_
  refine pfF (ty := (.array .int)) C hin hlen hK hP hD hS 8 (by decide) rfl rfl rfl rfl rfl w1345 dX12_init_29 (fun H locs hlen hP hD hS => ?_)
  refine lv_aload_n hx hb dX12_init_32 rfl (lv_at hl 0 rfl) ?_
  refine lv_iconst (v := (2 : Int32)) hx hb dX12_init_33 (by decide) ?_
  refine nwa (atype := .int) (ty := .int) (N := 2) (a0 := (2, .inl (fun _ => 0))) C rfl w170 (ra_i hK).1 (ra_i hK).2 hK hP hD hS hA (fun _ => rfl) (by decide) (by decide) (by decide) (Nat.le_of_ble_eq_true rfl) (Nat.le_of_ble_eq_true rfl) dX12_init_34 (fun q3 H hP hD hS => ?_)
  refine W.cs (cells' := 3) (slots' := 24002) rfl rfl ?_
  refine pfF (ty := (.array .int)) C hin hlen hK hP hD hS 10 (by decide) rfl rfl rfl rfl rfl w1347 dX12_init_36 (fun H locs hlen hP hD hS => ?_)
  refine lv_aload_n hx hb dX12_init_39 rfl (lv_at hl 0 rfl) ?_
  refine lv_iconst (v := (2 : Int32)) hx hb dX12_init_40 (by decide) ?_
  refine nwa (atype := .int) (ty := .int) (N := 2) (a0 := (2, .inl (fun _ => 0))) C rfl w170 (ra_i hK).1 (ra_i hK).2 hK hP hD hS hA (fun _ => rfl) (by decide) (by decide) (by decide) (Nat.le_of_ble_eq_true rfl) (Nat.le_of_ble_eq_true rfl) dX12_init_41 (fun q4 H hP hD hS => ?_)
  refine W.cs (cells' := 4) (slots' := 24004) rfl rfl ?_
  refine pfF (ty := (.array .int)) C hin hlen hK hP hD hS 11 (by decide) rfl rfl rfl rfl rfl w1348 dX12_init_43 (fun H locs hlen hP hD hS => ?_)
  refine lv_aload_n hx hb dX12_init_46 rfl (lv_at hl 0 rfl) ?_
  refine lv_iconst (v := (2 : Int32)) hx hb dX12_init_47 (by decide) ?_
  refine nwa (atype := .int) (ty := .int) (N := 2) (a0 := (2, .inl (fun _ => 0))) C rfl w170 (ra_i hK).1 (ra_i hK).2 hK hP hD hS hA (fun _ => rfl) (by decide) (by decide) (by decide) (Nat.le_of_ble_eq_true rfl) (Nat.le_of_ble_eq_true rfl) dX12_init_48 (fun q5 H hP hD hS => ?_)
  refine W.cs (cells' := 5) (slots' := 24006) rfl rfl ?_
  refine pfF (ty := (.array .int)) C hin hlen hK hP hD hS 12 (by decide) rfl rfl rfl rfl rfl w1349 dX12_init_50 (fun H locs hlen hP hD hS => ?_)
  refine lv_aload_n hx hb dX12_init_53 rfl (lv_at hl 0 rfl) ?_
  refine lv_iconst (v := (2 : Int32)) hx hb dX12_init_54 (by decide) ?_
  refine nwa (atype := .int) (ty := .int) (N := 2) (a0 := (2, .inl (fun _ => 0))) C rfl w170 (ra_i hK).1 (ra_i hK).2 hK hP hD hS hA (fun _ => rfl) (by decide) (by decide) (by decide) (Nat.le_of_ble_eq_true rfl) (Nat.le_of_ble_eq_true rfl) dX12_init_55 (fun q6 H hP hD hS => ?_)
  refine W.cs (cells' := 6) (slots' := 24008) rfl rfl ?_
  refine pfF (ty := (.array .int)) C hin hlen hK hP hD hS 13 (by decide) rfl rfl rfl rfl rfl w1350 dX12_init_57 (fun H locs hlen hP hD hS => ?_)
  refine lv_aload_n hx hb dX12_init_60 rfl (lv_at hl 0 rfl) ?_
  refine lv_iconst (v := (2 : Int32)) hx hb dX12_init_61 (by decide) ?_
  refine nwa (atype := .int) (ty := .int) (N := 2) (a0 := (2, .inl (fun _ => 0))) C rfl w170 (ra_i hK).1 (ra_i hK).2 hK hP hD hS hA (fun _ => rfl) (by decide) (by decide) (by decide) (Nat.le_of_ble_eq_true rfl) (Nat.le_of_ble_eq_true rfl) dX12_init_62 (fun q7 H hP hD hS => ?_)
  refine W.cs (cells' := 7) (slots' := 24010) rfl rfl ?_
  refine pfF (ty := (.array .int)) C hin hlen hK hP hD hS 14 (by decide) rfl rfl rfl rfl rfl w1351 dX12_init_64 (fun H locs hlen hP hD hS => ?_)
  refine lv_aload_n hx hb dX12_init_67 rfl (lv_at hl 0 rfl) ?_
  refine lv_iconst (v := (2 : Int32)) hx hb dX12_init_68 (by decide) ?_
  refine nwa (atype := .int) (ty := .int) (N := 2) (a0 := (2, .inl (fun _ => 0))) C rfl w170 (ra_i hK).1 (ra_i hK).2 hK hP hD hS hA (fun _ => rfl) (by decide) (by decide) (by decide) (Nat.le_of_ble_eq_true rfl) (Nat.le_of_ble_eq_true rfl) dX12_init_69 (fun q8 H hP hD hS => ?_)
  refine W.cs (cells' := 8) (slots' := 24012) rfl rfl ?_
  refine pfF (ty := (.array .int)) C hin hlen hK hP hD hS 15 (by decide) rfl rfl rfl rfl rfl w1352 dX12_init_71 (fun H locs hlen hP hD hS => ?_)
  refine lv_aload_n hx hb dX12_init_74 rfl (lv_at hl 0 rfl) ?_
  refine lv_iconst (v := (2 : Int32)) hx hb dX12_init_75 (by decide) ?_
  refine nwa (atype := .int) (ty := .int) (N := 2) (a0 := (2, .inl (fun _ => 0))) C rfl w170 (ra_i hK).1 (ra_i hK).2 hK hP hD hS hA (fun _ => rfl) (by decide) (by decide) (by decide) (Nat.le_of_ble_eq_true rfl) (Nat.le_of_ble_eq_true rfl) dX12_init_76 (fun q9 H hP hD hS => ?_)
  refine W.cs (cells' := 9) (slots' := 24014) rfl rfl ?_
  refine pfF (ty := (.array .int)) C hin hlen hK hP hD hS 16 (by decide) rfl rfl rfl rfl rfl w1353 dX12_init_78 (fun H locs hlen hP hD hS => ?_)
  refine lv_aload_n hx hb dX12_init_81 rfl (lv_at hl 0 rfl) ?_
  refine lv_bipush (v := (30 : Int32)) hx hb dX12_init_82 (by decide) ?_
  refine nwa (atype := .int) (ty := .int) (N := 30) (a0 := (30, .inl (fun _ => 0))) C rfl w170 (ra_i hK).1 (ra_i hK).2 hK hP hD hS hA (fun _ => rfl) (by decide) (by decide) (by decide) (Nat.le_of_ble_eq_true rfl) (Nat.le_of_ble_eq_true rfl) dX12_init_84 (fun q10 H hP hD hS => ?_)
  refine W.cs (cells' := 10) (slots' := 24044) rfl rfl ?_
  refine pfF (ty := (.array .int)) C hin hlen hK hP hD hS 17 (by decide) rfl rfl rfl rfl rfl w1354 dX12_init_86 (fun H locs hlen hP hD hS => ?_)
  refine lv_aload_n hx hb dX12_init_89 rfl (lv_at hl 0 rfl) ?_
  refine lv_bipush (v := (30 : Int32)) hx hb dX12_init_90 (by decide) ?_
  refine nwa (atype := .int) (ty := .int) (N := 30) (a0 := (30, .inl (fun _ => 0))) C rfl w170 (ra_i hK).1 (ra_i hK).2 hK hP hD hS hA (fun _ => rfl) (by decide) (by decide) (by decide) (Nat.le_of_ble_eq_true rfl) (Nat.le_of_ble_eq_true rfl) dX12_init_92 (fun q11 H hP hD hS => ?_)
  refine W.cs (cells' := 11) (slots' := 24074) rfl rfl ?_
  refine pfF (ty := (.array .int)) C hin hlen hK hP hD hS 18 (by decide) rfl rfl rfl rfl rfl w1355 dX12_init_94 (fun H locs hlen hP hD hS => ?_)
  refine lv_aload_n hx hb dX12_init_97 rfl (lv_at hl 0 rfl) ?_
  refine lv_bipush (v := (30 : Int32)) hx hb dX12_init_98 (by decide) ?_
  refine nwa (atype := .int) (ty := .int) (N := 30) (a0 := (30, .inl (fun _ => 0))) C rfl w170 (ra_i hK).1 (ra_i hK).2 hK hP hD hS hA (fun _ => rfl) (by decide) (by decide) (by decide) (Nat.le_of_ble_eq_true rfl) (Nat.le_of_ble_eq_true rfl) dX12_init_100 (fun q12 H hP hD hS => ?_)
  refine W.cs (cells' := 12) (slots' := 24104) rfl rfl ?_
  refine pfF (ty := (.array .int)) C hin hlen hK hP hD hS 19 (by decide) rfl rfl rfl rfl rfl w1356 dX12_init_102 (fun H locs hlen hP hD hS => ?_)
  refine lv_aload_n hx hb dX12_init_105 rfl (lv_at hl 0 rfl) ?_
  refine lv_bipush (v := (7 : Int32)) hx hb dX12_init_106 (by decide) ?_
  refine nwa (atype := .int) (ty := .int) (N := 7) (a0 := (7, .inl (fun _ => 0))) C rfl w170 (ra_i hK).1 (ra_i hK).2 hK hP hD hS hA (fun _ => rfl) (by decide) (by decide) (by decide) (Nat.le_of_ble_eq_true rfl) (Nat.le_of_ble_eq_true rfl) dX12_init_108 (fun q13 H hP hD hS => ?_)
  refine W.cs (cells' := 13) (slots' := 24111) rfl rfl ?_
  refine pfF (ty := (.array .int)) C hin hlen hK hP hD hS 20 (by decide) rfl rfl rfl rfl rfl w1357 dX12_init_110 (fun H locs hlen hP hD hS => ?_)
  refine lv_aload_n hx hb dX12_init_113 rfl (lv_at hl 0 rfl) ?_
  refine lv_bipush (v := (7 : Int32)) hx hb dX12_init_114 (by decide) ?_
  refine nwa (atype := .int) (ty := .int) (N := 7) (a0 := (7, .inl (fun _ => 0))) C rfl w170 (ra_i hK).1 (ra_i hK).2 hK hP hD hS hA (fun _ => rfl) (by decide) (by decide) (by decide) (Nat.le_of_ble_eq_true rfl) (Nat.le_of_ble_eq_true rfl) dX12_init_116 (fun q14 H hP hD hS => ?_)
  refine W.cs (cells' := 14) (slots' := 24118) rfl rfl ?_
  refine pfF (ty := (.array .int)) C hin hlen hK hP hD hS 21 (by decide) rfl rfl rfl rfl rfl w1358 dX12_init_118 (fun H locs hlen hP hD hS => ?_)
  refine lv_aload_n hx hb dX12_init_121 rfl (lv_at hl 0 rfl) ?_
  refine lv_bipush (v := (81 : Int32)) hx hb dX12_init_122 (by decide) ?_
  refine nwa (atype := .int) (ty := .int) (N := 81) (a0 := (81, .inl (lstF []))) C rfl w170 (ra_i hK).1 (ra_i hK).2 hK hP hD hS hA (fun _ => rfl) (by decide) (by decide) (by decide) (Nat.le_of_ble_eq_true rfl) (Nat.le_of_ble_eq_true rfl) dX12_init_124 (fun q15 H hP hD hS => ?_)
  refine W.cs (cells' := 15) (slots' := 24199) rfl rfl ?_
  refine lv_dup hx hb dX12_init_126 rfl ?_
  refine lv_iconst (v := (0 : Int32)) hx hb dX12_init_127 (by decide) ?_
  refine lv_bipush (v := (46 : Int32)) hx hb dX12_init_128 (by decide) ?_
  refine stL (l0 := []) (l1 := [46]) (i := (0 : Int32)) (v := (46 : Int32)) C hK hP hD hS (by decide) (inb_in (by decide)) rfl dX12_init_130 (fun H locs hP hD hS => ?_)
  refine lv_dup hx hb dX12_init_131 rfl ?_
  refine lv_iconst (v := (1 : Int32)) hx hb dX12_init_132 (by decide) ?_
  refine lv_bipush (v := (115 : Int32)) hx hb dX12_init_133 (by decide) ?_
  refine stL (l0 := [46]) (l1 := [46, 115]) (i := (1 : Int32)) (v := (115 : Int32)) C hK hP hD hS (by decide) (inb_in (by decide)) rfl dX12_init_135 (fun H locs hP hD hS => ?_)
  refine lv_dup hx hb dX12_init_136 rfl ?_
  refine lv_iconst (v := (2 : Int32)) hx hb dX12_init_137 (by decide) ?_
  refine lv_bipush (v := (121 : Int32)) hx hb dX12_init_138 (by decide) ?_
  refine stL (l0 := [46, 115]) (l1 := [46, 115, 121]) (i := (2 : Int32)) (v := (121 : Int32)) C hK hP hD hS (by decide) (inb_in (by decide)) rfl dX12_init_140 (fun H locs hP hD hS => ?_)
  refine lv_dup hx hb dX12_init_141 rfl ?_
  refine lv_iconst (v := (3 : Int32)) hx hb dX12_init_142 (by decide) ?_
  refine lv_bipush (v := (109 : Int32)) hx hb dX12_init_143 (by decide) ?_
  refine stL (l0 := [46, 115, 121]) (l1 := [46, 115, 121, 109]) (i := (3 : Int32)) (v := (109 : Int32)) C hK hP hD hS (by decide) (inb_in (by decide)) rfl dX12_init_145 (fun H locs hP hD hS => ?_)
  refine lv_dup hx hb dX12_init_146 rfl ?_
  refine lv_iconst (v := (4 : Int32)) hx hb dX12_init_147 (by decide) ?_
  refine lv_bipush (v := (116 : Int32)) hx hb dX12_init_148 (by decide) ?_
  refine stL (l0 := [46, 115, 121, 109]) (l1 := [46, 115, 121, 109, 116]) (i := (4 : Int32)) (v := (116 : Int32)) C hK hP hD hS (by decide) (inb_in (by decide)) rfl dX12_init_150 (fun H locs hP hD hS => ?_)
  refine lv_dup hx hb dX12_init_151 rfl ?_
  refine lv_iconst (v := (5 : Int32)) hx hb dX12_init_152 (by decide) ?_
  refine lv_bipush (v := (97 : Int32)) hx hb dX12_init_153 (by decide) ?_
  refine stL (l0 := [46, 115, 121, 109, 116]) (l1 := [46, 115, 121, 109, 116, 97]) (i := (5 : Int32)) (v := (97 : Int32)) C hK hP hD hS (by decide) (inb_in (by decide)) rfl dX12_init_155 (fun H locs hP hD hS => ?_)
  refine lv_dup hx hb dX12_init_156 rfl ?_
  refine lv_bipush (v := (6 : Int32)) hx hb dX12_init_157 (by decide) ?_
  refine lv_bipush (v := (98 : Int32)) hx hb dX12_init_159 (by decide) ?_
  refine stL (l0 := [46, 115, 121, 109, 116, 97]) (l1 := [46, 115, 121, 109, 116, 97, 98]) (i := (6 : Int32)) (v := (98 : Int32)) C hK hP hD hS (by decide) (inb_in (by decide)) rfl dX12_init_161 (fun H locs hP hD hS => ?_)
  refine lv_dup hx hb dX12_init_162 rfl ?_
  refine lv_bipush (v := (7 : Int32)) hx hb dX12_init_163 (by decide) ?_
  refine lv_iconst (v := (0 : Int32)) hx hb dX12_init_165 (by decide) ?_
  refine stL (l0 := [46, 115, 121, 109, 116, 97, 98]) (l1 := [46, 115, 121, 109, 116, 97, 98, 0]) (i := (7 : Int32)) (v := (0 : Int32)) C hK hP hD hS (by decide) (inb_in (by decide)) rfl dX12_init_166 (fun H locs hP hD hS => ?_)
  refine lv_dup hx hb dX12_init_167 rfl ?_
  refine lv_bipush (v := (8 : Int32)) hx hb dX12_init_168 (by decide) ?_
  refine lv_bipush (v := (46 : Int32)) hx hb dX12_init_170 (by decide) ?_
  refine stL (l0 := [46, 115, 121, 109, 116, 97, 98, 0]) (l1 := [46, 115, 121, 109, 116, 97, 98, 0, 46]) (i := (8 : Int32)) (v := (46 : Int32)) C hK hP hD hS (by decide) (inb_in (by decide)) rfl dX12_init_172 (fun H locs hP hD hS => ?_)
  refine lv_dup hx hb dX12_init_173 rfl ?_
  refine lv_bipush (v := (9 : Int32)) hx hb dX12_init_174 (by decide) ?_
  refine lv_bipush (v := (115 : Int32)) hx hb dX12_init_176 (by decide) ?_
  refine stL (l0 := [46, 115, 121, 109, 116, 97, 98, 0, 46]) (l1 := [46, 115, 121, 109, 116, 97, 98, 0, 46, 115]) (i := (9 : Int32)) (v := (115 : Int32)) C hK hP hD hS (by decide) (inb_in (by decide)) rfl dX12_init_178 (fun H locs hP hD hS => ?_)
  refine lv_dup hx hb dX12_init_179 rfl ?_
  refine lv_bipush (v := (10 : Int32)) hx hb dX12_init_180 (by decide) ?_
  refine lv_bipush (v := (116 : Int32)) hx hb dX12_init_182 (by decide) ?_
  refine stL (l0 := [46, 115, 121, 109, 116, 97, 98, 0, 46, 115]) (l1 := [46, 115, 121, 109, 116, 97, 98, 0, 46, 115, 116]) (i := (10 : Int32)) (v := (116 : Int32)) C hK hP hD hS (by decide) (inb_in (by decide)) rfl dX12_init_184 (fun H locs hP hD hS => ?_)
  refine lv_dup hx hb dX12_init_185 rfl ?_
  refine lv_bipush (v := (11 : Int32)) hx hb dX12_init_186 (by decide) ?_
  refine lv_bipush (v := (114 : Int32)) hx hb dX12_init_188 (by decide) ?_
  refine stL (l0 := [46, 115, 121, 109, 116, 97, 98, 0, 46, 115, 116]) (l1 := [46, 115, 121, 109, 116, 97, 98, 0, 46, 115, 116, 114]) (i := (11 : Int32)) (v := (114 : Int32)) C hK hP hD hS (by decide) (inb_in (by decide)) rfl dX12_init_190 (fun H locs hP hD hS => ?_)
  refine lv_dup hx hb dX12_init_191 rfl ?_
  refine lv_bipush (v := (12 : Int32)) hx hb dX12_init_192 (by decide) ?_
  refine lv_bipush (v := (116 : Int32)) hx hb dX12_init_194 (by decide) ?_
  refine stL (l0 := [46, 115, 121, 109, 116, 97, 98, 0, 46, 115, 116, 114]) (l1 := [46, 115, 121, 109, 116, 97, 98, 0, 46, 115, 116, 114, 116]) (i := (12 : Int32)) (v := (116 : Int32)) C hK hP hD hS (by decide) (inb_in (by decide)) rfl dX12_init_196 (fun H locs hP hD hS => ?_)
  refine lv_dup hx hb dX12_init_197 rfl ?_
  refine lv_bipush (v := (13 : Int32)) hx hb dX12_init_198 (by decide) ?_
  refine lv_bipush (v := (97 : Int32)) hx hb dX12_init_200 (by decide) ?_
  refine stL (l0 := [46, 115, 121, 109, 116, 97, 98, 0, 46, 115, 116, 114, 116]) (l1 := [46, 115, 121, 109, 116, 97, 98, 0, 46, 115, 116, 114, 116, 97]) (i := (13 : Int32)) (v := (97 : Int32)) C hK hP hD hS (by decide) (inb_in (by decide)) rfl dX12_init_202 (fun H locs hP hD hS => ?_)
  refine lv_dup hx hb dX12_init_203 rfl ?_
  refine lv_bipush (v := (14 : Int32)) hx hb dX12_init_204 (by decide) ?_
  refine lv_bipush (v := (98 : Int32)) hx hb dX12_init_206 (by decide) ?_
  refine stL (l0 := [46, 115, 121, 109, 116, 97, 98, 0, 46, 115, 116, 114, 116, 97]) (l1 := [46, 115, 121, 109, 116, 97, 98, 0, 46, 115, 116, 114, 116, 97, 98]) (i := (14 : Int32)) (v := (98 : Int32)) C hK hP hD hS (by decide) (inb_in (by decide)) rfl dX12_init_208 (fun H locs hP hD hS => ?_)
  refine lv_dup hx hb dX12_init_209 rfl ?_
  refine lv_bipush (v := (15 : Int32)) hx hb dX12_init_210 (by decide) ?_
  refine lv_iconst (v := (0 : Int32)) hx hb dX12_init_212 (by decide) ?_
  refine stL (l0 := [46, 115, 121, 109, 116, 97, 98, 0, 46, 115, 116, 114, 116, 97, 98]) (l1 := [46, 115, 121, 109, 116, 97, 98, 0, 46, 115, 116, 114, 116, 97, 98, 0]) (i := (15 : Int32)) (v := (0 : Int32)) C hK hP hD hS (by decide) (inb_in (by decide)) rfl dX12_init_213 (fun H locs hP hD hS => ?_)
  refine lv_dup hx hb dX12_init_214 rfl ?_
  refine lv_bipush (v := (16 : Int32)) hx hb dX12_init_215 (by decide) ?_
  refine lv_bipush (v := (46 : Int32)) hx hb dX12_init_217 (by decide) ?_
  refine stL (l0 := [46, 115, 121, 109, 116, 97, 98, 0, 46, 115, 116, 114, 116, 97, 98, 0]) (l1 := [46, 115, 121, 109, 116, 97, 98, 0, 46, 115, 116, 114, 116, 97, 98, 0, 46]) (i := (16 : Int32)) (v := (46 : Int32)) C hK hP hD hS (by decide) (inb_in (by decide)) rfl dX12_init_219 (fun H locs hP hD hS => ?_)
  refine lv_dup hx hb dX12_init_220 rfl ?_
  refine lv_bipush (v := (17 : Int32)) hx hb dX12_init_221 (by decide) ?_
  refine lv_bipush (v := (100 : Int32)) hx hb dX12_init_223 (by decide) ?_
  refine stL (l0 := [46, 115, 121, 109, 116, 97, 98, 0, 46, 115, 116, 114, 116, 97, 98, 0, 46]) (l1 := [46, 115, 121, 109, 116, 97, 98, 0, 46, 115, 116, 114, 116, 97, 98, 0, 46, 100]) (i := (17 : Int32)) (v := (100 : Int32)) C hK hP hD hS (by decide) (inb_in (by decide)) rfl dX12_init_225 (fun H locs hP hD hS => ?_)
  refine lv_dup hx hb dX12_init_226 rfl ?_
  refine lv_bipush (v := (18 : Int32)) hx hb dX12_init_227 (by decide) ?_
  refine lv_bipush (v := (101 : Int32)) hx hb dX12_init_229 (by decide) ?_
  refine stL (l0 := [46, 115, 121, 109, 116, 97, 98, 0, 46, 115, 116, 114, 116, 97, 98, 0, 46, 100]) (l1 := [46, 115, 121, 109, 116, 97, 98, 0, 46, 115, 116, 114, 116, 97, 98, 0, 46, 100, 101]) (i := (18 : Int32)) (v := (101 : Int32)) C hK hP hD hS (by decide) (inb_in (by decide)) rfl dX12_init_231 (fun H locs hP hD hS => ?_)
  refine lv_dup hx hb dX12_init_232 rfl ?_
  refine lv_bipush (v := (19 : Int32)) hx hb dX12_init_233 (by decide) ?_
  refine lv_bipush (v := (98 : Int32)) hx hb dX12_init_235 (by decide) ?_
  refine stL (l0 := [46, 115, 121, 109, 116, 97, 98, 0, 46, 115, 116, 114, 116, 97, 98, 0, 46, 100, 101]) (l1 := [46, 115, 121, 109, 116, 97, 98, 0, 46, 115, 116, 114, 116, 97, 98, 0, 46, 100, 101, 98]) (i := (19 : Int32)) (v := (98 : Int32)) C hK hP hD hS (by decide) (inb_in (by decide)) rfl dX12_init_237 (fun H locs hP hD hS => ?_)
  refine lv_dup hx hb dX12_init_238 rfl ?_
  refine lv_bipush (v := (20 : Int32)) hx hb dX12_init_239 (by decide) ?_
  refine lv_bipush (v := (117 : Int32)) hx hb dX12_init_241 (by decide) ?_
  refine stL (l0 := [46, 115, 121, 109, 116, 97, 98, 0, 46, 115, 116, 114, 116, 97, 98, 0, 46, 100, 101, 98]) (l1 := [46, 115, 121, 109, 116, 97, 98, 0, 46, 115, 116, 114, 116, 97, 98, 0, 46, 100, 101, 98, 117]) (i := (20 : Int32)) (v := (117 : Int32)) C hK hP hD hS (by decide) (inb_in (by decide)) rfl dX12_init_243 (fun H locs hP hD hS => ?_)
  refine lv_dup hx hb dX12_init_244 rfl ?_
  refine lv_bipush (v := (21 : Int32)) hx hb dX12_init_245 (by decide) ?_
  refine lv_bipush (v := (103 : Int32)) hx hb dX12_init_247 (by decide) ?_
  refine stL (l0 := [46, 115, 121, 109, 116, 97, 98, 0, 46, 115, 116, 114, 116, 97, 98, 0, 46, 100, 101, 98, 117]) (l1 := [46, 115, 121, 109, 116, 97, 98, 0, 46, 115, 116, 114, 116, 97, 98, 0, 46, 100, 101, 98, 117, 103]) (i := (21 : Int32)) (v := (103 : Int32)) C hK hP hD hS (by decide) (inb_in (by decide)) rfl dX12_init_249 (fun H locs hP hD hS => ?_)
  refine lv_dup hx hb dX12_init_250 rfl ?_
  refine lv_bipush (v := (22 : Int32)) hx hb dX12_init_251 (by decide) ?_
  refine lv_bipush (v := (95 : Int32)) hx hb dX12_init_253 (by decide) ?_
  refine stL (l0 := [46, 115, 121, 109, 116, 97, 98, 0, 46, 115, 116, 114, 116, 97, 98, 0, 46, 100, 101, 98, 117, 103]) (l1 := [46, 115, 121, 109, 116, 97, 98, 0, 46, 115, 116, 114, 116, 97, 98, 0, 46, 100, 101, 98, 117, 103, 95]) (i := (22 : Int32)) (v := (95 : Int32)) C hK hP hD hS (by decide) (inb_in (by decide)) rfl dX12_init_255 (fun H locs hP hD hS => ?_)
  refine lv_dup hx hb dX12_init_256 rfl ?_
  refine lv_bipush (v := (23 : Int32)) hx hb dX12_init_257 (by decide) ?_
  refine lv_bipush (v := (97 : Int32)) hx hb dX12_init_259 (by decide) ?_
  refine stL (l0 := [46, 115, 121, 109, 116, 97, 98, 0, 46, 115, 116, 114, 116, 97, 98, 0, 46, 100, 101, 98, 117, 103, 95]) (l1 := [46, 115, 121, 109, 116, 97, 98, 0, 46, 115, 116, 114, 116, 97, 98, 0, 46, 100, 101, 98, 117, 103, 95, 97]) (i := (23 : Int32)) (v := (97 : Int32)) C hK hP hD hS (by decide) (inb_in (by decide)) rfl dX12_init_261 (fun H locs hP hD hS => ?_)
  refine lv_dup hx hb dX12_init_262 rfl ?_
  refine lv_bipush (v := (24 : Int32)) hx hb dX12_init_263 (by decide) ?_
  refine lv_bipush (v := (98 : Int32)) hx hb dX12_init_265 (by decide) ?_
  refine stL (l0 := [46, 115, 121, 109, 116, 97, 98, 0, 46, 115, 116, 114, 116, 97, 98, 0, 46, 100, 101, 98, 117, 103, 95, 97]) (l1 := [46, 115, 121, 109, 116, 97, 98, 0, 46, 115, 116, 114, 116, 97, 98, 0, 46, 100, 101, 98, 117, 103, 95, 97, 98]) (i := (24 : Int32)) (v := (98 : Int32)) C hK hP hD hS (by decide) (inb_in (by decide)) rfl dX12_init_267 (fun H locs hP hD hS => ?_)
  refine lv_dup hx hb dX12_init_268 rfl ?_
  refine lv_bipush (v := (25 : Int32)) hx hb dX12_init_269 (by decide) ?_
  refine lv_bipush (v := (98 : Int32)) hx hb dX12_init_271 (by decide) ?_
  refine stL (l0 := [46, 115, 121, 109, 116, 97, 98, 0, 46, 115, 116, 114, 116, 97, 98, 0, 46, 100, 101, 98, 117, 103, 95, 97, 98]) (l1 := [46, 115, 121, 109, 116, 97, 98, 0, 46, 115, 116, 114, 116, 97, 98, 0, 46, 100, 101, 98, 117, 103, 95, 97, 98, 98]) (i := (25 : Int32)) (v := (98 : Int32)) C hK hP hD hS (by decide) (inb_in (by decide)) rfl dX12_init_273 (fun H locs hP hD hS => ?_)
  refine lv_dup hx hb dX12_init_274 rfl ?_
  refine lv_bipush (v := (26 : Int32)) hx hb dX12_init_275 (by decide) ?_
  refine lv_bipush (v := (114 : Int32)) hx hb dX12_init_277 (by decide) ?_
  refine stL (l0 := [46, 115, 121, 109, 116, 97, 98, 0, 46, 115, 116, 114, 116, 97, 98, 0, 46, 100, 101, 98, 117, 103, 95, 97, 98, 98]) (l1 := [46, 115, 121, 109, 116, 97, 98, 0, 46, 115, 116, 114, 116, 97, 98, 0, 46, 100, 101, 98, 117, 103, 95, 97, 98, 98, 114]) (i := (26 : Int32)) (v := (114 : Int32)) C hK hP hD hS (by decide) (inb_in (by decide)) rfl dX12_init_279 (fun H locs hP hD hS => ?_)
  refine lv_dup hx hb dX12_init_280 rfl ?_
  refine lv_bipush (v := (27 : Int32)) hx hb dX12_init_281 (by decide) ?_
  refine lv_bipush (v := (101 : Int32)) hx hb dX12_init_283 (by decide) ?_
  refine stL (l0 := [46, 115, 121, 109, 116, 97, 98, 0, 46, 115, 116, 114, 116, 97, 98, 0, 46, 100, 101, 98, 117, 103, 95, 97, 98, 98, 114]) (l1 := [46, 115, 121, 109, 116, 97, 98, 0, 46, 115, 116, 114, 116, 97, 98, 0, 46, 100, 101, 98, 117, 103, 95, 97, 98, 98, 114, 101]) (i := (27 : Int32)) (v := (101 : Int32)) C hK hP hD hS (by decide) (inb_in (by decide)) rfl dX12_init_285 (fun H locs hP hD hS => ?_)
  refine lv_dup hx hb dX12_init_286 rfl ?_
  refine lv_bipush (v := (28 : Int32)) hx hb dX12_init_287 (by decide) ?_
  refine lv_bipush (v := (118 : Int32)) hx hb dX12_init_289 (by decide) ?_
  refine stL (l0 := [46, 115, 121, 109, 116, 97, 98, 0, 46, 115, 116, 114, 116, 97, 98, 0, 46, 100, 101, 98, 117, 103, 95, 97, 98, 98, 114, 101]) (l1 := [46, 115, 121, 109, 116, 97, 98, 0, 46, 115, 116, 114, 116, 97, 98, 0, 46, 100, 101, 98, 117, 103, 95, 97, 98, 98, 114, 101, 118]) (i := (28 : Int32)) (v := (118 : Int32)) C hK hP hD hS (by decide) (inb_in (by decide)) rfl dX12_init_291 (fun H locs hP hD hS => ?_)
  refine lv_dup hx hb dX12_init_292 rfl ?_
  refine lv_bipush (v := (29 : Int32)) hx hb dX12_init_293 (by decide) ?_
  refine lv_iconst (v := (0 : Int32)) hx hb dX12_init_295 (by decide) ?_
  refine stL (l0 := [46, 115, 121, 109, 116, 97, 98, 0, 46, 115, 116, 114, 116, 97, 98, 0, 46, 100, 101, 98, 117, 103, 95, 97, 98, 98, 114, 101, 118]) (l1 := [46, 115, 121, 109, 116, 97, 98, 0, 46, 115, 116, 114, 116, 97, 98, 0, 46, 100, 101, 98, 117, 103, 95, 97, 98, 98, 114, 101, 118, 0]) (i := (29 : Int32)) (v := (0 : Int32)) C hK hP hD hS (by decide) (inb_in (by decide)) rfl dX12_init_296 (fun H locs hP hD hS => ?_)
  refine lv_dup hx hb dX12_init_297 rfl ?_
  refine lv_bipush (v := (30 : Int32)) hx hb dX12_init_298 (by decide) ?_
  refine lv_bipush (v := (46 : Int32)) hx hb dX12_init_300 (by decide) ?_
  refine stL (l0 := [46, 115, 121, 109, 116, 97, 98, 0, 46, 115, 116, 114, 116, 97, 98, 0, 46, 100, 101, 98, 117, 103, 95, 97, 98, 98, 114, 101, 118, 0]) (l1 := [46, 115, 121, 109, 116, 97, 98, 0, 46, 115, 116, 114, 116, 97, 98, 0, 46, 100, 101, 98, 117, 103, 95, 97, 98, 98, 114, 101, 118, 0, 46]) (i := (30 : Int32)) (v := (46 : Int32)) C hK hP hD hS (by decide) (inb_in (by decide)) rfl dX12_init_302 (fun H locs hP hD hS => ?_)
  refine lv_dup hx hb dX12_init_303 rfl ?_
  refine lv_bipush (v := (31 : Int32)) hx hb dX12_init_304 (by decide) ?_
  refine lv_bipush (v := (100 : Int32)) hx hb dX12_init_306 (by decide) ?_
  refine stL (l0 := [46, 115, 121, 109, 116, 97, 98, 0, 46, 115, 116, 114, 116, 97, 98, 0, 46, 100, 101, 98, 117, 103, 95, 97, 98, 98, 114, 101, 118, 0, 46]) (l1 := [46, 115, 121, 109, 116, 97, 98, 0, 46, 115, 116, 114, 116, 97, 98, 0, 46, 100, 101, 98, 117, 103, 95, 97, 98, 98, 114, 101, 118, 0, 46, 100]) (i := (31 : Int32)) (v := (100 : Int32)) C hK hP hD hS (by decide) (inb_in (by decide)) rfl dX12_init_308 (fun H locs hP hD hS => ?_)
  refine lv_dup hx hb dX12_init_309 rfl ?_
  refine lv_bipush (v := (32 : Int32)) hx hb dX12_init_310 (by decide) ?_
  refine lv_bipush (v := (101 : Int32)) hx hb dX12_init_312 (by decide) ?_
  refine stL (l0 := [46, 115, 121, 109, 116, 97, 98, 0, 46, 115, 116, 114, 116, 97, 98, 0, 46, 100, 101, 98, 117, 103, 95, 97, 98, 98, 114, 101, 118, 0, 46, 100]) (l1 := [46, 115, 121, 109, 116, 97, 98, 0, 46, 115, 116, 114, 116, 97, 98, 0, 46, 100, 101, 98, 117, 103, 95, 97, 98, 98, 114, 101, 118, 0, 46, 100, 101]) (i := (32 : Int32)) (v := (101 : Int32)) C hK hP hD hS (by decide) (inb_in (by decide)) rfl dX12_init_314 (fun H locs hP hD hS => ?_)
  refine lv_dup hx hb dX12_init_315 rfl ?_
  refine lv_bipush (v := (33 : Int32)) hx hb dX12_init_316 (by decide) ?_
  refine lv_bipush (v := (98 : Int32)) hx hb dX12_init_318 (by decide) ?_
  refine stL (l0 := [46, 115, 121, 109, 116, 97, 98, 0, 46, 115, 116, 114, 116, 97, 98, 0, 46, 100, 101, 98, 117, 103, 95, 97, 98, 98, 114, 101, 118, 0, 46, 100, 101]) (l1 := [46, 115, 121, 109, 116, 97, 98, 0, 46, 115, 116, 114, 116, 97, 98, 0, 46, 100, 101, 98, 117, 103, 95, 97, 98, 98, 114, 101, 118, 0, 46, 100, 101, 98]) (i := (33 : Int32)) (v := (98 : Int32)) C hK hP hD hS (by decide) (inb_in (by decide)) rfl dX12_init_320 (fun H locs hP hD hS => ?_)
  refine lv_dup hx hb dX12_init_321 rfl ?_
  refine lv_bipush (v := (34 : Int32)) hx hb dX12_init_322 (by decide) ?_
  refine lv_bipush (v := (117 : Int32)) hx hb dX12_init_324 (by decide) ?_
  refine stL (l0 := [46, 115, 121, 109, 116, 97, 98, 0, 46, 115, 116, 114, 116, 97, 98, 0, 46, 100, 101, 98, 117, 103, 95, 97, 98, 98, 114, 101, 118, 0, 46, 100, 101, 98]) (l1 := [46, 115, 121, 109, 116, 97, 98, 0, 46, 115, 116, 114, 116, 97, 98, 0, 46, 100, 101, 98, 117, 103, 95, 97, 98, 98, 114, 101, 118, 0, 46, 100, 101, 98, 117]) (i := (34 : Int32)) (v := (117 : Int32)) C hK hP hD hS (by decide) (inb_in (by decide)) rfl dX12_init_326 (fun H locs hP hD hS => ?_)
  refine lv_dup hx hb dX12_init_327 rfl ?_
  refine lv_bipush (v := (35 : Int32)) hx hb dX12_init_328 (by decide) ?_
  refine lv_bipush (v := (103 : Int32)) hx hb dX12_init_330 (by decide) ?_
  refine stL (l0 := [46, 115, 121, 109, 116, 97, 98, 0, 46, 115, 116, 114, 116, 97, 98, 0, 46, 100, 101, 98, 117, 103, 95, 97, 98, 98, 114, 101, 118, 0, 46, 100, 101, 98, 117]) (l1 := [46, 115, 121, 109, 116, 97, 98, 0, 46, 115, 116, 114, 116, 97, 98, 0, 46, 100, 101, 98, 117, 103, 95, 97, 98, 98, 114, 101, 118, 0, 46, 100, 101, 98, 117, 103]) (i := (35 : Int32)) (v := (103 : Int32)) C hK hP hD hS (by decide) (inb_in (by decide)) rfl dX12_init_332 (fun H locs hP hD hS => ?_)
  refine lv_dup hx hb dX12_init_333 rfl ?_
  refine lv_bipush (v := (36 : Int32)) hx hb dX12_init_334 (by decide) ?_
  refine lv_bipush (v := (95 : Int32)) hx hb dX12_init_336 (by decide) ?_
  refine stL (l0 := [46, 115, 121, 109, 116, 97, 98, 0, 46, 115, 116, 114, 116, 97, 98, 0, 46, 100, 101, 98, 117, 103, 95, 97, 98, 98, 114, 101, 118, 0, 46, 100, 101, 98, 117, 103]) (l1 := [46, 115, 121, 109, 116, 97, 98, 0, 46, 115, 116, 114, 116, 97, 98, 0, 46, 100, 101, 98, 117, 103, 95, 97, 98, 98, 114, 101, 118, 0, 46, 100, 101, 98, 117, 103, 95]) (i := (36 : Int32)) (v := (95 : Int32)) C hK hP hD hS (by decide) (inb_in (by decide)) rfl dX12_init_338 (fun H locs hP hD hS => ?_)
  refine lv_dup hx hb dX12_init_339 rfl ?_
  refine lv_bipush (v := (37 : Int32)) hx hb dX12_init_340 (by decide) ?_
  refine lv_bipush (v := (105 : Int32)) hx hb dX12_init_342 (by decide) ?_
  refine stL (l0 := [46, 115, 121, 109, 116, 97, 98, 0, 46, 115, 116, 114, 116, 97, 98, 0, 46, 100, 101, 98, 117, 103, 95, 97, 98, 98, 114, 101, 118, 0, 46, 100, 101, 98, 117, 103, 95]) (l1 := [46, 115, 121, 109, 116, 97, 98, 0, 46, 115, 116, 114, 116, 97, 98, 0, 46, 100, 101, 98, 117, 103, 95, 97, 98, 98, 114, 101, 118, 0, 46, 100, 101, 98, 117, 103, 95, 105]) (i := (37 : Int32)) (v := (105 : Int32)) C hK hP hD hS (by decide) (inb_in (by decide)) rfl dX12_init_344 (fun H locs hP hD hS => ?_)
  refine lv_dup hx hb dX12_init_345 rfl ?_
  refine lv_bipush (v := (38 : Int32)) hx hb dX12_init_346 (by decide) ?_
  refine lv_bipush (v := (110 : Int32)) hx hb dX12_init_348 (by decide) ?_
  refine stL (l0 := [46, 115, 121, 109, 116, 97, 98, 0, 46, 115, 116, 114, 116, 97, 98, 0, 46, 100, 101, 98, 117, 103, 95, 97, 98, 98, 114, 101, 118, 0, 46, 100, 101, 98, 117, 103, 95, 105]) (l1 := [46, 115, 121, 109, 116, 97, 98, 0, 46, 115, 116, 114, 116, 97, 98, 0, 46, 100, 101, 98, 117, 103, 95, 97, 98, 98, 114, 101, 118, 0, 46, 100, 101, 98, 117, 103, 95, 105, 110]) (i := (38 : Int32)) (v := (110 : Int32)) C hK hP hD hS (by decide) (inb_in (by decide)) rfl dX12_init_350 (fun H locs hP hD hS => ?_)
  refine lv_dup hx hb dX12_init_351 rfl ?_
  refine lv_bipush (v := (39 : Int32)) hx hb dX12_init_352 (by decide) ?_
  refine lv_bipush (v := (102 : Int32)) hx hb dX12_init_354 (by decide) ?_
  refine stL (l0 := [46, 115, 121, 109, 116, 97, 98, 0, 46, 115, 116, 114, 116, 97, 98, 0, 46, 100, 101, 98, 117, 103, 95, 97, 98, 98, 114, 101, 118, 0, 46, 100, 101, 98, 117, 103, 95, 105, 110]) (l1 := [46, 115, 121, 109, 116, 97, 98, 0, 46, 115, 116, 114, 116, 97, 98, 0, 46, 100, 101, 98, 117, 103, 95, 97, 98, 98, 114, 101, 118, 0, 46, 100, 101, 98, 117, 103, 95, 105, 110, 102]) (i := (39 : Int32)) (v := (102 : Int32)) C hK hP hD hS (by decide) (inb_in (by decide)) rfl dX12_init_356 (fun H locs hP hD hS => ?_)
  refine lv_dup hx hb dX12_init_357 rfl ?_
  refine lv_bipush (v := (40 : Int32)) hx hb dX12_init_358 (by decide) ?_
  refine lv_bipush (v := (111 : Int32)) hx hb dX12_init_360 (by decide) ?_
  refine stL (l0 := [46, 115, 121, 109, 116, 97, 98, 0, 46, 115, 116, 114, 116, 97, 98, 0, 46, 100, 101, 98, 117, 103, 95, 97, 98, 98, 114, 101, 118, 0, 46, 100, 101, 98, 117, 103, 95, 105, 110, 102]) (l1 := [46, 115, 121, 109, 116, 97, 98, 0, 46, 115, 116, 114, 116, 97, 98, 0, 46, 100, 101, 98, 117, 103, 95, 97, 98, 98, 114, 101, 118, 0, 46, 100, 101, 98, 117, 103, 95, 105, 110, 102, 111]) (i := (40 : Int32)) (v := (111 : Int32)) C hK hP hD hS (by decide) (inb_in (by decide)) rfl dX12_init_362 (fun H locs hP hD hS => ?_)
  refine lv_dup hx hb dX12_init_363 rfl ?_
  refine lv_bipush (v := (41 : Int32)) hx hb dX12_init_364 (by decide) ?_
  refine lv_iconst (v := (0 : Int32)) hx hb dX12_init_366 (by decide) ?_
  refine stL (l0 := [46, 115, 121, 109, 116, 97, 98, 0, 46, 115, 116, 114, 116, 97, 98, 0, 46, 100, 101, 98, 117, 103, 95, 97, 98, 98, 114, 101, 118, 0, 46, 100, 101, 98, 117, 103, 95, 105, 110, 102, 111]) (l1 := [46, 115, 121, 109, 116, 97, 98, 0, 46, 115, 116, 114, 116, 97, 98, 0, 46, 100, 101, 98, 117, 103, 95, 97, 98, 98, 114, 101, 118, 0, 46, 100, 101, 98, 117, 103, 95, 105, 110, 102, 111, 0]) (i := (41 : Int32)) (v := (0 : Int32)) C hK hP hD hS (by decide) (inb_in (by decide)) rfl dX12_init_367 (fun H locs hP hD hS => ?_)
  refine lv_dup hx hb dX12_init_368 rfl ?_
  refine lv_bipush (v := (42 : Int32)) hx hb dX12_init_369 (by decide) ?_
  refine lv_bipush (v := (46 : Int32)) hx hb dX12_init_371 (by decide) ?_
  refine stL (l0 := [46, 115, 121, 109, 116, 97, 98, 0, 46, 115, 116, 114, 116, 97, 98, 0, 46, 100, 101, 98, 117, 103, 95, 97, 98, 98, 114, 101, 118, 0, 46, 100, 101, 98, 117, 103, 95, 105, 110, 102, 111, 0]) (l1 := [46, 115, 121, 109, 116, 97, 98, 0, 46, 115, 116, 114, 116, 97, 98, 0, 46, 100, 101, 98, 117, 103, 95, 97, 98, 98, 114, 101, 118, 0, 46, 100, 101, 98, 117, 103, 95, 105, 110, 102, 111, 0, 46]) (i := (42 : Int32)) (v := (46 : Int32)) C hK hP hD hS (by decide) (inb_in (by decide)) rfl dX12_init_373 (fun H locs hP hD hS => ?_)
  refine lv_dup hx hb dX12_init_374 rfl ?_
  refine lv_bipush (v := (43 : Int32)) hx hb dX12_init_375 (by decide) ?_
  refine lv_bipush (v := (100 : Int32)) hx hb dX12_init_377 (by decide) ?_
  refine stL (l0 := [46, 115, 121, 109, 116, 97, 98, 0, 46, 115, 116, 114, 116, 97, 98, 0, 46, 100, 101, 98, 117, 103, 95, 97, 98, 98, 114, 101, 118, 0, 46, 100, 101, 98, 117, 103, 95, 105, 110, 102, 111, 0, 46]) (l1 := [46, 115, 121, 109, 116, 97, 98, 0, 46, 115, 116, 114, 116, 97, 98, 0, 46, 100, 101, 98, 117, 103, 95, 97, 98, 98, 114, 101, 118, 0, 46, 100, 101, 98, 117, 103, 95, 105, 110, 102, 111, 0, 46, 100]) (i := (43 : Int32)) (v := (100 : Int32)) C hK hP hD hS (by decide) (inb_in (by decide)) rfl dX12_init_379 (fun H locs hP hD hS => ?_)
  refine lv_dup hx hb dX12_init_380 rfl ?_
  refine lv_bipush (v := (44 : Int32)) hx hb dX12_init_381 (by decide) ?_
  refine lv_bipush (v := (101 : Int32)) hx hb dX12_init_383 (by decide) ?_
  refine stL (l0 := [46, 115, 121, 109, 116, 97, 98, 0, 46, 115, 116, 114, 116, 97, 98, 0, 46, 100, 101, 98, 117, 103, 95, 97, 98, 98, 114, 101, 118, 0, 46, 100, 101, 98, 117, 103, 95, 105, 110, 102, 111, 0, 46, 100]) (l1 := [46, 115, 121, 109, 116, 97, 98, 0, 46, 115, 116, 114, 116, 97, 98, 0, 46, 100, 101, 98, 117, 103, 95, 97, 98, 98, 114, 101, 118, 0, 46, 100, 101, 98, 117, 103, 95, 105, 110, 102, 111, 0, 46, 100, 101]) (i := (44 : Int32)) (v := (101 : Int32)) C hK hP hD hS (by decide) (inb_in (by decide)) rfl dX12_init_385 (fun H locs hP hD hS => ?_)
  refine lv_dup hx hb dX12_init_386 rfl ?_
  refine lv_bipush (v := (45 : Int32)) hx hb dX12_init_387 (by decide) ?_
  refine lv_bipush (v := (98 : Int32)) hx hb dX12_init_389 (by decide) ?_
  refine stL (l0 := [46, 115, 121, 109, 116, 97, 98, 0, 46, 115, 116, 114, 116, 97, 98, 0, 46, 100, 101, 98, 117, 103, 95, 97, 98, 98, 114, 101, 118, 0, 46, 100, 101, 98, 117, 103, 95, 105, 110, 102, 111, 0, 46, 100, 101]) (l1 := [46, 115, 121, 109, 116, 97, 98, 0, 46, 115, 116, 114, 116, 97, 98, 0, 46, 100, 101, 98, 117, 103, 95, 97, 98, 98, 114, 101, 118, 0, 46, 100, 101, 98, 117, 103, 95, 105, 110, 102, 111, 0, 46, 100, 101, 98]) (i := (45 : Int32)) (v := (98 : Int32)) C hK hP hD hS (by decide) (inb_in (by decide)) rfl dX12_init_391 (fun H locs hP hD hS => ?_)
  refine lv_dup hx hb dX12_init_392 rfl ?_
  refine lv_bipush (v := (46 : Int32)) hx hb dX12_init_393 (by decide) ?_
  refine lv_bipush (v := (117 : Int32)) hx hb dX12_init_395 (by decide) ?_
  refine stL (l0 := [46, 115, 121, 109, 116, 97, 98, 0, 46, 115, 116, 114, 116, 97, 98, 0, 46, 100, 101, 98, 117, 103, 95, 97, 98, 98, 114, 101, 118, 0, 46, 100, 101, 98, 117, 103, 95, 105, 110, 102, 111, 0, 46, 100, 101, 98]) (l1 := [46, 115, 121, 109, 116, 97, 98, 0, 46, 115, 116, 114, 116, 97, 98, 0, 46, 100, 101, 98, 117, 103, 95, 97, 98, 98, 114, 101, 118, 0, 46, 100, 101, 98, 117, 103, 95, 105, 110, 102, 111, 0, 46, 100, 101, 98, 117]) (i := (46 : Int32)) (v := (117 : Int32)) C hK hP hD hS (by decide) (inb_in (by decide)) rfl dX12_init_397 (fun H locs hP hD hS => ?_)
  refine lv_dup hx hb dX12_init_398 rfl ?_
  refine lv_bipush (v := (47 : Int32)) hx hb dX12_init_399 (by decide) ?_
  refine lv_bipush (v := (103 : Int32)) hx hb dX12_init_401 (by decide) ?_
  refine stL (l0 := [46, 115, 121, 109, 116, 97, 98, 0, 46, 115, 116, 114, 116, 97, 98, 0, 46, 100, 101, 98, 117, 103, 95, 97, 98, 98, 114, 101, 118, 0, 46, 100, 101, 98, 117, 103, 95, 105, 110, 102, 111, 0, 46, 100, 101, 98, 117]) (l1 := [46, 115, 121, 109, 116, 97, 98, 0, 46, 115, 116, 114, 116, 97, 98, 0, 46, 100, 101, 98, 117, 103, 95, 97, 98, 98, 114, 101, 118, 0, 46, 100, 101, 98, 117, 103, 95, 105, 110, 102, 111, 0, 46, 100, 101, 98, 117, 103]) (i := (47 : Int32)) (v := (103 : Int32)) C hK hP hD hS (by decide) (inb_in (by decide)) rfl dX12_init_403 (fun H locs hP hD hS => ?_)
  refine lv_dup hx hb dX12_init_404 rfl ?_
  refine lv_bipush (v := (48 : Int32)) hx hb dX12_init_405 (by decide) ?_
  refine lv_bipush (v := (95 : Int32)) hx hb dX12_init_407 (by decide) ?_
  refine stL (l0 := [46, 115, 121, 109, 116, 97, 98, 0, 46, 115, 116, 114, 116, 97, 98, 0, 46, 100, 101, 98, 117, 103, 95, 97, 98, 98, 114, 101, 118, 0, 46, 100, 101, 98, 117, 103, 95, 105, 110, 102, 111, 0, 46, 100, 101, 98, 117, 103]) (l1 := [46, 115, 121, 109, 116, 97, 98, 0, 46, 115, 116, 114, 116, 97, 98, 0, 46, 100, 101, 98, 117, 103, 95, 97, 98, 98, 114, 101, 118, 0, 46, 100, 101, 98, 117, 103, 95, 105, 110, 102, 111, 0, 46, 100, 101, 98, 117, 103, 95]) (i := (48 : Int32)) (v := (95 : Int32)) C hK hP hD hS (by decide) (inb_in (by decide)) rfl dX12_init_409 (fun H locs hP hD hS => ?_)
  refine lv_dup hx hb dX12_init_410 rfl ?_
  refine lv_bipush (v := (49 : Int32)) hx hb dX12_init_411 (by decide) ?_
  refine lv_bipush (v := (115 : Int32)) hx hb dX12_init_413 (by decide) ?_
  refine stL (l0 := [46, 115, 121, 109, 116, 97, 98, 0, 46, 115, 116, 114, 116, 97, 98, 0, 46, 100, 101, 98, 117, 103, 95, 97, 98, 98, 114, 101, 118, 0, 46, 100, 101, 98, 117, 103, 95, 105, 110, 102, 111, 0, 46, 100, 101, 98, 117, 103, 95]) (l1 := [46, 115, 121, 109, 116, 97, 98, 0, 46, 115, 116, 114, 116, 97, 98, 0, 46, 100, 101, 98, 117, 103, 95, 97, 98, 98, 114, 101, 118, 0, 46, 100, 101, 98, 117, 103, 95, 105, 110, 102, 111, 0, 46, 100, 101, 98, 117, 103, 95, 115]) (i := (49 : Int32)) (v := (115 : Int32)) C hK hP hD hS (by decide) (inb_in (by decide)) rfl dX12_init_415 (fun H locs hP hD hS => ?_)
  refine lv_dup hx hb dX12_init_416 rfl ?_
  refine lv_bipush (v := (50 : Int32)) hx hb dX12_init_417 (by decide) ?_
  refine lv_bipush (v := (116 : Int32)) hx hb dX12_init_419 (by decide) ?_
  refine stL (l0 := [46, 115, 121, 109, 116, 97, 98, 0, 46, 115, 116, 114, 116, 97, 98, 0, 46, 100, 101, 98, 117, 103, 95, 97, 98, 98, 114, 101, 118, 0, 46, 100, 101, 98, 117, 103, 95, 105, 110, 102, 111, 0, 46, 100, 101, 98, 117, 103, 95, 115]) (l1 := [46, 115, 121, 109, 116, 97, 98, 0, 46, 115, 116, 114, 116, 97, 98, 0, 46, 100, 101, 98, 117, 103, 95, 97, 98, 98, 114, 101, 118, 0, 46, 100, 101, 98, 117, 103, 95, 105, 110, 102, 111, 0, 46, 100, 101, 98, 117, 103, 95, 115, 116]) (i := (50 : Int32)) (v := (116 : Int32)) C hK hP hD hS (by decide) (inb_in (by decide)) rfl dX12_init_421 (fun H locs hP hD hS => ?_)
  refine lv_dup hx hb dX12_init_422 rfl ?_
  refine lv_bipush (v := (51 : Int32)) hx hb dX12_init_423 (by decide) ?_
  refine lv_bipush (v := (114 : Int32)) hx hb dX12_init_425 (by decide) ?_
  refine stL (l0 := [46, 115, 121, 109, 116, 97, 98, 0, 46, 115, 116, 114, 116, 97, 98, 0, 46, 100, 101, 98, 117, 103, 95, 97, 98, 98, 114, 101, 118, 0, 46, 100, 101, 98, 117, 103, 95, 105, 110, 102, 111, 0, 46, 100, 101, 98, 117, 103, 95, 115, 116]) (l1 := [46, 115, 121, 109, 116, 97, 98, 0, 46, 115, 116, 114, 116, 97, 98, 0, 46, 100, 101, 98, 117, 103, 95, 97, 98, 98, 114, 101, 118, 0, 46, 100, 101, 98, 117, 103, 95, 105, 110, 102, 111, 0, 46, 100, 101, 98, 117, 103, 95, 115, 116, 114]) (i := (51 : Int32)) (v := (114 : Int32)) C hK hP hD hS (by decide) (inb_in (by decide)) rfl dX12_init_427 (fun H locs hP hD hS => ?_)
  refine lv_dup hx hb dX12_init_428 rfl ?_
  refine lv_bipush (v := (52 : Int32)) hx hb dX12_init_429 (by decide) ?_
  refine lv_iconst (v := (0 : Int32)) hx hb dX12_init_431 (by decide) ?_
  refine stL (l0 := [46, 115, 121, 109, 116, 97, 98, 0, 46, 115, 116, 114, 116, 97, 98, 0, 46, 100, 101, 98, 117, 103, 95, 97, 98, 98, 114, 101, 118, 0, 46, 100, 101, 98, 117, 103, 95, 105, 110, 102, 111, 0, 46, 100, 101, 98, 117, 103, 95, 115, 116, 114]) (l1 := [46, 115, 121, 109, 116, 97, 98, 0, 46, 115, 116, 114, 116, 97, 98, 0, 46, 100, 101, 98, 117, 103, 95, 97, 98, 98, 114, 101, 118, 0, 46, 100, 101, 98, 117, 103, 95, 105, 110, 102, 111, 0, 46, 100, 101, 98, 117, 103, 95, 115, 116, 114, 0]) (i := (52 : Int32)) (v := (0 : Int32)) C hK hP hD hS (by decide) (inb_in (by decide)) rfl dX12_init_432 (fun H locs hP hD hS => ?_)
  refine lv_dup hx hb dX12_init_433 rfl ?_
  refine lv_bipush (v := (53 : Int32)) hx hb dX12_init_434 (by decide) ?_
  refine lv_bipush (v := (46 : Int32)) hx hb dX12_init_436 (by decide) ?_
  refine stL (l0 := [46, 115, 121, 109, 116, 97, 98, 0, 46, 115, 116, 114, 116, 97, 98, 0, 46, 100, 101, 98, 117, 103, 95, 97, 98, 98, 114, 101, 118, 0, 46, 100, 101, 98, 117, 103, 95, 105, 110, 102, 111, 0, 46, 100, 101, 98, 117, 103, 95, 115, 116, 114, 0]) (l1 := [46, 115, 121, 109, 116, 97, 98, 0, 46, 115, 116, 114, 116, 97, 98, 0, 46, 100, 101, 98, 117, 103, 95, 97, 98, 98, 114, 101, 118, 0, 46, 100, 101, 98, 117, 103, 95, 105, 110, 102, 111, 0, 46, 100, 101, 98, 117, 103, 95, 115, 116, 114, 0, 46]) (i := (53 : Int32)) (v := (46 : Int32)) C hK hP hD hS (by decide) (inb_in (by decide)) rfl dX12_init_438 (fun H locs hP hD hS => ?_)
  refine lv_dup hx hb dX12_init_439 rfl ?_
  refine lv_bipush (v := (54 : Int32)) hx hb dX12_init_440 (by decide) ?_
  refine lv_bipush (v := (100 : Int32)) hx hb dX12_init_442 (by decide) ?_
  refine stL (l0 := [46, 115, 121, 109, 116, 97, 98, 0, 46, 115, 116, 114, 116, 97, 98, 0, 46, 100, 101, 98, 117, 103, 95, 97, 98, 98, 114, 101, 118, 0, 46, 100, 101, 98, 117, 103, 95, 105, 110, 102, 111, 0, 46, 100, 101, 98, 117, 103, 95, 115, 116, 114, 0, 46]) (l1 := [46, 115, 121, 109, 116, 97, 98, 0, 46, 115, 116, 114, 116, 97, 98, 0, 46, 100, 101, 98, 117, 103, 95, 97, 98, 98, 114, 101, 118, 0, 46, 100, 101, 98, 117, 103, 95, 105, 110, 102, 111, 0, 46, 100, 101, 98, 117, 103, 95, 115, 116, 114, 0, 46, 100]) (i := (54 : Int32)) (v := (100 : Int32)) C hK hP hD hS (by decide) (inb_in (by decide)) rfl dX12_init_444 (fun H locs hP hD hS => ?_)
  refine lv_dup hx hb dX12_init_445 rfl ?_
  refine lv_bipush (v := (55 : Int32)) hx hb dX12_init_446 (by decide) ?_
  refine lv_bipush (v := (101 : Int32)) hx hb dX12_init_448 (by decide) ?_
  refine stL (l0 := [46, 115, 121, 109, 116, 97, 98, 0, 46, 115, 116, 114, 116, 97, 98, 0, 46, 100, 101, 98, 117, 103, 95, 97, 98, 98, 114, 101, 118, 0, 46, 100, 101, 98, 117, 103, 95, 105, 110, 102, 111, 0, 46, 100, 101, 98, 117, 103, 95, 115, 116, 114, 0, 46, 100]) (l1 := [46, 115, 121, 109, 116, 97, 98, 0, 46, 115, 116, 114, 116, 97, 98, 0, 46, 100, 101, 98, 117, 103, 95, 97, 98, 98, 114, 101, 118, 0, 46, 100, 101, 98, 117, 103, 95, 105, 110, 102, 111, 0, 46, 100, 101, 98, 117, 103, 95, 115, 116, 114, 0, 46, 100, 101]) (i := (55 : Int32)) (v := (101 : Int32)) C hK hP hD hS (by decide) (inb_in (by decide)) rfl dX12_init_450 (fun H locs hP hD hS => ?_)
  refine lv_dup hx hb dX12_init_451 rfl ?_
  refine lv_bipush (v := (56 : Int32)) hx hb dX12_init_452 (by decide) ?_
  refine lv_bipush (v := (98 : Int32)) hx hb dX12_init_454 (by decide) ?_
  refine stL (l0 := [46, 115, 121, 109, 116, 97, 98, 0, 46, 115, 116, 114, 116, 97, 98, 0, 46, 100, 101, 98, 117, 103, 95, 97, 98, 98, 114, 101, 118, 0, 46, 100, 101, 98, 117, 103, 95, 105, 110, 102, 111, 0, 46, 100, 101, 98, 117, 103, 95, 115, 116, 114, 0, 46, 100, 101]) (l1 := [46, 115, 121, 109, 116, 97, 98, 0, 46, 115, 116, 114, 116, 97, 98, 0, 46, 100, 101, 98, 117, 103, 95, 97, 98, 98, 114, 101, 118, 0, 46, 100, 101, 98, 117, 103, 95, 105, 110, 102, 111, 0, 46, 100, 101, 98, 117, 103, 95, 115, 116, 114, 0, 46, 100, 101, 98]) (i := (56 : Int32)) (v := (98 : Int32)) C hK hP hD hS (by decide) (inb_in (by decide)) rfl dX12_init_456 (fun H locs hP hD hS => ?_)
  refine lv_dup hx hb dX12_init_457 rfl ?_
  refine lv_bipush (v := (57 : Int32)) hx hb dX12_init_458 (by decide) ?_
  refine lv_bipush (v := (117 : Int32)) hx hb dX12_init_460 (by decide) ?_
  refine stL (l0 := [46, 115, 121, 109, 116, 97, 98, 0, 46, 115, 116, 114, 116, 97, 98, 0, 46, 100, 101, 98, 117, 103, 95, 97, 98, 98, 114, 101, 118, 0, 46, 100, 101, 98, 117, 103, 95, 105, 110, 102, 111, 0, 46, 100, 101, 98, 117, 103, 95, 115, 116, 114, 0, 46, 100, 101, 98]) (l1 := [46, 115, 121, 109, 116, 97, 98, 0, 46, 115, 116, 114, 116, 97, 98, 0, 46, 100, 101, 98, 117, 103, 95, 97, 98, 98, 114, 101, 118, 0, 46, 100, 101, 98, 117, 103, 95, 105, 110, 102, 111, 0, 46, 100, 101, 98, 117, 103, 95, 115, 116, 114, 0, 46, 100, 101, 98, 117]) (i := (57 : Int32)) (v := (117 : Int32)) C hK hP hD hS (by decide) (inb_in (by decide)) rfl dX12_init_462 (fun H locs hP hD hS => ?_)
  refine lv_dup hx hb dX12_init_463 rfl ?_
  refine lv_bipush (v := (58 : Int32)) hx hb dX12_init_464 (by decide) ?_
  refine lv_bipush (v := (103 : Int32)) hx hb dX12_init_466 (by decide) ?_
  refine stL (l0 := [46, 115, 121, 109, 116, 97, 98, 0, 46, 115, 116, 114, 116, 97, 98, 0, 46, 100, 101, 98, 117, 103, 95, 97, 98, 98, 114, 101, 118, 0, 46, 100, 101, 98, 117, 103, 95, 105, 110, 102, 111, 0, 46, 100, 101, 98, 117, 103, 95, 115, 116, 114, 0, 46, 100, 101, 98, 117]) (l1 := [46, 115, 121, 109, 116, 97, 98, 0, 46, 115, 116, 114, 116, 97, 98, 0, 46, 100, 101, 98, 117, 103, 95, 97, 98, 98, 114, 101, 118, 0, 46, 100, 101, 98, 117, 103, 95, 105, 110, 102, 111, 0, 46, 100, 101, 98, 117, 103, 95, 115, 116, 114, 0, 46, 100, 101, 98, 117, 103]) (i := (58 : Int32)) (v := (103 : Int32)) C hK hP hD hS (by decide) (inb_in (by decide)) rfl dX12_init_468 (fun H locs hP hD hS => ?_)
  refine lv_dup hx hb dX12_init_469 rfl ?_
  refine lv_bipush (v := (59 : Int32)) hx hb dX12_init_470 (by decide) ?_
  refine lv_bipush (v := (95 : Int32)) hx hb dX12_init_472 (by decide) ?_
  refine stL (l0 := [46, 115, 121, 109, 116, 97, 98, 0, 46, 115, 116, 114, 116, 97, 98, 0, 46, 100, 101, 98, 117, 103, 95, 97, 98, 98, 114, 101, 118, 0, 46, 100, 101, 98, 117, 103, 95, 105, 110, 102, 111, 0, 46, 100, 101, 98, 117, 103, 95, 115, 116, 114, 0, 46, 100, 101, 98, 117, 103]) (l1 := [46, 115, 121, 109, 116, 97, 98, 0, 46, 115, 116, 114, 116, 97, 98, 0, 46, 100, 101, 98, 117, 103, 95, 97, 98, 98, 114, 101, 118, 0, 46, 100, 101, 98, 117, 103, 95, 105, 110, 102, 111, 0, 46, 100, 101, 98, 117, 103, 95, 115, 116, 114, 0, 46, 100, 101, 98, 117, 103, 95]) (i := (59 : Int32)) (v := (95 : Int32)) C hK hP hD hS (by decide) (inb_in (by decide)) rfl dX12_init_474 (fun H locs hP hD hS => ?_)
  refine lv_dup hx hb dX12_init_475 rfl ?_
  refine lv_bipush (v := (60 : Int32)) hx hb dX12_init_476 (by decide) ?_
  refine lv_bipush (v := (108 : Int32)) hx hb dX12_init_478 (by decide) ?_
  refine stL (l0 := [46, 115, 121, 109, 116, 97, 98, 0, 46, 115, 116, 114, 116, 97, 98, 0, 46, 100, 101, 98, 117, 103, 95, 97, 98, 98, 114, 101, 118, 0, 46, 100, 101, 98, 117, 103, 95, 105, 110, 102, 111, 0, 46, 100, 101, 98, 117, 103, 95, 115, 116, 114, 0, 46, 100, 101, 98, 117, 103, 95]) (l1 := [46, 115, 121, 109, 116, 97, 98, 0, 46, 115, 116, 114, 116, 97, 98, 0, 46, 100, 101, 98, 117, 103, 95, 97, 98, 98, 114, 101, 118, 0, 46, 100, 101, 98, 117, 103, 95, 105, 110, 102, 111, 0, 46, 100, 101, 98, 117, 103, 95, 115, 116, 114, 0, 46, 100, 101, 98, 117, 103, 95, 108]) (i := (60 : Int32)) (v := (108 : Int32)) C hK hP hD hS (by decide) (inb_in (by decide)) rfl dX12_init_480 (fun H locs hP hD hS => ?_)
  refine lv_dup hx hb dX12_init_481 rfl ?_
  refine lv_bipush (v := (61 : Int32)) hx hb dX12_init_482 (by decide) ?_
  refine lv_bipush (v := (105 : Int32)) hx hb dX12_init_484 (by decide) ?_
  refine stL (l0 := [46, 115, 121, 109, 116, 97, 98, 0, 46, 115, 116, 114, 116, 97, 98, 0, 46, 100, 101, 98, 117, 103, 95, 97, 98, 98, 114, 101, 118, 0, 46, 100, 101, 98, 117, 103, 95, 105, 110, 102, 111, 0, 46, 100, 101, 98, 117, 103, 95, 115, 116, 114, 0, 46, 100, 101, 98, 117, 103, 95, 108]) (l1 := [46, 115, 121, 109, 116, 97, 98, 0, 46, 115, 116, 114, 116, 97, 98, 0, 46, 100, 101, 98, 117, 103, 95, 97, 98, 98, 114, 101, 118, 0, 46, 100, 101, 98, 117, 103, 95, 105, 110, 102, 111, 0, 46, 100, 101, 98, 117, 103, 95, 115, 116, 114, 0, 46, 100, 101, 98, 117, 103, 95, 108, 105]) (i := (61 : Int32)) (v := (105 : Int32)) C hK hP hD hS (by decide) (inb_in (by decide)) rfl dX12_init_486 (fun H locs hP hD hS => ?_)
  refine lv_dup hx hb dX12_init_487 rfl ?_
  refine lv_bipush (v := (62 : Int32)) hx hb dX12_init_488 (by decide) ?_
  refine lv_bipush (v := (110 : Int32)) hx hb dX12_init_490 (by decide) ?_
  refine stL (l0 := [46, 115, 121, 109, 116, 97, 98, 0, 46, 115, 116, 114, 116, 97, 98, 0, 46, 100, 101, 98, 117, 103, 95, 97, 98, 98, 114, 101, 118, 0, 46, 100, 101, 98, 117, 103, 95, 105, 110, 102, 111, 0, 46, 100, 101, 98, 117, 103, 95, 115, 116, 114, 0, 46, 100, 101, 98, 117, 103, 95, 108, 105]) (l1 := [46, 115, 121, 109, 116, 97, 98, 0, 46, 115, 116, 114, 116, 97, 98, 0, 46, 100, 101, 98, 117, 103, 95, 97, 98, 98, 114, 101, 118, 0, 46, 100, 101, 98, 117, 103, 95, 105, 110, 102, 111, 0, 46, 100, 101, 98, 117, 103, 95, 115, 116, 114, 0, 46, 100, 101, 98, 117, 103, 95, 108, 105, 110]) (i := (62 : Int32)) (v := (110 : Int32)) C hK hP hD hS (by decide) (inb_in (by decide)) rfl dX12_init_492 (fun H locs hP hD hS => ?_)
  refine lv_dup hx hb dX12_init_493 rfl ?_
  refine lv_bipush (v := (63 : Int32)) hx hb dX12_init_494 (by decide) ?_
  refine lv_bipush (v := (101 : Int32)) hx hb dX12_init_496 (by decide) ?_
  refine stL (l0 := [46, 115, 121, 109, 116, 97, 98, 0, 46, 115, 116, 114, 116, 97, 98, 0, 46, 100, 101, 98, 117, 103, 95, 97, 98, 98, 114, 101, 118, 0, 46, 100, 101, 98, 117, 103, 95, 105, 110, 102, 111, 0, 46, 100, 101, 98, 117, 103, 95, 115, 116, 114, 0, 46, 100, 101, 98, 117, 103, 95, 108, 105, 110]) (l1 := [46, 115, 121, 109, 116, 97, 98, 0, 46, 115, 116, 114, 116, 97, 98, 0, 46, 100, 101, 98, 117, 103, 95, 97, 98, 98, 114, 101, 118, 0, 46, 100, 101, 98, 117, 103, 95, 105, 110, 102, 111, 0, 46, 100, 101, 98, 117, 103, 95, 115, 116, 114, 0, 46, 100, 101, 98, 117, 103, 95, 108, 105, 110, 101]) (i := (63 : Int32)) (v := (101 : Int32)) C hK hP hD hS (by decide) (inb_in (by decide)) rfl dX12_init_498 (fun H locs hP hD hS => ?_)
  refine lv_dup hx hb dX12_init_499 rfl ?_
  refine lv_bipush (v := (64 : Int32)) hx hb dX12_init_500 (by decide) ?_
  refine lv_iconst (v := (0 : Int32)) hx hb dX12_init_502 (by decide) ?_
  refine stL (l0 := [46, 115, 121, 109, 116, 97, 98, 0, 46, 115, 116, 114, 116, 97, 98, 0, 46, 100, 101, 98, 117, 103, 95, 97, 98, 98, 114, 101, 118, 0, 46, 100, 101, 98, 117, 103, 95, 105, 110, 102, 111, 0, 46, 100, 101, 98, 117, 103, 95, 115, 116, 114, 0, 46, 100, 101, 98, 117, 103, 95, 108, 105, 110, 101]) (l1 := [46, 115, 121, 109, 116, 97, 98, 0, 46, 115, 116, 114, 116, 97, 98, 0, 46, 100, 101, 98, 117, 103, 95, 97, 98, 98, 114, 101, 118, 0, 46, 100, 101, 98, 117, 103, 95, 105, 110, 102, 111, 0, 46, 100, 101, 98, 117, 103, 95, 115, 116, 114, 0, 46, 100, 101, 98, 117, 103, 95, 108, 105, 110, 101, 0]) (i := (64 : Int32)) (v := (0 : Int32)) C hK hP hD hS (by decide) (inb_in (by decide)) rfl dX12_init_503 (fun H locs hP hD hS => ?_)
  refine lv_dup hx hb dX12_init_504 rfl ?_
  refine lv_bipush (v := (65 : Int32)) hx hb dX12_init_505 (by decide) ?_
  refine lv_bipush (v := (46 : Int32)) hx hb dX12_init_507 (by decide) ?_
  refine stL (l0 := [46, 115, 121, 109, 116, 97, 98, 0, 46, 115, 116, 114, 116, 97, 98, 0, 46, 100, 101, 98, 117, 103, 95, 97, 98, 98, 114, 101, 118, 0, 46, 100, 101, 98, 117, 103, 95, 105, 110, 102, 111, 0, 46, 100, 101, 98, 117, 103, 95, 115, 116, 114, 0, 46, 100, 101, 98, 117, 103, 95, 108, 105, 110, 101, 0]) (l1 := [46, 115, 121, 109, 116, 97, 98, 0, 46, 115, 116, 114, 116, 97, 98, 0, 46, 100, 101, 98, 117, 103, 95, 97, 98, 98, 114, 101, 118, 0, 46, 100, 101, 98, 117, 103, 95, 105, 110, 102, 111, 0, 46, 100, 101, 98, 117, 103, 95, 115, 116, 114, 0, 46, 100, 101, 98, 117, 103, 95, 108, 105, 110, 101, 0, 46]) (i := (65 : Int32)) (v := (46 : Int32)) C hK hP hD hS (by decide) (inb_in (by decide)) rfl dX12_init_509 (fun H locs hP hD hS => ?_)
  refine lv_dup hx hb dX12_init_510 rfl ?_
  refine lv_bipush (v := (66 : Int32)) hx hb dX12_init_511 (by decide) ?_
  refine lv_bipush (v := (100 : Int32)) hx hb dX12_init_513 (by decide) ?_
  refine stL (l0 := [46, 115, 121, 109, 116, 97, 98, 0, 46, 115, 116, 114, 116, 97, 98, 0, 46, 100, 101, 98, 117, 103, 95, 97, 98, 98, 114, 101, 118, 0, 46, 100, 101, 98, 117, 103, 95, 105, 110, 102, 111, 0, 46, 100, 101, 98, 117, 103, 95, 115, 116, 114, 0, 46, 100, 101, 98, 117, 103, 95, 108, 105, 110, 101, 0, 46]) (l1 := [46, 115, 121, 109, 116, 97, 98, 0, 46, 115, 116, 114, 116, 97, 98, 0, 46, 100, 101, 98, 117, 103, 95, 97, 98, 98, 114, 101, 118, 0, 46, 100, 101, 98, 117, 103, 95, 105, 110, 102, 111, 0, 46, 100, 101, 98, 117, 103, 95, 115, 116, 114, 0, 46, 100, 101, 98, 117, 103, 95, 108, 105, 110, 101, 0, 46, 100]) (i := (66 : Int32)) (v := (100 : Int32)) C hK hP hD hS (by decide) (inb_in (by decide)) rfl dX12_init_515 (fun H locs hP hD hS => ?_)
  refine lv_dup hx hb dX12_init_516 rfl ?_
  refine lv_bipush (v := (67 : Int32)) hx hb dX12_init_517 (by decide) ?_
  refine lv_bipush (v := (101 : Int32)) hx hb dX12_init_519 (by decide) ?_
  refine stL (l0 := [46, 115, 121, 109, 116, 97, 98, 0, 46, 115, 116, 114, 116, 97, 98, 0, 46, 100, 101, 98, 117, 103, 95, 97, 98, 98, 114, 101, 118, 0, 46, 100, 101, 98, 117, 103, 95, 105, 110, 102, 111, 0, 46, 100, 101, 98, 117, 103, 95, 115, 116, 114, 0, 46, 100, 101, 98, 117, 103, 95, 108, 105, 110, 101, 0, 46, 100]) (l1 := [46, 115, 121, 109, 116, 97, 98, 0, 46, 115, 116, 114, 116, 97, 98, 0, 46, 100, 101, 98, 117, 103, 95, 97, 98, 98, 114, 101, 118, 0, 46, 100, 101, 98, 117, 103, 95, 105, 110, 102, 111, 0, 46, 100, 101, 98, 117, 103, 95, 115, 116, 114, 0, 46, 100, 101, 98, 117, 103, 95, 108, 105, 110, 101, 0, 46, 100, 101]) (i := (67 : Int32)) (v := (101 : Int32)) C hK hP hD hS (by decide) (inb_in (by decide)) rfl dX12_init_521 (fun H locs hP hD hS => ?_)
  refine lv_dup hx hb dX12_init_522 rfl ?_
  refine lv_bipush (v := (68 : Int32)) hx hb dX12_init_523 (by decide) ?_
  refine lv_bipush (v := (98 : Int32)) hx hb dX12_init_525 (by decide) ?_
  refine stL (l0 := [46, 115, 121, 109, 116, 97, 98, 0, 46, 115, 116, 114, 116, 97, 98, 0, 46, 100, 101, 98, 117, 103, 95, 97, 98, 98, 114, 101, 118, 0, 46, 100, 101, 98, 117, 103, 95, 105, 110, 102, 111, 0, 46, 100, 101, 98, 117, 103, 95, 115, 116, 114, 0, 46, 100, 101, 98, 117, 103, 95, 108, 105, 110, 101, 0, 46, 100, 101]) (l1 := [46, 115, 121, 109, 116, 97, 98, 0, 46, 115, 116, 114, 116, 97, 98, 0, 46, 100, 101, 98, 117, 103, 95, 97, 98, 98, 114, 101, 118, 0, 46, 100, 101, 98, 117, 103, 95, 105, 110, 102, 111, 0, 46, 100, 101, 98, 117, 103, 95, 115, 116, 114, 0, 46, 100, 101, 98, 117, 103, 95, 108, 105, 110, 101, 0, 46, 100, 101, 98]) (i := (68 : Int32)) (v := (98 : Int32)) C hK hP hD hS (by decide) (inb_in (by decide)) rfl dX12_init_527 (fun H locs hP hD hS => ?_)
  refine lv_dup hx hb dX12_init_528 rfl ?_
  refine lv_bipush (v := (69 : Int32)) hx hb dX12_init_529 (by decide) ?_
  refine lv_bipush (v := (117 : Int32)) hx hb dX12_init_531 (by decide) ?_
  refine stL (l0 := [46, 115, 121, 109, 116, 97, 98, 0, 46, 115, 116, 114, 116, 97, 98, 0, 46, 100, 101, 98, 117, 103, 95, 97, 98, 98, 114, 101, 118, 0, 46, 100, 101, 98, 117, 103, 95, 105, 110, 102, 111, 0, 46, 100, 101, 98, 117, 103, 95, 115, 116, 114, 0, 46, 100, 101, 98, 117, 103, 95, 108, 105, 110, 101, 0, 46, 100, 101, 98]) (l1 := [46, 115, 121, 109, 116, 97, 98, 0, 46, 115, 116, 114, 116, 97, 98, 0, 46, 100, 101, 98, 117, 103, 95, 97, 98, 98, 114, 101, 118, 0, 46, 100, 101, 98, 117, 103, 95, 105, 110, 102, 111, 0, 46, 100, 101, 98, 117, 103, 95, 115, 116, 114, 0, 46, 100, 101, 98, 117, 103, 95, 108, 105, 110, 101, 0, 46, 100, 101, 98, 117]) (i := (69 : Int32)) (v := (117 : Int32)) C hK hP hD hS (by decide) (inb_in (by decide)) rfl dX12_init_533 (fun H locs hP hD hS => ?_)
  refine lv_dup hx hb dX12_init_534 rfl ?_
  refine lv_bipush (v := (70 : Int32)) hx hb dX12_init_535 (by decide) ?_
  refine lv_bipush (v := (103 : Int32)) hx hb dX12_init_537 (by decide) ?_
  refine stL (l0 := [46, 115, 121, 109, 116, 97, 98, 0, 46, 115, 116, 114, 116, 97, 98, 0, 46, 100, 101, 98, 117, 103, 95, 97, 98, 98, 114, 101, 118, 0, 46, 100, 101, 98, 117, 103, 95, 105, 110, 102, 111, 0, 46, 100, 101, 98, 117, 103, 95, 115, 116, 114, 0, 46, 100, 101, 98, 117, 103, 95, 108, 105, 110, 101, 0, 46, 100, 101, 98, 117]) (l1 := [46, 115, 121, 109, 116, 97, 98, 0, 46, 115, 116, 114, 116, 97, 98, 0, 46, 100, 101, 98, 117, 103, 95, 97, 98, 98, 114, 101, 118, 0, 46, 100, 101, 98, 117, 103, 95, 105, 110, 102, 111, 0, 46, 100, 101, 98, 117, 103, 95, 115, 116, 114, 0, 46, 100, 101, 98, 117, 103, 95, 108, 105, 110, 101, 0, 46, 100, 101, 98, 117, 103]) (i := (70 : Int32)) (v := (103 : Int32)) C hK hP hD hS (by decide) (inb_in (by decide)) rfl dX12_init_539 (fun H locs hP hD hS => ?_)
  refine lv_dup hx hb dX12_init_540 rfl ?_
  refine lv_bipush (v := (71 : Int32)) hx hb dX12_init_541 (by decide) ?_
  refine lv_bipush (v := (95 : Int32)) hx hb dX12_init_543 (by decide) ?_
  refine stL (l0 := [46, 115, 121, 109, 116, 97, 98, 0, 46, 115, 116, 114, 116, 97, 98, 0, 46, 100, 101, 98, 117, 103, 95, 97, 98, 98, 114, 101, 118, 0, 46, 100, 101, 98, 117, 103, 95, 105, 110, 102, 111, 0, 46, 100, 101, 98, 117, 103, 95, 115, 116, 114, 0, 46, 100, 101, 98, 117, 103, 95, 108, 105, 110, 101, 0, 46, 100, 101, 98, 117, 103]) (l1 := [46, 115, 121, 109, 116, 97, 98, 0, 46, 115, 116, 114, 116, 97, 98, 0, 46, 100, 101, 98, 117, 103, 95, 97, 98, 98, 114, 101, 118, 0, 46, 100, 101, 98, 117, 103, 95, 105, 110, 102, 111, 0, 46, 100, 101, 98, 117, 103, 95, 115, 116, 114, 0, 46, 100, 101, 98, 117, 103, 95, 108, 105, 110, 101, 0, 46, 100, 101, 98, 117, 103, 95]) (i := (71 : Int32)) (v := (95 : Int32)) C hK hP hD hS (by decide) (inb_in (by decide)) rfl dX12_init_545 (fun H locs hP hD hS => ?_)
  refine lv_dup hx hb dX12_init_546 rfl ?_
  refine lv_bipush (v := (72 : Int32)) hx hb dX12_init_547 (by decide) ?_
  refine lv_bipush (v := (114 : Int32)) hx hb dX12_init_549 (by decide) ?_
  refine stL (l0 := [46, 115, 121, 109, 116, 97, 98, 0, 46, 115, 116, 114, 116, 97, 98, 0, 46, 100, 101, 98, 117, 103, 95, 97, 98, 98, 114, 101, 118, 0, 46, 100, 101, 98, 117, 103, 95, 105, 110, 102, 111, 0, 46, 100, 101, 98, 117, 103, 95, 115, 116, 114, 0, 46, 100, 101, 98, 117, 103, 95, 108, 105, 110, 101, 0, 46, 100, 101, 98, 117, 103, 95]) (l1 := [46, 115, 121, 109, 116, 97, 98, 0, 46, 115, 116, 114, 116, 97, 98, 0, 46, 100, 101, 98, 117, 103, 95, 97, 98, 98, 114, 101, 118, 0, 46, 100, 101, 98, 117, 103, 95, 105, 110, 102, 111, 0, 46, 100, 101, 98, 117, 103, 95, 115, 116, 114, 0, 46, 100, 101, 98, 117, 103, 95, 108, 105, 110, 101, 0, 46, 100, 101, 98, 117, 103, 95, 114]) (i := (72 : Int32)) (v := (114 : Int32)) C hK hP hD hS (by decide) (inb_in (by decide)) rfl dX12_init_551 (fun H locs hP hD hS => ?_)
  refine lv_dup hx hb dX12_init_552 rfl ?_
  refine lv_bipush (v := (73 : Int32)) hx hb dX12_init_553 (by decide) ?_
  refine lv_bipush (v := (110 : Int32)) hx hb dX12_init_555 (by decide) ?_
  refine stL (l0 := [46, 115, 121, 109, 116, 97, 98, 0, 46, 115, 116, 114, 116, 97, 98, 0, 46, 100, 101, 98, 117, 103, 95, 97, 98, 98, 114, 101, 118, 0, 46, 100, 101, 98, 117, 103, 95, 105, 110, 102, 111, 0, 46, 100, 101, 98, 117, 103, 95, 115, 116, 114, 0, 46, 100, 101, 98, 117, 103, 95, 108, 105, 110, 101, 0, 46, 100, 101, 98, 117, 103, 95, 114]) (l1 := [46, 115, 121, 109, 116, 97, 98, 0, 46, 115, 116, 114, 116, 97, 98, 0, 46, 100, 101, 98, 117, 103, 95, 97, 98, 98, 114, 101, 118, 0, 46, 100, 101, 98, 117, 103, 95, 105, 110, 102, 111, 0, 46, 100, 101, 98, 117, 103, 95, 115, 116, 114, 0, 46, 100, 101, 98, 117, 103, 95, 108, 105, 110, 101, 0, 46, 100, 101, 98, 117, 103, 95, 114, 110]) (i := (73 : Int32)) (v := (110 : Int32)) C hK hP hD hS (by decide) (inb_in (by decide)) rfl dX12_init_557 (fun H locs hP hD hS => ?_)
  refine lv_dup hx hb dX12_init_558 rfl ?_
  refine lv_bipush (v := (74 : Int32)) hx hb dX12_init_559 (by decide) ?_
  refine lv_bipush (v := (103 : Int32)) hx hb dX12_init_561 (by decide) ?_
  refine stL (l0 := [46, 115, 121, 109, 116, 97, 98, 0, 46, 115, 116, 114, 116, 97, 98, 0, 46, 100, 101, 98, 117, 103, 95, 97, 98, 98, 114, 101, 118, 0, 46, 100, 101, 98, 117, 103, 95, 105, 110, 102, 111, 0, 46, 100, 101, 98, 117, 103, 95, 115, 116, 114, 0, 46, 100, 101, 98, 117, 103, 95, 108, 105, 110, 101, 0, 46, 100, 101, 98, 117, 103, 95, 114, 110]) (l1 := [46, 115, 121, 109, 116, 97, 98, 0, 46, 115, 116, 114, 116, 97, 98, 0, 46, 100, 101, 98, 117, 103, 95, 97, 98, 98, 114, 101, 118, 0, 46, 100, 101, 98, 117, 103, 95, 105, 110, 102, 111, 0, 46, 100, 101, 98, 117, 103, 95, 115, 116, 114, 0, 46, 100, 101, 98, 117, 103, 95, 108, 105, 110, 101, 0, 46, 100, 101, 98, 117, 103, 95, 114, 110, 103]) (i := (74 : Int32)) (v := (103 : Int32)) C hK hP hD hS (by decide) (inb_in (by decide)) rfl dX12_init_563 (fun H locs hP hD hS => ?_)
  refine lv_dup hx hb dX12_init_564 rfl ?_
  refine lv_bipush (v := (75 : Int32)) hx hb dX12_init_565 (by decide) ?_
  refine lv_bipush (v := (108 : Int32)) hx hb dX12_init_567 (by decide) ?_
  refine stL (l0 := [46, 115, 121, 109, 116, 97, 98, 0, 46, 115, 116, 114, 116, 97, 98, 0, 46, 100, 101, 98, 117, 103, 95, 97, 98, 98, 114, 101, 118, 0, 46, 100, 101, 98, 117, 103, 95, 105, 110, 102, 111, 0, 46, 100, 101, 98, 117, 103, 95, 115, 116, 114, 0, 46, 100, 101, 98, 117, 103, 95, 108, 105, 110, 101, 0, 46, 100, 101, 98, 117, 103, 95, 114, 110, 103]) (l1 := [46, 115, 121, 109, 116, 97, 98, 0, 46, 115, 116, 114, 116, 97, 98, 0, 46, 100, 101, 98, 117, 103, 95, 97, 98, 98, 114, 101, 118, 0, 46, 100, 101, 98, 117, 103, 95, 105, 110, 102, 111, 0, 46, 100, 101, 98, 117, 103, 95, 115, 116, 114, 0, 46, 100, 101, 98, 117, 103, 95, 108, 105, 110, 101, 0, 46, 100, 101, 98, 117, 103, 95, 114, 110, 103, 108]) (i := (75 : Int32)) (v := (108 : Int32)) C hK hP hD hS (by decide) (inb_in (by decide)) rfl dX12_init_569 (fun H locs hP hD hS => ?_)
  refine lv_dup hx hb dX12_init_570 rfl ?_
  refine lv_bipush (v := (76 : Int32)) hx hb dX12_init_571 (by decide) ?_
  refine lv_bipush (v := (105 : Int32)) hx hb dX12_init_573 (by decide) ?_
  refine stL (l0 := [46, 115, 121, 109, 116, 97, 98, 0, 46, 115, 116, 114, 116, 97, 98, 0, 46, 100, 101, 98, 117, 103, 95, 97, 98, 98, 114, 101, 118, 0, 46, 100, 101, 98, 117, 103, 95, 105, 110, 102, 111, 0, 46, 100, 101, 98, 117, 103, 95, 115, 116, 114, 0, 46, 100, 101, 98, 117, 103, 95, 108, 105, 110, 101, 0, 46, 100, 101, 98, 117, 103, 95, 114, 110, 103, 108]) (l1 := [46, 115, 121, 109, 116, 97, 98, 0, 46, 115, 116, 114, 116, 97, 98, 0, 46, 100, 101, 98, 117, 103, 95, 97, 98, 98, 114, 101, 118, 0, 46, 100, 101, 98, 117, 103, 95, 105, 110, 102, 111, 0, 46, 100, 101, 98, 117, 103, 95, 115, 116, 114, 0, 46, 100, 101, 98, 117, 103, 95, 108, 105, 110, 101, 0, 46, 100, 101, 98, 117, 103, 95, 114, 110, 103, 108, 105]) (i := (76 : Int32)) (v := (105 : Int32)) C hK hP hD hS (by decide) (inb_in (by decide)) rfl dX12_init_575 (fun H locs hP hD hS => ?_)
  refine lv_dup hx hb dX12_init_576 rfl ?_
  refine lv_bipush (v := (77 : Int32)) hx hb dX12_init_577 (by decide) ?_
  refine lv_bipush (v := (115 : Int32)) hx hb dX12_init_579 (by decide) ?_
  refine stL (l0 := [46, 115, 121, 109, 116, 97, 98, 0, 46, 115, 116, 114, 116, 97, 98, 0, 46, 100, 101, 98, 117, 103, 95, 97, 98, 98, 114, 101, 118, 0, 46, 100, 101, 98, 117, 103, 95, 105, 110, 102, 111, 0, 46, 100, 101, 98, 117, 103, 95, 115, 116, 114, 0, 46, 100, 101, 98, 117, 103, 95, 108, 105, 110, 101, 0, 46, 100, 101, 98, 117, 103, 95, 114, 110, 103, 108, 105]) (l1 := [46, 115, 121, 109, 116, 97, 98, 0, 46, 115, 116, 114, 116, 97, 98, 0, 46, 100, 101, 98, 117, 103, 95, 97, 98, 98, 114, 101, 118, 0, 46, 100, 101, 98, 117, 103, 95, 105, 110, 102, 111, 0, 46, 100, 101, 98, 117, 103, 95, 115, 116, 114, 0, 46, 100, 101, 98, 117, 103, 95, 108, 105, 110, 101, 0, 46, 100, 101, 98, 117, 103, 95, 114, 110, 103, 108, 105, 115]) (i := (77 : Int32)) (v := (115 : Int32)) C hK hP hD hS (by decide) (inb_in (by decide)) rfl dX12_init_581 (fun H locs hP hD hS => ?_)
  refine lv_dup hx hb dX12_init_582 rfl ?_
  refine lv_bipush (v := (78 : Int32)) hx hb dX12_init_583 (by decide) ?_
  refine lv_bipush (v := (116 : Int32)) hx hb dX12_init_585 (by decide) ?_
  refine stL (l0 := [46, 115, 121, 109, 116, 97, 98, 0, 46, 115, 116, 114, 116, 97, 98, 0, 46, 100, 101, 98, 117, 103, 95, 97, 98, 98, 114, 101, 118, 0, 46, 100, 101, 98, 117, 103, 95, 105, 110, 102, 111, 0, 46, 100, 101, 98, 117, 103, 95, 115, 116, 114, 0, 46, 100, 101, 98, 117, 103, 95, 108, 105, 110, 101, 0, 46, 100, 101, 98, 117, 103, 95, 114, 110, 103, 108, 105, 115]) (l1 := [46, 115, 121, 109, 116, 97, 98, 0, 46, 115, 116, 114, 116, 97, 98, 0, 46, 100, 101, 98, 117, 103, 95, 97, 98, 98, 114, 101, 118, 0, 46, 100, 101, 98, 117, 103, 95, 105, 110, 102, 111, 0, 46, 100, 101, 98, 117, 103, 95, 115, 116, 114, 0, 46, 100, 101, 98, 117, 103, 95, 108, 105, 110, 101, 0, 46, 100, 101, 98, 117, 103, 95, 114, 110, 103, 108, 105, 115, 116]) (i := (78 : Int32)) (v := (116 : Int32)) C hK hP hD hS (by decide) (inb_in (by decide)) rfl dX12_init_587 (fun H locs hP hD hS => ?_)
  refine lv_dup hx hb dX12_init_588 rfl ?_
  refine lv_bipush (v := (79 : Int32)) hx hb dX12_init_589 (by decide) ?_
  refine lv_bipush (v := (115 : Int32)) hx hb dX12_init_591 (by decide) ?_
  refine stL (l0 := [46, 115, 121, 109, 116, 97, 98, 0, 46, 115, 116, 114, 116, 97, 98, 0, 46, 100, 101, 98, 117, 103, 95, 97, 98, 98, 114, 101, 118, 0, 46, 100, 101, 98, 117, 103, 95, 105, 110, 102, 111, 0, 46, 100, 101, 98, 117, 103, 95, 115, 116, 114, 0, 46, 100, 101, 98, 117, 103, 95, 108, 105, 110, 101, 0, 46, 100, 101, 98, 117, 103, 95, 114, 110, 103, 108, 105, 115, 116]) (l1 := [46, 115, 121, 109, 116, 97, 98, 0, 46, 115, 116, 114, 116, 97, 98, 0, 46, 100, 101, 98, 117, 103, 95, 97, 98, 98, 114, 101, 118, 0, 46, 100, 101, 98, 117, 103, 95, 105, 110, 102, 111, 0, 46, 100, 101, 98, 117, 103, 95, 115, 116, 114, 0, 46, 100, 101, 98, 117, 103, 95, 108, 105, 110, 101, 0, 46, 100, 101, 98, 117, 103, 95, 114, 110, 103, 108, 105, 115, 116, 115]) (i := (79 : Int32)) (v := (115 : Int32)) C hK hP hD hS (by decide) (inb_in (by decide)) rfl dX12_init_593 (fun H locs hP hD hS => ?_)
  refine lv_dup hx hb dX12_init_594 rfl ?_
  refine lv_bipush (v := (80 : Int32)) hx hb dX12_init_595 (by decide) ?_
  refine lv_iconst (v := (0 : Int32)) hx hb dX12_init_597 (by decide) ?_
  refine stL (l0 := [46, 115, 121, 109, 116, 97, 98, 0, 46, 115, 116, 114, 116, 97, 98, 0, 46, 100, 101, 98, 117, 103, 95, 97, 98, 98, 114, 101, 118, 0, 46, 100, 101, 98, 117, 103, 95, 105, 110, 102, 111, 0, 46, 100, 101, 98, 117, 103, 95, 115, 116, 114, 0, 46, 100, 101, 98, 117, 103, 95, 108, 105, 110, 101, 0, 46, 100, 101, 98, 117, 103, 95, 114, 110, 103, 108, 105, 115, 116, 115]) (l1 := [46, 115, 121, 109, 116, 97, 98, 0, 46, 115, 116, 114, 116, 97, 98, 0, 46, 100, 101, 98, 117, 103, 95, 97, 98, 98, 114, 101, 118, 0, 46, 100, 101, 98, 117, 103, 95, 105, 110, 102, 111, 0, 46, 100, 101, 98, 117, 103, 95, 115, 116, 114, 0, 46, 100, 101, 98, 117, 103, 95, 108, 105, 110, 101, 0, 46, 100, 101, 98, 117, 103, 95, 114, 110, 103, 108, 105, 115, 116, 115, 0]) (i := (80 : Int32)) (v := (0 : Int32)) C hK hP hD hS (by decide) (inb_in (by decide)) rfl dX12_init_598 (fun H locs hP hD hS => ?_)
  refine pfF (ty := (.array .int)) C hin hlen hK hP hD hS 22 (by decide) rfl rfl rfl rfl rfl w1359 dX12_init_599 (fun H locs hlen hP hD hS => ?_)
  refine lv_aload_n hx hb dX12_init_602 rfl (lv_at hl 0 rfl) ?_
  refine lv_bipush (v := (7 : Int32)) hx hb dX12_init_603 (by decide) ?_
  refine nwa (atype := .int) (ty := .int) (N := 7) (a0 := (7, .inl (lstF []))) C rfl w170 (ra_i hK).1 (ra_i hK).2 hK hP hD hS hA (fun _ => rfl) (by decide) (by decide) (by decide) (Nat.le_of_ble_eq_true rfl) (Nat.le_of_ble_eq_true rfl) dX12_init_605 (fun q16 H hP hD hS => ?_)
  refine W.cs (cells' := 16) (slots' := 24206) rfl rfl ?_
  refine lv_dup hx hb dX12_init_607 rfl ?_
  refine lv_iconst (v := (0 : Int32)) hx hb dX12_init_608 (by decide) ?_
  refine lv_bipush (v := (127 : Int32)) hx hb dX12_init_609 (by decide) ?_
  refine stL (l0 := []) (l1 := [127]) (i := (0 : Int32)) (v := (127 : Int32)) C hK hP hD hS (by decide) (inb_in (by decide)) rfl dX12_init_611 (fun H locs hP hD hS => ?_)
  refine lv_dup hx hb dX12_init_612 rfl ?_
  refine lv_iconst (v := (1 : Int32)) hx hb dX12_init_613 (by decide) ?_
  refine lv_bipush (v := (69 : Int32)) hx hb dX12_init_614 (by decide) ?_
  refine stL (l0 := [127]) (l1 := [127, 69]) (i := (1 : Int32)) (v := (69 : Int32)) C hK hP hD hS (by decide) (inb_in (by decide)) rfl dX12_init_616 (fun H locs hP hD hS => ?_)
  refine lv_dup hx hb dX12_init_617 rfl ?_
  refine lv_iconst (v := (2 : Int32)) hx hb dX12_init_618 (by decide) ?_
  refine lv_bipush (v := (76 : Int32)) hx hb dX12_init_619 (by decide) ?_
  refine stL (l0 := [127, 69]) (l1 := [127, 69, 76]) (i := (2 : Int32)) (v := (76 : Int32)) C hK hP hD hS (by decide) (inb_in (by decide)) rfl dX12_init_621 (fun H locs hP hD hS => ?_)
  refine lv_dup hx hb dX12_init_622 rfl ?_
  refine lv_iconst (v := (3 : Int32)) hx hb dX12_init_623 (by decide) ?_
  refine lv_bipush (v := (70 : Int32)) hx hb dX12_init_624 (by decide) ?_
  refine stL (l0 := [127, 69, 76]) (l1 := [127, 69, 76, 70]) (i := (3 : Int32)) (v := (70 : Int32)) C hK hP hD hS (by decide) (inb_in (by decide)) rfl dX12_init_626 (fun H locs hP hD hS => ?_)
  refine lv_dup hx hb dX12_init_627 rfl ?_
  refine lv_iconst (v := (4 : Int32)) hx hb dX12_init_628 (by decide) ?_
  refine lv_iconst (v := (2 : Int32)) hx hb dX12_init_629 (by decide) ?_
  refine stL (l0 := [127, 69, 76, 70]) (l1 := [127, 69, 76, 70, 2]) (i := (4 : Int32)) (v := (2 : Int32)) C hK hP hD hS (by decide) (inb_in (by decide)) rfl dX12_init_630 (fun H locs hP hD hS => ?_)
  refine lv_dup hx hb dX12_init_631 rfl ?_
  refine lv_iconst (v := (5 : Int32)) hx hb dX12_init_632 (by decide) ?_
  refine lv_iconst (v := (1 : Int32)) hx hb dX12_init_633 (by decide) ?_
  refine stL (l0 := [127, 69, 76, 70, 2]) (l1 := [127, 69, 76, 70, 2, 1]) (i := (5 : Int32)) (v := (1 : Int32)) C hK hP hD hS (by decide) (inb_in (by decide)) rfl dX12_init_634 (fun H locs hP hD hS => ?_)
  refine lv_dup hx hb dX12_init_635 rfl ?_
  refine lv_bipush (v := (6 : Int32)) hx hb dX12_init_636 (by decide) ?_
  refine lv_iconst (v := (1 : Int32)) hx hb dX12_init_638 (by decide) ?_
  refine stL (l0 := [127, 69, 76, 70, 2, 1]) (l1 := [127, 69, 76, 70, 2, 1, 1]) (i := (6 : Int32)) (v := (1 : Int32)) C hK hP hD hS (by decide) (inb_in (by decide)) rfl dX12_init_639 (fun H locs hP hD hS => ?_)
  refine pfF (ty := (.array .int)) C hin hlen hK hP hD hS 23 (by decide) rfl rfl rfl rfl rfl w1360 dX12_init_640 (fun H locs hlen hP hD hS => ?_)
  refine lv_aload_n hx hb dX12_init_643 rfl (lv_at hl 0 rfl) ?_
  refine lv_sipush (v := (200 : Int32)) hx hb dX12_init_644 (by decide) ?_
  refine nwa (atype := .long) (ty := .long) (N := 200) (a0 := (200, .inr (.inl (fun _ => 0)))) C rfl w208 (ra_l hK).1 (ra_l hK).2 hK hP hD hS hA (fun _ => rfl) (by decide) (by decide) (by decide) (Nat.le_of_ble_eq_true rfl) (Nat.le_of_ble_eq_true rfl) dX12_init_647 (fun q17 H hP hD hS => ?_)
  refine W.cs (cells' := 17) (slots' := 24406) rfl rfl ?_
  refine pfF (ty := (.array .long)) C hin hlen hK hP hD hS 24 (by decide) rfl rfl rfl rfl rfl w1361 dX12_init_649 (fun H locs hlen hP hD hS => ?_)
  refine lv_aload_n hx hb dX12_init_652 rfl (lv_at hl 0 rfl) ?_
  refine lv_sipush (v := (200 : Int32)) hx hb dX12_init_653 (by decide) ?_
  refine nwa (atype := .long) (ty := .long) (N := 200) (a0 := (200, .inr (.inl (fun _ => 0)))) C rfl w208 (ra_l hK).1 (ra_l hK).2 hK hP hD hS hA (fun _ => rfl) (by decide) (by decide) (by decide) (Nat.le_of_ble_eq_true rfl) (Nat.le_of_ble_eq_true rfl) dX12_init_656 (fun q18 H hP hD hS => ?_)
  refine W.cs (cells' := 18) (slots' := 24606) rfl rfl ?_
  refine pfF (ty := (.array .long)) C hin hlen hK hP hD hS 25 (by decide) rfl rfl rfl rfl rfl w1362 dX12_init_658 (fun H locs hlen hP hD hS => ?_)
  refine lv_aload_n hx hb dX12_init_661 rfl (lv_at hl 0 rfl) ?_
  refine lv_sipush (v := (200 : Int32)) hx hb dX12_init_662 (by decide) ?_
  refine nwa (atype := .int) (ty := .int) (N := 200) (a0 := (200, .inl (fun _ => 0))) C rfl w170 (ra_i hK).1 (ra_i hK).2 hK hP hD hS hA (fun _ => rfl) (by decide) (by decide) (by decide) (Nat.le_of_ble_eq_true rfl) (Nat.le_of_ble_eq_true rfl) dX12_init_665 (fun q19 H hP hD hS => ?_)
  refine W.cs (cells' := 19) (slots' := 24806) rfl rfl ?_
  refine pfF (ty := (.array .int)) C hin hlen hK hP hD hS 26 (by decide) rfl rfl rfl rfl rfl w1363 dX12_init_667 (fun H locs hlen hP hD hS => ?_)
  refine lv_aload_n hx hb dX12_init_670 rfl (lv_at hl 0 rfl) ?_
  refine lv_sipush (v := (200 : Int32)) hx hb dX12_init_671 (by decide) ?_
  refine nwa (atype := .int) (ty := .int) (N := 200) (a0 := (200, .inl (fun _ => 0))) C rfl w170 (ra_i hK).1 (ra_i hK).2 hK hP hD hS hA (fun _ => rfl) (by decide) (by decide) (by decide) (Nat.le_of_ble_eq_true rfl) (Nat.le_of_ble_eq_true rfl) dX12_init_674 (fun q20 H hP hD hS => ?_)
  refine W.cs (cells' := 20) (slots' := 25006) rfl rfl ?_
  refine pfF (ty := (.array .int)) C hin hlen hK hP hD hS 27 (by decide) rfl rfl rfl rfl rfl w1364 dX12_init_676 (fun H locs hlen hP hD hS => ?_)
  refine lv_aload_n hx hb dX12_init_679 rfl (lv_at hl 0 rfl) ?_
  refine lv_bipush (v := (40 : Int32)) hx hb dX12_init_680 (by decide) ?_
  refine nwa (atype := .int) (ty := .int) (N := 40) (a0 := (40, .inl (fun _ => 0))) C rfl w170 (ra_i hK).1 (ra_i hK).2 hK hP hD hS hA (fun _ => rfl) (by decide) (by decide) (by decide) (Nat.le_of_ble_eq_true rfl) (Nat.le_of_ble_eq_true rfl) dX12_init_682 (fun q21 H hP hD hS => ?_)
  refine W.cs (cells' := 21) (slots' := 25046) rfl rfl ?_
  refine pfF (ty := (.array .int)) C hin hlen hK hP hD hS 28 (by decide) rfl rfl rfl rfl rfl w1365 dX12_init_684 (fun H locs hlen hP hD hS => ?_)
  refine lv_aload_n hx hb dX12_init_687 rfl (lv_at hl 0 rfl) ?_
  refine lv_bipush (v := (40 : Int32)) hx hb dX12_init_688 (by decide) ?_
  refine nwa (atype := .int) (ty := .int) (N := 40) (a0 := (40, .inl (fun _ => 0))) C rfl w170 (ra_i hK).1 (ra_i hK).2 hK hP hD hS hA (fun _ => rfl) (by decide) (by decide) (by decide) (Nat.le_of_ble_eq_true rfl) (Nat.le_of_ble_eq_true rfl) dX12_init_690 (fun q22 H hP hD hS => ?_)
  refine W.cs (cells' := 22) (slots' := 25086) rfl rfl ?_
  refine pfF (ty := (.array .int)) C hin hlen hK hP hD hS 29 (by decide) rfl rfl rfl rfl rfl w1366 dX12_init_692 (fun H locs hlen hP hD hS => ?_)
  refine lv_aload_n hx hb dX12_init_695 rfl (lv_at hl 0 rfl) ?_
  refine lv_bipush (v := (40 : Int32)) hx hb dX12_init_696 (by decide) ?_
  refine nwa (atype := .int) (ty := .int) (N := 40) (a0 := (40, .inl (fun _ => 0))) C rfl w170 (ra_i hK).1 (ra_i hK).2 hK hP hD hS hA (fun _ => rfl) (by decide) (by decide) (by decide) (Nat.le_of_ble_eq_true rfl) (Nat.le_of_ble_eq_true rfl) dX12_init_698 (fun q23 H hP hD hS => ?_)
  refine W.cs (cells' := 23) (slots' := 25126) rfl rfl ?_
  refine pfF (ty := (.array .int)) C hin hlen hK hP hD hS 30 (by decide) rfl rfl rfl rfl rfl w1367 dX12_init_700 (fun H locs hlen hP hD hS => ?_)
  refine lv_aload_n hx hb dX12_init_703 rfl (lv_at hl 0 rfl) ?_
  refine lv_bipush (v := (40 : Int32)) hx hb dX12_init_704 (by decide) ?_
  refine nwa (atype := .int) (ty := .int) (N := 40) (a0 := (40, .inl (fun _ => 0))) C rfl w170 (ra_i hK).1 (ra_i hK).2 hK hP hD hS hA (fun _ => rfl) (by decide) (by decide) (by decide) (Nat.le_of_ble_eq_true rfl) (Nat.le_of_ble_eq_true rfl) dX12_init_706 (fun q24 H hP hD hS => ?_)
  refine W.cs (cells' := 24) (slots' := 25166) rfl rfl ?_
  refine pfF (ty := (.array .int)) C hin hlen hK hP hD hS 31 (by decide) rfl rfl rfl rfl rfl w1368 dX12_init_708 (fun H locs hlen hP hD hS => ?_)
  refine lv_aload_n hx hb dX12_init_711 rfl (lv_at hl 0 rfl) ?_
  refine lv_bipush (v := (20 : Int32)) hx hb dX12_init_712 (by decide) ?_
  refine nwa (atype := .boolean) (ty := .boolean) (N := 20) (a0 := (20, .inl (fun _ => 0))) C rfl w1623 (ra_z hK).1 (ra_z hK).2 hK hP hD hS hA (fun _ => rfl) (by decide) (by decide) (by decide) (Nat.le_of_ble_eq_true rfl) (Nat.le_of_ble_eq_true rfl) dX12_init_714 (fun q25 H hP hD hS => ?_)
  refine W.cs (cells' := 25) (slots' := 25186) rfl rfl ?_
  refine pfF (ty := (.array .boolean)) C hin hlen hK hP hD hS 32 (by decide) rfl rfl rfl rfl rfl w1369 dX12_init_716 (fun H locs hlen hP hD hS => ?_)
  refine lv_aload_n hx hb dX12_init_719 rfl (lv_at hl 0 rfl) ?_
  refine lv_bipush (v := (20 : Int32)) hx hb dX12_init_720 (by decide) ?_
  refine nwa (atype := .long) (ty := .long) (N := 20) (a0 := (20, .inr (.inl (fun _ => 0)))) C rfl w208 (ra_l hK).1 (ra_l hK).2 hK hP hD hS hA (fun _ => rfl) (by decide) (by decide) (by decide) (Nat.le_of_ble_eq_true rfl) (Nat.le_of_ble_eq_true rfl) dX12_init_722 (fun q26 H hP hD hS => ?_)
  refine W.cs (cells' := 26) (slots' := 25206) rfl rfl ?_
  refine pfF (ty := (.array .long)) C hin hlen hK hP hD hS 33 (by decide) rfl rfl rfl rfl rfl w1370 dX12_init_724 (fun H locs hlen hP hD hS => ?_)
  refine lv_aload_n hx hb dX12_init_727 rfl (lv_at hl 0 rfl) ?_
  refine lv_bipush (v := (40 : Int32)) hx hb dX12_init_728 (by decide) ?_
  refine nwa (atype := .long) (ty := .long) (N := 40) (a0 := (40, .inr (.inl (fun _ => 0)))) C rfl w208 (ra_l hK).1 (ra_l hK).2 hK hP hD hS hA (fun _ => rfl) (by decide) (by decide) (by decide) (Nat.le_of_ble_eq_true rfl) (Nat.le_of_ble_eq_true rfl) dX12_init_730 (fun q27 H hP hD hS => ?_)
  refine W.cs (cells' := 27) (slots' := 25246) rfl rfl ?_
  refine pfF (ty := (.array .long)) C hin hlen hK hP hD hS 35 (by decide) rfl rfl rfl rfl rfl w1372 dX12_init_732 (fun H locs hlen hP hD hS => ?_)
  refine lv_aload_n hx hb dX12_init_735 rfl (lv_at hl 0 rfl) ?_
  refine lv_bipush (v := (40 : Int32)) hx hb dX12_init_736 (by decide) ?_
  refine nwa (atype := .long) (ty := .long) (N := 40) (a0 := (40, .inr (.inl (fun _ => 0)))) C rfl w208 (ra_l hK).1 (ra_l hK).2 hK hP hD hS hA (fun _ => rfl) (by decide) (by decide) (by decide) (Nat.le_of_ble_eq_true rfl) (Nat.le_of_ble_eq_true rfl) dX12_init_738 (fun q28 H hP hD hS => ?_)
  refine W.cs (cells' := 28) (slots' := 25286) rfl rfl ?_
  refine pfF (ty := (.array .long)) C hin hlen hK hP hD hS 36 (by decide) rfl rfl rfl rfl rfl w1373 dX12_init_740 (fun H locs hlen hP hD hS => ?_)
  refine lv_aload_n hx hb dX12_init_743 rfl (lv_at hl 0 rfl) ?_
  refine lv_bipush (v := (40 : Int32)) hx hb dX12_init_744 (by decide) ?_
  refine nwa (atype := .boolean) (ty := .boolean) (N := 40) (a0 := (40, .inl (fun _ => 0))) C rfl w1623 (ra_z hK).1 (ra_z hK).2 hK hP hD hS hA (fun _ => rfl) (by decide) (by decide) (by decide) (Nat.le_of_ble_eq_true rfl) (Nat.le_of_ble_eq_true rfl) dX12_init_746 (fun q29 H hP hD hS => ?_)
  refine W.cs (cells' := 29) (slots' := 25326) rfl rfl ?_
  refine pfF (ty := (.array .boolean)) C hin hlen hK hP hD hS 37 (by decide) rfl rfl rfl rfl rfl w1374 dX12_init_748 (fun H locs hlen hP hD hS => ?_)
  refine lv_aload_n hx hb dX12_init_751 rfl (lv_at hl 0 rfl) ?_
  refine lv_bipush (v := (40 : Int32)) hx hb dX12_init_752 (by decide) ?_
  refine nwa (atype := .int) (ty := .int) (N := 40) (a0 := (40, .inl (fun _ => 0))) C rfl w170 (ra_i hK).1 (ra_i hK).2 hK hP hD hS hA (fun _ => rfl) (by decide) (by decide) (by decide) (Nat.le_of_ble_eq_true rfl) (Nat.le_of_ble_eq_true rfl) dX12_init_754 (fun q30 H hP hD hS => ?_)
  refine W.cs (cells' := 30) (slots' := 25366) rfl rfl ?_
  refine pfF (ty := (.array .int)) C hin hlen hK hP hD hS 38 (by decide) rfl rfl rfl rfl rfl w1375 dX12_init_756 (fun H locs hlen hP hD hS => ?_)
  refine lv_aload_n hx hb dX12_init_759 rfl (lv_at hl 0 rfl) ?_
  refine lv_sipush (v := (640 : Int32)) hx hb dX12_init_760 (by decide) ?_
  refine nwa (atype := .long) (ty := .long) (N := 640) (a0 := (640, .inr (.inl (fun _ => 0)))) C rfl w208 (ra_l hK).1 (ra_l hK).2 hK hP hD hS hA (fun _ => rfl) (by decide) (by decide) (by decide) (Nat.le_of_ble_eq_true rfl) (Nat.le_of_ble_eq_true rfl) dX12_init_763 (fun q31 H hP hD hS => ?_)
  refine W.cs (cells' := 31) (slots' := 26006) rfl rfl ?_
  refine pfF (ty := (.array .long)) C hin hlen hK hP hD hS 39 (by decide) rfl rfl rfl rfl rfl w1376 dX12_init_765 (fun H locs hlen hP hD hS => ?_)
  refine lv_aload_n hx hb dX12_init_768 rfl (lv_at hl 0 rfl) ?_
  refine lv_sipush (v := (640 : Int32)) hx hb dX12_init_769 (by decide) ?_
  refine nwa (atype := .int) (ty := .int) (N := 640) (a0 := (640, .inl (fun _ => 0))) C rfl w170 (ra_i hK).1 (ra_i hK).2 hK hP hD hS hA (fun _ => rfl) (by decide) (by decide) (by decide) (Nat.le_of_ble_eq_true rfl) (Nat.le_of_ble_eq_true rfl) dX12_init_772 (fun q32 H hP hD hS => ?_)
  refine W.cs (cells' := 32) (slots' := 26646) rfl rfl ?_
  refine pfF (ty := (.array .int)) C hin hlen hK hP hD hS 40 (by decide) rfl rfl rfl rfl rfl w1377 dX12_init_774 (fun H locs hlen hP hD hS => ?_)
  refine lv_aload_n hx hb dX12_init_777 rfl (lv_at hl 0 rfl) ?_
  refine lv_sipush (v := (640 : Int32)) hx hb dX12_init_778 (by decide) ?_
  refine nwa (atype := .long) (ty := .long) (N := 640) (a0 := (640, .inr (.inl (fun _ => 0)))) C rfl w208 (ra_l hK).1 (ra_l hK).2 hK hP hD hS hA (fun _ => rfl) (by decide) (by decide) (by decide) (Nat.le_of_ble_eq_true rfl) (Nat.le_of_ble_eq_true rfl) dX12_init_781 (fun q33 H hP hD hS => ?_)
  refine W.cs (cells' := 33) (slots' := 27286) rfl rfl ?_
  refine pfF (ty := (.array .long)) C hin hlen hK hP hD hS 41 (by decide) rfl rfl rfl rfl rfl w1378 dX12_init_783 (fun H locs hlen hP hD hS => ?_)
  refine lv_aload_n hx hb dX12_init_786 rfl (lv_at hl 0 rfl) ?_
  refine lv_sipush (v := (800 : Int32)) hx hb dX12_init_787 (by decide) ?_
  refine nwa (atype := .long) (ty := .long) (N := 800) (a0 := (800, .inr (.inl (fun _ => 0)))) C rfl w208 (ra_l hK).1 (ra_l hK).2 hK hP hD hS hA (fun _ => rfl) (by decide) (by decide) (by decide) (Nat.le_of_ble_eq_true rfl) (Nat.le_of_ble_eq_true rfl) dX12_init_790 (fun q34 H hP hD hS => ?_)
  refine W.cs (cells' := 34) (slots' := 28086) rfl rfl ?_
  refine pfF (ty := (.array .long)) C hin hlen hK hP hD hS 42 (by decide) rfl rfl rfl rfl rfl w1379 dX12_init_792 (fun H locs hlen hP hD hS => ?_)
  refine lv_aload_n hx hb dX12_init_795 rfl (lv_at hl 0 rfl) ?_
  refine lv_sipush (v := (800 : Int32)) hx hb dX12_init_796 (by decide) ?_
  refine nwa (atype := .int) (ty := .int) (N := 800) (a0 := (800, .inl (fun _ => 0))) C rfl w170 (ra_i hK).1 (ra_i hK).2 hK hP hD hS hA (fun _ => rfl) (by decide) (by decide) (by decide) (Nat.le_of_ble_eq_true rfl) (Nat.le_of_ble_eq_true rfl) dX12_init_799 (fun q35 H hP hD hS => ?_)
  refine W.cs (cells' := 35) (slots' := 28886) rfl rfl ?_
  refine pfF (ty := (.array .int)) C hin hlen hK hP hD hS 43 (by decide) rfl rfl rfl rfl rfl w1380 dX12_init_801 (fun H locs hlen hP hD hS => ?_)
  refine lv_aload_n hx hb dX12_init_804 rfl (lv_at hl 0 rfl) ?_
  refine lv_sipush (v := (800 : Int32)) hx hb dX12_init_805 (by decide) ?_
  refine nwa (atype := .int) (ty := .int) (N := 800) (a0 := (800, .inl (fun _ => 0))) C rfl w170 (ra_i hK).1 (ra_i hK).2 hK hP hD hS hA (fun _ => rfl) (by decide) (by decide) (by decide) (Nat.le_of_ble_eq_true rfl) (Nat.le_of_ble_eq_true rfl) dX12_init_808 (fun q36 H hP hD hS => ?_)
  refine W.cs (cells' := 36) (slots' := 29686) rfl rfl ?_
  refine pfF (ty := (.array .int)) C hin hlen hK hP hD hS 44 (by decide) rfl rfl rfl rfl rfl w1381 dX12_init_810 (fun H locs hlen hP hD hS => ?_)
  refine lv_aload_n hx hb dX12_init_813 rfl (lv_at hl 0 rfl) ?_
  refine lv_sipush (v := (800 : Int32)) hx hb dX12_init_814 (by decide) ?_
  refine nwa (atype := .int) (ty := .int) (N := 800) (a0 := (800, .inl (fun _ => 0))) C rfl w170 (ra_i hK).1 (ra_i hK).2 hK hP hD hS hA (fun _ => rfl) (by decide) (by decide) (by decide) (Nat.le_of_ble_eq_true rfl) (Nat.le_of_ble_eq_true rfl) dX12_init_817 (fun q37 H hP hD hS => ?_)
  refine W.cs (cells' := 37) (slots' := 30486) rfl rfl ?_
  refine pfF (ty := (.array .int)) C hin hlen hK hP hD hS 45 (by decide) rfl rfl rfl rfl rfl w1382 dX12_init_819 (fun H locs hlen hP hD hS => ?_)
  refine lv_aload_n hx hb dX12_init_822 rfl (lv_at hl 0 rfl) ?_
  refine lv_sipush (v := (800 : Int32)) hx hb dX12_init_823 (by decide) ?_
  refine nwa (atype := .int) (ty := .int) (N := 800) (a0 := (800, .inl (fun _ => 0))) C rfl w170 (ra_i hK).1 (ra_i hK).2 hK hP hD hS hA (fun _ => rfl) (by decide) (by decide) (by decide) (Nat.le_of_ble_eq_true rfl) (Nat.le_of_ble_eq_true rfl) dX12_init_826 (fun q38 H hP hD hS => ?_)
  refine W.cs (cells' := 38) (slots' := 31286) rfl rfl ?_
  refine pfF (ty := (.array .int)) C hin hlen hK hP hD hS 46 (by decide) rfl rfl rfl rfl rfl w1383 dX12_init_828 (fun H locs hlen hP hD hS => ?_)
  refine lv_aload_n hx hb dX12_init_831 rfl (lv_at hl 0 rfl) ?_
  refine lv_sipush (v := (800 : Int32)) hx hb dX12_init_832 (by decide) ?_
  refine nwa (atype := .int) (ty := .int) (N := 800) (a0 := (800, .inl (fun _ => 0))) C rfl w170 (ra_i hK).1 (ra_i hK).2 hK hP hD hS hA (fun _ => rfl) (by decide) (by decide) (by decide) (Nat.le_of_ble_eq_true rfl) (Nat.le_of_ble_eq_true rfl) dX12_init_835 (fun q39 H hP hD hS => ?_)
  refine W.cs (cells' := 39) (slots' := 32086) rfl rfl ?_
  refine pfF (ty := (.array .int)) C hin hlen hK hP hD hS 47 (by decide) rfl rfl rfl rfl rfl w1384 dX12_init_837 (fun H locs hlen hP hD hS => ?_)
  refine lv_aload_n hx hb dX12_init_840 rfl (lv_at hl 0 rfl) ?_
  refine lv_sipush (v := (800 : Int32)) hx hb dX12_init_841 (by decide) ?_
  refine nwa (atype := .int) (ty := .int) (N := 800) (a0 := (800, .inl (fun _ => 0))) C rfl w170 (ra_i hK).1 (ra_i hK).2 hK hP hD hS hA (fun _ => rfl) (by decide) (by decide) (by decide) (Nat.le_of_ble_eq_true rfl) (Nat.le_of_ble_eq_true rfl) dX12_init_844 (fun q40 H hP hD hS => ?_)
  refine W.cs (cells' := 40) (slots' := 32886) rfl rfl ?_
  refine pfF (ty := (.array .int)) C hin hlen hK hP hD hS 48 (by decide) rfl rfl rfl rfl rfl w1385 dX12_init_846 (fun H locs hlen hP hD hS => ?_)
  refine lv_aload_n hx hb dX12_init_849 rfl (lv_at hl 0 rfl) ?_
  refine lv_sipush (v := (800 : Int32)) hx hb dX12_init_850 (by decide) ?_
  refine nwa (atype := .int) (ty := .int) (N := 800) (a0 := (800, .inl (fun _ => 0))) C rfl w170 (ra_i hK).1 (ra_i hK).2 hK hP hD hS hA (fun _ => rfl) (by decide) (by decide) (by decide) (Nat.le_of_ble_eq_true rfl) (Nat.le_of_ble_eq_true rfl) dX12_init_853 (fun q41 H hP hD hS => ?_)
  refine W.cs (cells' := 41) (slots' := 33686) rfl rfl ?_
  refine pfF (ty := (.array .int)) C hin hlen hK hP hD hS 49 (by decide) rfl rfl rfl rfl rfl w1386 dX12_init_855 (fun H locs hlen hP hD hS => ?_)
  refine lv_aload_n hx hb dX12_init_858 rfl (lv_at hl 0 rfl) ?_
  refine lv_sipush (v := (800 : Int32)) hx hb dX12_init_859 (by decide) ?_
  refine nwa (atype := .int) (ty := .int) (N := 800) (a0 := (800, .inl (fun _ => 0))) C rfl w170 (ra_i hK).1 (ra_i hK).2 hK hP hD hS hA (fun _ => rfl) (by decide) (by decide) (by decide) (Nat.le_of_ble_eq_true rfl) (Nat.le_of_ble_eq_true rfl) dX12_init_862 (fun q42 H hP hD hS => ?_)
  refine W.cs (cells' := 42) (slots' := 34486) rfl rfl ?_
  refine pfF (ty := (.array .int)) C hin hlen hK hP hD hS 50 (by decide) rfl rfl rfl rfl rfl w1387 dX12_init_864 (fun H locs hlen hP hD hS => ?_)
  refine lv_aload_n hx hb dX12_init_867 rfl (lv_at hl 0 rfl) ?_
  refine lv_sipush (v := (800 : Int32)) hx hb dX12_init_868 (by decide) ?_
  refine nwa (atype := .boolean) (ty := .boolean) (N := 800) (a0 := (800, .inl (fun _ => 0))) C rfl w1623 (ra_z hK).1 (ra_z hK).2 hK hP hD hS hA (fun _ => rfl) (by decide) (by decide) (by decide) (Nat.le_of_ble_eq_true rfl) (Nat.le_of_ble_eq_true rfl) dX12_init_871 (fun q43 H hP hD hS => ?_)
  refine W.cs (cells' := 43) (slots' := 35286) rfl rfl ?_
  refine pfF (ty := (.array .boolean)) C hin hlen hK hP hD hS 51 (by decide) rfl rfl rfl rfl rfl w1388 dX12_init_873 (fun H locs hlen hP hD hS => ?_)
  refine lv_aload_n hx hb dX12_init_876 rfl (lv_at hl 0 rfl) ?_
  refine lv_sipush (v := (800 : Int32)) hx hb dX12_init_877 (by decide) ?_
  refine nwa (atype := .boolean) (ty := .boolean) (N := 800) (a0 := (800, .inl (fun _ => 0))) C rfl w1623 (ra_z hK).1 (ra_z hK).2 hK hP hD hS hA (fun _ => rfl) (by decide) (by decide) (by decide) (Nat.le_of_ble_eq_true rfl) (Nat.le_of_ble_eq_true rfl) dX12_init_880 (fun q44 H hP hD hS => ?_)
  refine W.cs (cells' := 44) (slots' := 36086) rfl rfl ?_
  refine pfF (ty := (.array .boolean)) C hin hlen hK hP hD hS 52 (by decide) rfl rfl rfl rfl rfl w1389 dX12_init_882 (fun H locs hlen hP hD hS => ?_)
  refine lv_aload_n hx hb dX12_init_885 rfl (lv_at hl 0 rfl) ?_
  refine lv_sipush (v := (400 : Int32)) hx hb dX12_init_886 (by decide) ?_
  refine nwa (atype := .boolean) (ty := .boolean) (N := 400) (a0 := (400, .inl (fun _ => 0))) C rfl w1623 (ra_z hK).1 (ra_z hK).2 hK hP hD hS hA (fun _ => rfl) (by decide) (by decide) (by decide) (Nat.le_of_ble_eq_true rfl) (Nat.le_of_ble_eq_true rfl) dX12_init_889 (fun q45 H hP hD hS => ?_)
  refine W.cs (cells' := 45) (slots' := 36486) rfl rfl ?_
  refine pfF (ty := (.array .boolean)) C hin hlen hK hP hD hS 53 (by decide) rfl rfl rfl rfl rfl w1390 dX12_init_891 (fun H locs hlen hP hD hS => ?_)
  refine lv_aload_n hx hb dX12_init_894 rfl (lv_at hl 0 rfl) ?_
  refine lv_sipush (v := (400 : Int32)) hx hb dX12_init_895 (by decide) ?_
  refine nwa (atype := .boolean) (ty := .boolean) (N := 400) (a0 := (400, .inl (fun _ => 0))) C rfl w1623 (ra_z hK).1 (ra_z hK).2 hK hP hD hS hA (fun _ => rfl) (by decide) (by decide) (by decide) (Nat.le_of_ble_eq_true rfl) (Nat.le_of_ble_eq_true rfl) dX12_init_898 (fun q46 H hP hD hS => ?_)
  refine W.cs (cells' := 46) (slots' := 36886) rfl rfl ?_
  refine pfF (ty := (.array .boolean)) C hin hlen hK hP hD hS 54 (by decide) rfl rfl rfl rfl rfl w1391 dX12_init_900 (fun H locs hlen hP hD hS => ?_)
  refine lv_aload_n hx hb dX12_init_903 rfl (lv_at hl 0 rfl) ?_
  refine lv_sipush (v := (400 : Int32)) hx hb dX12_init_904 (by decide) ?_
  refine nwa (atype := .boolean) (ty := .boolean) (N := 400) (a0 := (400, .inl (fun _ => 0))) C rfl w1623 (ra_z hK).1 (ra_z hK).2 hK hP hD hS hA (fun _ => rfl) (by decide) (by decide) (by decide) (Nat.le_of_ble_eq_true rfl) (Nat.le_of_ble_eq_true rfl) dX12_init_907 (fun q47 H hP hD hS => ?_)
  refine W.cs (cells' := 47) (slots' := 37286) rfl rfl ?_
  refine pfF (ty := (.array .boolean)) C hin hlen hK hP hD hS 55 (by decide) rfl rfl rfl rfl rfl w1392 dX12_init_909 (fun H locs hlen hP hD hS => ?_)
  refine lv_aload_n hx hb dX12_init_912 rfl (lv_at hl 0 rfl) ?_
  refine lv_sipush (v := (400 : Int32)) hx hb dX12_init_913 (by decide) ?_
  refine nwa (atype := .boolean) (ty := .boolean) (N := 400) (a0 := (400, .inl (fun _ => 0))) C rfl w1623 (ra_z hK).1 (ra_z hK).2 hK hP hD hS hA (fun _ => rfl) (by decide) (by decide) (by decide) (Nat.le_of_ble_eq_true rfl) (Nat.le_of_ble_eq_true rfl) dX12_init_916 (fun q48 H hP hD hS => ?_)
  refine W.cs (cells' := 48) (slots' := 37686) rfl rfl ?_
  refine pfF (ty := (.array .boolean)) C hin hlen hK hP hD hS 56 (by decide) rfl rfl rfl rfl rfl w1393 dX12_init_918 (fun H locs hlen hP hD hS => ?_)
  refine lv_aload_n hx hb dX12_init_921 rfl (lv_at hl 0 rfl) ?_
  refine lv_sipush (v := (400 : Int32)) hx hb dX12_init_922 (by decide) ?_
  refine nwa (atype := .long) (ty := .long) (N := 400) (a0 := (400, .inr (.inl (fun _ => 0)))) C rfl w208 (ra_l hK).1 (ra_l hK).2 hK hP hD hS hA (fun _ => rfl) (by decide) (by decide) (by decide) (Nat.le_of_ble_eq_true rfl) (Nat.le_of_ble_eq_true rfl) dX12_init_925 (fun q49 H hP hD hS => ?_)
  refine W.cs (cells' := 49) (slots' := 38086) rfl rfl ?_
  refine pfF (ty := (.array .long)) C hin hlen hK hP hD hS 57 (by decide) rfl rfl rfl rfl rfl w1394 dX12_init_927 (fun H locs hlen hP hD hS => ?_)
  refine lv_aload_n hx hb dX12_init_930 rfl (lv_at hl 0 rfl) ?_
  refine lv_sipush (v := (400 : Int32)) hx hb dX12_init_931 (by decide) ?_
  refine nwa (atype := .long) (ty := .long) (N := 400) (a0 := (400, .inr (.inl (fun _ => 0)))) C rfl w208 (ra_l hK).1 (ra_l hK).2 hK hP hD hS hA (fun _ => rfl) (by decide) (by decide) (by decide) (Nat.le_of_ble_eq_true rfl) (Nat.le_of_ble_eq_true rfl) dX12_init_934 (fun q50 H hP hD hS => ?_)
  refine W.cs (cells' := 50) (slots' := 38486) rfl rfl ?_
  refine pfF (ty := (.array .long)) C hin hlen hK hP hD hS 58 (by decide) rfl rfl rfl rfl rfl w1395 dX12_init_936 (fun H locs hlen hP hD hS => ?_)
  refine lv_aload_n hx hb dX12_init_939 rfl (lv_at hl 0 rfl) ?_
  refine lv_sipush (v := (400 : Int32)) hx hb dX12_init_940 (by decide) ?_
  refine nwa (atype := .long) (ty := .long) (N := 400) (a0 := (400, .inr (.inl (fun _ => 0)))) C rfl w208 (ra_l hK).1 (ra_l hK).2 hK hP hD hS hA (fun _ => rfl) (by decide) (by decide) (by decide) (Nat.le_of_ble_eq_true rfl) (Nat.le_of_ble_eq_true rfl) dX12_init_943 (fun q51 H hP hD hS => ?_)
  refine W.cs (cells' := 51) (slots' := 38886) rfl rfl ?_
  refine pfF (ty := (.array .long)) C hin hlen hK hP hD hS 59 (by decide) rfl rfl rfl rfl rfl w1396 dX12_init_945 (fun H locs hlen hP hD hS => ?_)
  refine lv_aload_n hx hb dX12_init_948 rfl (lv_at hl 0 rfl) ?_
  refine lv_sipush (v := (2001 : Int32)) hx hb dX12_init_949 (by decide) ?_
  refine nwa (atype := .int) (ty := .int) (N := 2001) (a0 := (2001, .inl (fun _ => 0))) C rfl w170 (ra_i hK).1 (ra_i hK).2 hK hP hD hS hA (fun _ => rfl) (by decide) (by decide) (by decide) (Nat.le_of_ble_eq_true rfl) (Nat.le_of_ble_eq_true rfl) dX12_init_952 (fun q52 H hP hD hS => ?_)
  refine W.cs (cells' := 52) (slots' := 40887) rfl rfl ?_
  refine pfF (ty := (.array .int)) C hin hlen hK hP hD hS 61 (by decide) rfl rfl rfl rfl rfl w1398 dX12_init_954 (fun H locs hlen hP hD hS => ?_)
  refine lv_aload_n hx hb dX12_init_957 rfl (lv_at hl 0 rfl) ?_
  refine lv_sipush (v := (2001 : Int32)) hx hb dX12_init_958 (by decide) ?_
  refine nwa (atype := .long) (ty := .long) (N := 2001) (a0 := (2001, .inr (.inl (fun _ => 0)))) C rfl w208 (ra_l hK).1 (ra_l hK).2 hK hP hD hS hA (fun _ => rfl) (by decide) (by decide) (by decide) (Nat.le_of_ble_eq_true rfl) (Nat.le_of_ble_eq_true rfl) dX12_init_961 (fun q53 H hP hD hS => ?_)
  refine W.cs (cells' := 53) (slots' := 42888) rfl rfl ?_
  refine pfF (ty := (.array .long)) C hin hlen hK hP hD hS 62 (by decide) rfl rfl rfl rfl rfl w1399 dX12_init_963 (fun H locs hlen hP hD hS => ?_)
  refine lv_aload_n hx hb dX12_init_966 rfl (lv_at hl 0 rfl) ?_
  refine lv_sipush (v := (2001 : Int32)) hx hb dX12_init_967 (by decide) ?_
  refine nwa (atype := .int) (ty := .int) (N := 2001) (a0 := (2001, .inl (fun _ => 0))) C rfl w170 (ra_i hK).1 (ra_i hK).2 hK hP hD hS hA (fun _ => rfl) (by decide) (by decide) (by decide) (Nat.le_of_ble_eq_true rfl) (Nat.le_of_ble_eq_true rfl) dX12_init_970 (fun q54 H hP hD hS => ?_)
  refine W.cs (cells' := 54) (slots' := 44889) rfl rfl ?_
  refine pfF (ty := (.array .int)) C hin hlen hK hP hD hS 63 (by decide) rfl rfl rfl rfl rfl w1400 dX12_init_972 (fun H locs hlen hP hD hS => ?_)
  refine lv_aload_n hx hb dX12_init_975 rfl (lv_at hl 0 rfl) ?_
  refine lv_sipush (v := (2001 : Int32)) hx hb dX12_init_976 (by decide) ?_
  refine nwa (atype := .int) (ty := .int) (N := 2001) (a0 := (2001, .inl (fun _ => 0))) C rfl w170 (ra_i hK).1 (ra_i hK).2 hK hP hD hS hA (fun _ => rfl) (by decide) (by decide) (by decide) (Nat.le_of_ble_eq_true rfl) (Nat.le_of_ble_eq_true rfl) dX12_init_979 (fun q55 H hP hD hS => ?_)
  refine W.cs (cells' := 55) (slots' := 46890) rfl rfl ?_
  refine pfF (ty := (.array .int)) C hin hlen hK hP hD hS 64 (by decide) rfl rfl rfl rfl rfl w1401 dX12_init_981 (fun H locs hlen hP hD hS => ?_)
  refine lv_aload_n hx hb dX12_init_984 rfl (lv_at hl 0 rfl) ?_
  refine lv_bipush (v := (24 : Int32)) hx hb dX12_init_985 (by decide) ?_
  refine nwa (atype := .int) (ty := .int) (N := 24) (a0 := (24, .inl (fun _ => 0))) C rfl w170 (ra_i hK).1 (ra_i hK).2 hK hP hD hS hA (fun _ => rfl) (by decide) (by decide) (by decide) (Nat.le_of_ble_eq_true rfl) (Nat.le_of_ble_eq_true rfl) dX12_init_987 (fun q56 H hP hD hS => ?_)
  refine W.cs (cells' := 56) (slots' := 46914) rfl rfl ?_
  refine pfF (ty := (.array .int)) C hin hlen hK hP hD hS 65 (by decide) rfl rfl rfl rfl rfl w1402 dX12_init_989 (fun H locs hlen hP hD hS => ?_)
  refine lv_aload_n hx hb dX12_init_992 rfl (lv_at hl 0 rfl) ?_
  refine lv_sipush (v := (400 : Int32)) hx hb dX12_init_993 (by decide) ?_
  refine nwa (atype := .int) (ty := .int) (N := 400) (a0 := (400, .inl (fun _ => 0))) C rfl w170 (ra_i hK).1 (ra_i hK).2 hK hP hD hS hA (fun _ => rfl) (by decide) (by decide) (by decide) (Nat.le_of_ble_eq_true rfl) (Nat.le_of_ble_eq_true rfl) dX12_init_996 (fun q57 H hP hD hS => ?_)
  refine W.cs (cells' := 57) (slots' := 47314) rfl rfl ?_
  refine pfF (ty := (.array .int)) C hin hlen hK hP hD hS 67 (by decide) rfl rfl rfl rfl rfl w1404 dX12_init_998 (fun H locs hlen hP hD hS => ?_)
  refine lv_aload_n hx hb dX12_init_1001 rfl (lv_at hl 0 rfl) ?_
  refine lv_sipush (v := (400 : Int32)) hx hb dX12_init_1002 (by decide) ?_
  refine nwa (atype := .long) (ty := .long) (N := 400) (a0 := (400, .inr (.inl (fun _ => 0)))) C rfl w208 (ra_l hK).1 (ra_l hK).2 hK hP hD hS hA (fun _ => rfl) (by decide) (by decide) (by decide) (Nat.le_of_ble_eq_true rfl) (Nat.le_of_ble_eq_true rfl) dX12_init_1005 (fun q58 H hP hD hS => ?_)
  refine W.cs (cells' := 58) (slots' := 47714) rfl rfl ?_
  refine pfF (ty := (.array .long)) C hin hlen hK hP hD hS 68 (by decide) rfl rfl rfl rfl rfl w1405 dX12_init_1007 (fun H locs hlen hP hD hS => ?_)
  refine lv_aload_n hx hb dX12_init_1010 rfl (lv_at hl 0 rfl) ?_
  refine lv_sipush (v := (400 : Int32)) hx hb dX12_init_1011 (by decide) ?_
  refine nwa (atype := .long) (ty := .long) (N := 400) (a0 := (400, .inr (.inl (fun _ => 0)))) C rfl w208 (ra_l hK).1 (ra_l hK).2 hK hP hD hS hA (fun _ => rfl) (by decide) (by decide) (by decide) (Nat.le_of_ble_eq_true rfl) (Nat.le_of_ble_eq_true rfl) dX12_init_1014 (fun q59 H hP hD hS => ?_)
  refine W.cs (cells' := 59) (slots' := 48114) rfl rfl ?_
  refine pfF (ty := (.array .long)) C hin hlen hK hP hD hS 69 (by decide) rfl rfl rfl rfl rfl w1406 dX12_init_1016 (fun H locs hlen hP hD hS => ?_)
  refine lv_aload_n hx hb dX12_init_1019 rfl (lv_at hl 0 rfl) ?_
  refine lv_sipush (v := (1200 : Int32)) hx hb dX12_init_1020 (by decide) ?_
  refine nwa (atype := .int) (ty := .int) (N := 1200) (a0 := (1200, .inl (fun _ => 0))) C rfl w170 (ra_i hK).1 (ra_i hK).2 hK hP hD hS hA (fun _ => rfl) (by decide) (by decide) (by decide) (Nat.le_of_ble_eq_true rfl) (Nat.le_of_ble_eq_true rfl) dX12_init_1023 (fun q60 H hP hD hS => ?_)
  refine W.cs (cells' := 60) (slots' := 49314) rfl rfl ?_
  refine pfF (ty := (.array .int)) C hin hlen hK hP hD hS 70 (by decide) rfl rfl rfl rfl rfl w1407 dX12_init_1025 (fun H locs hlen hP hD hS => ?_)
  refine lv_aload_n hx hb dX12_init_1028 rfl (lv_at hl 0 rfl) ?_
  refine lv_sipush (v := (1200 : Int32)) hx hb dX12_init_1029 (by decide) ?_
  refine nwa (atype := .long) (ty := .long) (N := 1200) (a0 := (1200, .inr (.inl (fun _ => 0)))) C rfl w208 (ra_l hK).1 (ra_l hK).2 hK hP hD hS hA (fun _ => rfl) (by decide) (by decide) (by decide) (Nat.le_of_ble_eq_true rfl) (Nat.le_of_ble_eq_true rfl) dX12_init_1032 (fun q61 H hP hD hS => ?_)
  refine W.cs (cells' := 61) (slots' := 50514) rfl rfl ?_
  refine pfF (ty := (.array .long)) C hin hlen hK hP hD hS 71 (by decide) rfl rfl rfl rfl rfl w1408 dX12_init_1034 (fun H locs hlen hP hD hS => ?_)
  refine lv_aload_n hx hb dX12_init_1037 rfl (lv_at hl 0 rfl) ?_
  refine lv_sipush (v := (1200 : Int32)) hx hb dX12_init_1038 (by decide) ?_
  refine nwa (atype := .int) (ty := .int) (N := 1200) (a0 := (1200, .inl (fun _ => 0))) C rfl w170 (ra_i hK).1 (ra_i hK).2 hK hP hD hS hA (fun _ => rfl) (by decide) (by decide) (by decide) (Nat.le_of_ble_eq_true rfl) (Nat.le_of_ble_eq_true rfl) dX12_init_1041 (fun q62 H hP hD hS => ?_)
  refine W.cs (cells' := 62) (slots' := 51714) rfl rfl ?_
  refine pfF (ty := (.array .int)) C hin hlen hK hP hD hS 72 (by decide) rfl rfl rfl rfl rfl w1409 dX12_init_1043 (fun H locs hlen hP hD hS => ?_)
  refine lv_aload_n hx hb dX12_init_1046 rfl (lv_at hl 0 rfl) ?_
  refine lv_sipush (v := (1200 : Int32)) hx hb dX12_init_1047 (by decide) ?_
  refine nwa (atype := .int) (ty := .int) (N := 1200) (a0 := (1200, .inl (fun _ => 0))) C rfl w170 (ra_i hK).1 (ra_i hK).2 hK hP hD hS hA (fun _ => rfl) (by decide) (by decide) (by decide) (Nat.le_of_ble_eq_true rfl) (Nat.le_of_ble_eq_true rfl) dX12_init_1050 (fun q63 H hP hD hS => ?_)
  refine W.cs (cells' := 63) (slots' := 52914) rfl rfl ?_
  refine pfF (ty := (.array .int)) C hin hlen hK hP hD hS 73 (by decide) rfl rfl rfl rfl rfl w1410 dX12_init_1052 (fun H locs hlen hP hD hS => ?_)
  refine lv_aload_n hx hb dX12_init_1055 rfl (lv_at hl 0 rfl) ?_
  refine lv_sipush (v := (1200 : Int32)) hx hb dX12_init_1056 (by decide) ?_
  refine nwa (atype := .boolean) (ty := .boolean) (N := 1200) (a0 := (1200, .inl (fun _ => 0))) C rfl w1623 (ra_z hK).1 (ra_z hK).2 hK hP hD hS hA (fun _ => rfl) (by decide) (by decide) (by decide) (Nat.le_of_ble_eq_true rfl) (Nat.le_of_ble_eq_true rfl) dX12_init_1059 (fun q64 H hP hD hS => ?_)
  refine W.cs (cells' := 64) (slots' := 54114) rfl rfl ?_
  refine pfF (ty := (.array .boolean)) C hin hlen hK hP hD hS 74 (by decide) rfl rfl rfl rfl rfl w1411 dX12_init_1061 (fun H locs hlen hP hD hS => ?_)
  refine lv_aload_n hx hb dX12_init_1064 rfl (lv_at hl 0 rfl) ?_
  refine lv_bipush (v := (80 : Int32)) hx hb dX12_init_1065 (by decide) ?_
  refine nwa (atype := .int) (ty := .int) (N := 80) (a0 := (80, .inl (fun _ => 0))) C rfl w170 (ra_i hK).1 (ra_i hK).2 hK hP hD hS hA (fun _ => rfl) (by decide) (by decide) (by decide) (Nat.le_of_ble_eq_true rfl) (Nat.le_of_ble_eq_true rfl) dX12_init_1067 (fun q65 H hP hD hS => ?_)
  refine W.cs (cells' := 65) (slots' := 54194) rfl rfl ?_
  refine pfF (ty := (.array .int)) C hin hlen hK hP hD hS 75 (by decide) rfl rfl rfl rfl rfl w1412 dX12_init_1069 (fun H locs hlen hP hD hS => ?_)
  refine lv_aload_n hx hb dX12_init_1072 rfl (lv_at hl 0 rfl) ?_
  refine lv_bipush (v := (80 : Int32)) hx hb dX12_init_1073 (by decide) ?_
  refine nwa (atype := .int) (ty := .int) (N := 80) (a0 := (80, .inl (fun _ => 0))) C rfl w170 (ra_i hK).1 (ra_i hK).2 hK hP hD hS hA (fun _ => rfl) (by decide) (by decide) (by decide) (Nat.le_of_ble_eq_true rfl) (Nat.le_of_ble_eq_true rfl) dX12_init_1075 (fun q66 H hP hD hS => ?_)
  refine W.cs (cells' := 66) (slots' := 54274) rfl rfl ?_
  refine pfF (ty := (.array .int)) C hin hlen hK hP hD hS 76 (by decide) rfl rfl rfl rfl rfl w1413 dX12_init_1077 (fun H locs hlen hP hD hS => ?_)
  refine lv_aload_n hx hb dX12_init_1080 rfl (lv_at hl 0 rfl) ?_
  refine lv_bipush (v := (20 : Int32)) hx hb dX12_init_1081 (by decide) ?_
  refine nwa (atype := .int) (ty := .int) (N := 20) (a0 := (20, .inl (fun _ => 0))) C rfl w170 (ra_i hK).1 (ra_i hK).2 hK hP hD hS hA (fun _ => rfl) (by decide) (by decide) (by decide) (Nat.le_of_ble_eq_true rfl) (Nat.le_of_ble_eq_true rfl) dX12_init_1083 (fun q67 H hP hD hS => ?_)
  refine W.cs (cells' := 67) (slots' := 54294) rfl rfl ?_
  refine pfF (ty := (.array .int)) C hin hlen hK hP hD hS 83 (by decide) rfl rfl rfl rfl rfl w1420 dX12_init_1085 (fun H locs hlen hP hD hS => ?_)
  refine lv_aload_n hx hb dX12_init_1088 rfl (lv_at hl 0 rfl) ?_
  refine lv_bipush (v := (24 : Int32)) hx hb dX12_init_1089 (by decide) ?_
  refine nwa (atype := .int) (ty := .int) (N := 24) (a0 := (24, .inl (fun _ => 0))) C rfl w170 (ra_i hK).1 (ra_i hK).2 hK hP hD hS hA (fun _ => rfl) (by decide) (by decide) (by decide) (Nat.le_of_ble_eq_true rfl) (Nat.le_of_ble_eq_true rfl) dX12_init_1091 (fun q68 H hP hD hS => ?_)
  refine W.cs (cells' := 68) (slots' := 54318) rfl rfl ?_
  refine pfF (ty := (.array .int)) C hin hlen hK hP hD hS 90 (by decide) rfl rfl rfl rfl rfl w1427 dX12_init_1093 (fun H locs hlen hP hD hS => ?_)
  refine lv_aload_n hx hb dX12_init_1096 rfl (lv_at hl 0 rfl) ?_
  refine lv_bipush (v := (24 : Int32)) hx hb dX12_init_1097 (by decide) ?_
  refine nwa (atype := .int) (ty := .int) (N := 24) (a0 := (24, .inl (fun _ => 0))) C rfl w170 (ra_i hK).1 (ra_i hK).2 hK hP hD hS hA (fun _ => rfl) (by decide) (by decide) (by decide) (Nat.le_of_ble_eq_true rfl) (Nat.le_of_ble_eq_true rfl) dX12_init_1099 (fun q69 H hP hD hS => ?_)
  refine W.cs (cells' := 69) (slots' := 54342) rfl rfl ?_
  refine pfF (ty := (.array .int)) C hin hlen hK hP hD hS 91 (by decide) rfl rfl rfl rfl rfl w1428 dX12_init_1101 (fun H locs hlen hP hD hS => ?_)
  refine lv_aload_n hx hb dX12_init_1104 rfl (lv_at hl 0 rfl) ?_
  refine lv_bipush (v := (24 : Int32)) hx hb dX12_init_1105 (by decide) ?_
  refine nwa (atype := .int) (ty := .int) (N := 24) (a0 := (24, .inl (fun _ => 0))) C rfl w170 (ra_i hK).1 (ra_i hK).2 hK hP hD hS hA (fun _ => rfl) (by decide) (by decide) (by decide) (Nat.le_of_ble_eq_true rfl) (Nat.le_of_ble_eq_true rfl) dX12_init_1107 (fun q70 H hP hD hS => ?_)
  refine W.cs (cells' := 70) (slots' := 54366) rfl rfl ?_
  refine pfF (ty := (.array .int)) C hin hlen hK hP hD hS 92 (by decide) rfl rfl rfl rfl rfl w1429 dX12_init_1109 (fun H locs hlen hP hD hS => ?_)
  refine lv_aload_n hx hb dX12_init_1112 rfl (lv_at hl 0 rfl) ?_
  refine lv_iconst (v := (-1 : Int32)) hx hb dX12_init_1113 (by decide) ?_
  refine pfI C hlen hK hP hD hS 93 (by decide) rfl rfl rfl w1430 dX12_init_1114 (fun H locs hlen hP hD hS => ?_)
  have hP : va_P D vwCl [(h0, .inr (12, [.ref q1, .int 0, .int 0, .int 0, .int 0, .int (-1 : Int32), .int (1 : Int32), .int 0, .ref q2, .int 0, .ref q3, .ref q4, .ref q5, .ref q6, .ref q7, .ref q8, .ref q9, .ref q10, .ref q11, .ref q12, .ref q13, .ref q14, .ref q15, .ref q16, .ref q17, .ref q18, .ref q19, .ref q20, .ref q21, .ref q22, .ref q23, .ref q24, .ref q25, .ref q26, .int 0, .ref q27, .ref q28, .ref q29, .ref q30, .ref q31, .ref q32, .ref q33, .ref q34, .ref q35, .ref q36, .ref q37, .ref q38, .ref q39, .ref q40, .ref q41, .ref q42, .ref q43, .ref q44, .ref q45, .ref q46, .ref q47, .ref q48, .ref q49, .ref q50, .ref q51, .int 0, .ref q52, .ref q53, .ref q54, .ref q55, .ref q56, .int 0, .ref q57, .ref q58, .ref q59, .ref q60, .ref q61, .ref q62, .ref q63, .ref q64, .ref q65, .ref q66, .int 0, .int 0, .int 0, .int 0, .int 0, .int 0, .ref q67, .long 0, .long 0, .long 0, .long 0, .int 0, .int 0, .ref q68, .ref q69, .ref q70, .int (-1 : Int32), .int 0])), (q1, .inl (cy 1, 8000, .inl (fun _ => 0))), (q2, .inl (cy 1, 16000, .inl (fun _ => 0))), (q3, .inl (cy 1, 2, .inl (fun _ => 0))), (q4, .inl (cy 1, 2, .inl (fun _ => 0))), (q5, .inl (cy 1, 2, .inl (fun _ => 0))), (q6, .inl (cy 1, 2, .inl (fun _ => 0))), (q7, .inl (cy 1, 2, .inl (fun _ => 0))), (q8, .inl (cy 1, 2, .inl (fun _ => 0))), (q9, .inl (cy 1, 2, .inl (fun _ => 0))), (q10, .inl (cy 1, 30, .inl (fun _ => 0))), (q11, .inl (cy 1, 30, .inl (fun _ => 0))), (q12, .inl (cy 1, 30, .inl (fun _ => 0))), (q13, .inl (cy 1, 7, .inl (fun _ => 0))), (q14, .inl (cy 1, 7, .inl (fun _ => 0))), (q15, .inl (cy 1, 81, .inl (lstF [46, 115, 121, 109, 116, 97, 98, 0, 46, 115, 116, 114, 116, 97, 98, 0, 46, 100, 101, 98, 117, 103, 95, 97, 98, 98, 114, 101, 118, 0, 46, 100, 101, 98, 117, 103, 95, 105, 110, 102, 111, 0, 46, 100, 101, 98, 117, 103, 95, 115, 116, 114, 0, 46, 100, 101, 98, 117, 103, 95, 108, 105, 110, 101, 0, 46, 100, 101, 98, 117, 103, 95, 114, 110, 103, 108, 105, 115, 116, 115, 0]))), (q16, .inl (cy 1, 7, .inl (lstF [127, 69, 76, 70, 2, 1, 1]))), (q17, .inl (cy 2, 200, .inr (.inl (fun _ => 0)))), (q18, .inl (cy 2, 200, .inr (.inl (fun _ => 0)))), (q19, .inl (cy 1, 200, .inl (fun _ => 0))), (q20, .inl (cy 1, 200, .inl (fun _ => 0))), (q21, .inl (cy 1, 40, .inl (fun _ => 0))), (q22, .inl (cy 1, 40, .inl (fun _ => 0))), (q23, .inl (cy 1, 40, .inl (fun _ => 0))), (q24, .inl (cy 1, 40, .inl (fun _ => 0))), (q25, .inl (cy 3, 20, .inl (fun _ => 0))), (q26, .inl (cy 2, 20, .inr (.inl (fun _ => 0)))), (q27, .inl (cy 2, 40, .inr (.inl (fun _ => 0)))), (q28, .inl (cy 2, 40, .inr (.inl (fun _ => 0)))), (q29, .inl (cy 3, 40, .inl (fun _ => 0))), (q30, .inl (cy 1, 40, .inl (fun _ => 0))), (q31, .inl (cy 2, 640, .inr (.inl (fun _ => 0)))), (q32, .inl (cy 1, 640, .inl (fun _ => 0))), (q33, .inl (cy 2, 640, .inr (.inl (fun _ => 0)))), (q34, .inl (cy 2, 800, .inr (.inl (fun _ => 0)))), (q35, .inl (cy 1, 800, .inl (fun _ => 0))), (q36, .inl (cy 1, 800, .inl (fun _ => 0))), (q37, .inl (cy 1, 800, .inl (fun _ => 0))), (q38, .inl (cy 1, 800, .inl (fun _ => 0))), (q39, .inl (cy 1, 800, .inl (fun _ => 0))), (q40, .inl (cy 1, 800, .inl (fun _ => 0))), (q41, .inl (cy 1, 800, .inl (fun _ => 0))), (q42, .inl (cy 1, 800, .inl (fun _ => 0))), (q43, .inl (cy 3, 800, .inl (fun _ => 0))), (q44, .inl (cy 3, 800, .inl (fun _ => 0))), (q45, .inl (cy 3, 400, .inl (fun _ => 0))), (q46, .inl (cy 3, 400, .inl (fun _ => 0))), (q47, .inl (cy 3, 400, .inl (fun _ => 0))), (q48, .inl (cy 3, 400, .inl (fun _ => 0))), (q49, .inl (cy 2, 400, .inr (.inl (fun _ => 0)))), (q50, .inl (cy 2, 400, .inr (.inl (fun _ => 0)))), (q51, .inl (cy 2, 400, .inr (.inl (fun _ => 0)))), (q52, .inl (cy 1, 2001, .inl (fun _ => 0))), (q53, .inl (cy 2, 2001, .inr (.inl (fun _ => 0)))), (q54, .inl (cy 1, 2001, .inl (fun _ => 0))), (q55, .inl (cy 1, 2001, .inl (fun _ => 0))), (q56, .inl (cy 1, 24, .inl (fun _ => 0))), (q57, .inl (cy 1, 400, .inl (fun _ => 0))), (q58, .inl (cy 2, 400, .inr (.inl (fun _ => 0)))), (q59, .inl (cy 2, 400, .inr (.inl (fun _ => 0)))), (q60, .inl (cy 1, 1200, .inl (fun _ => 0))), (q61, .inl (cy 2, 1200, .inr (.inl (fun _ => 0)))), (q62, .inl (cy 1, 1200, .inl (fun _ => 0))), (q63, .inl (cy 1, 1200, .inl (fun _ => 0))), (q64, .inl (cy 3, 1200, .inl (fun _ => 0))), (q65, .inl (cy 1, 80, .inl (fun _ => 0))), (q66, .inl (cy 1, 80, .inl (fun _ => 0))), (q67, .inl (cy 1, 20, .inl (fun _ => 0))), (q68, .inl (cy 1, 24, .inl (fun _ => 0))), (q69, .inl (cy 1, 24, .inl (fun _ => 0))), (q70, .inl (cy 1, 24, .inl (fun _ => 0)))] H := hP
  have hD : va_D A [(h0, .inr (12, [.ref q1, .int 0, .int 0, .int 0, .int 0, .int (-1 : Int32), .int (1 : Int32), .int 0, .ref q2, .int 0, .ref q3, .ref q4, .ref q5, .ref q6, .ref q7, .ref q8, .ref q9, .ref q10, .ref q11, .ref q12, .ref q13, .ref q14, .ref q15, .ref q16, .ref q17, .ref q18, .ref q19, .ref q20, .ref q21, .ref q22, .ref q23, .ref q24, .ref q25, .ref q26, .int 0, .ref q27, .ref q28, .ref q29, .ref q30, .ref q31, .ref q32, .ref q33, .ref q34, .ref q35, .ref q36, .ref q37, .ref q38, .ref q39, .ref q40, .ref q41, .ref q42, .ref q43, .ref q44, .ref q45, .ref q46, .ref q47, .ref q48, .ref q49, .ref q50, .ref q51, .int 0, .ref q52, .ref q53, .ref q54, .ref q55, .ref q56, .int 0, .ref q57, .ref q58, .ref q59, .ref q60, .ref q61, .ref q62, .ref q63, .ref q64, .ref q65, .ref q66, .int 0, .int 0, .int 0, .int 0, .int 0, .int 0, .ref q67, .long 0, .long 0, .long 0, .long 0, .int 0, .int 0, .ref q68, .ref q69, .ref q70, .int (-1 : Int32), .int 0])), (q1, .inl (cy 1, 8000, .inl (fun _ => 0))), (q2, .inl (cy 1, 16000, .inl (fun _ => 0))), (q3, .inl (cy 1, 2, .inl (fun _ => 0))), (q4, .inl (cy 1, 2, .inl (fun _ => 0))), (q5, .inl (cy 1, 2, .inl (fun _ => 0))), (q6, .inl (cy 1, 2, .inl (fun _ => 0))), (q7, .inl (cy 1, 2, .inl (fun _ => 0))), (q8, .inl (cy 1, 2, .inl (fun _ => 0))), (q9, .inl (cy 1, 2, .inl (fun _ => 0))), (q10, .inl (cy 1, 30, .inl (fun _ => 0))), (q11, .inl (cy 1, 30, .inl (fun _ => 0))), (q12, .inl (cy 1, 30, .inl (fun _ => 0))), (q13, .inl (cy 1, 7, .inl (fun _ => 0))), (q14, .inl (cy 1, 7, .inl (fun _ => 0))), (q15, .inl (cy 1, 81, .inl (lstF [46, 115, 121, 109, 116, 97, 98, 0, 46, 115, 116, 114, 116, 97, 98, 0, 46, 100, 101, 98, 117, 103, 95, 97, 98, 98, 114, 101, 118, 0, 46, 100, 101, 98, 117, 103, 95, 105, 110, 102, 111, 0, 46, 100, 101, 98, 117, 103, 95, 115, 116, 114, 0, 46, 100, 101, 98, 117, 103, 95, 108, 105, 110, 101, 0, 46, 100, 101, 98, 117, 103, 95, 114, 110, 103, 108, 105, 115, 116, 115, 0]))), (q16, .inl (cy 1, 7, .inl (lstF [127, 69, 76, 70, 2, 1, 1]))), (q17, .inl (cy 2, 200, .inr (.inl (fun _ => 0)))), (q18, .inl (cy 2, 200, .inr (.inl (fun _ => 0)))), (q19, .inl (cy 1, 200, .inl (fun _ => 0))), (q20, .inl (cy 1, 200, .inl (fun _ => 0))), (q21, .inl (cy 1, 40, .inl (fun _ => 0))), (q22, .inl (cy 1, 40, .inl (fun _ => 0))), (q23, .inl (cy 1, 40, .inl (fun _ => 0))), (q24, .inl (cy 1, 40, .inl (fun _ => 0))), (q25, .inl (cy 3, 20, .inl (fun _ => 0))), (q26, .inl (cy 2, 20, .inr (.inl (fun _ => 0)))), (q27, .inl (cy 2, 40, .inr (.inl (fun _ => 0)))), (q28, .inl (cy 2, 40, .inr (.inl (fun _ => 0)))), (q29, .inl (cy 3, 40, .inl (fun _ => 0))), (q30, .inl (cy 1, 40, .inl (fun _ => 0))), (q31, .inl (cy 2, 640, .inr (.inl (fun _ => 0)))), (q32, .inl (cy 1, 640, .inl (fun _ => 0))), (q33, .inl (cy 2, 640, .inr (.inl (fun _ => 0)))), (q34, .inl (cy 2, 800, .inr (.inl (fun _ => 0)))), (q35, .inl (cy 1, 800, .inl (fun _ => 0))), (q36, .inl (cy 1, 800, .inl (fun _ => 0))), (q37, .inl (cy 1, 800, .inl (fun _ => 0))), (q38, .inl (cy 1, 800, .inl (fun _ => 0))), (q39, .inl (cy 1, 800, .inl (fun _ => 0))), (q40, .inl (cy 1, 800, .inl (fun _ => 0))), (q41, .inl (cy 1, 800, .inl (fun _ => 0))), (q42, .inl (cy 1, 800, .inl (fun _ => 0))), (q43, .inl (cy 3, 800, .inl (fun _ => 0))), (q44, .inl (cy 3, 800, .inl (fun _ => 0))), (q45, .inl (cy 3, 400, .inl (fun _ => 0))), (q46, .inl (cy 3, 400, .inl (fun _ => 0))), (q47, .inl (cy 3, 400, .inl (fun _ => 0))), (q48, .inl (cy 3, 400, .inl (fun _ => 0))), (q49, .inl (cy 2, 400, .inr (.inl (fun _ => 0)))), (q50, .inl (cy 2, 400, .inr (.inl (fun _ => 0)))), (q51, .inl (cy 2, 400, .inr (.inl (fun _ => 0)))), (q52, .inl (cy 1, 2001, .inl (fun _ => 0))), (q53, .inl (cy 2, 2001, .inr (.inl (fun _ => 0)))), (q54, .inl (cy 1, 2001, .inl (fun _ => 0))), (q55, .inl (cy 1, 2001, .inl (fun _ => 0))), (q56, .inl (cy 1, 24, .inl (fun _ => 0))), (q57, .inl (cy 1, 400, .inl (fun _ => 0))), (q58, .inl (cy 2, 400, .inr (.inl (fun _ => 0)))), (q59, .inl (cy 2, 400, .inr (.inl (fun _ => 0)))), (q60, .inl (cy 1, 1200, .inl (fun _ => 0))), (q61, .inl (cy 2, 1200, .inr (.inl (fun _ => 0)))), (q62, .inl (cy 1, 1200, .inl (fun _ => 0))), (q63, .inl (cy 1, 1200, .inl (fun _ => 0))), (q64, .inl (cy 3, 1200, .inl (fun _ => 0))), (q65, .inl (cy 1, 80, .inl (fun _ => 0))), (q66, .inl (cy 1, 80, .inl (fun _ => 0))), (q67, .inl (cy 1, 20, .inl (fun _ => 0))), (q68, .inl (cy 1, 24, .inl (fun _ => 0))), (q69, .inl (cy 1, 24, .inl (fun _ => 0))), (q70, .inl (cy 1, 24, .inl (fun _ => 0)))] := hD
  have hP9 := hP.sub (ws' := (fun f => GM cy (adOf h0 f) mt0 mc0 mb0 mo0 ms0 mk0 my0 mu0 ma0 me0 mr0 mp0 mg0 mw0 mf0 ml0 mq0) (fun j => ([q1, q2, q3, q4, q5, q6, q7, q8, q9, q10, q11, q12, q13, q14, q15, q16, q17, q18, q19, q20, q21, q22, q23, q24, q25, q26, q27, q28, q29, q30, q31, q32, q33, q34, q35, q36, q37, q38, q39, q40, q41, q42, q43, q44, q45, q46, q47, q48, q49, q50, q51, q52, q53, q54, q55, q56, q57, q58, q59, q60, q61, q62, q63, q64, q65, q66, q67, q68, q69, q70] : List Nat).getD j 0)) [0, 1, 2, 3, 4, 5, 6, 7, 8, 9, 10, 11, 12, 13, 14, 15, 16, 17, 18, 19, 20, 21, 22, 23, 24, 25, 26, 27, 28, 29, 30, 31, 32, 33, 34, 35, 36, 37, 38, 39, 40, 41, 42, 43, 44, 45, 46, 47, 48, 49, 50, 51, 52, 53, 54, 55, 56, 57, 58, 59, 60, 61, 62, 63, 64, 65, 66, 67, 68, 69, 70] rfl
  have hD9 := hD.sub (ws' := (fun f => GM cy (adOf h0 f) mt0 mc0 mb0 mo0 ms0 mk0 my0 mu0 ma0 me0 mr0 mp0 mg0 mw0 mf0 ml0 mq0) (fun j => ([q1, q2, q3, q4, q5, q6, q7, q8, q9, q10, q11, q12, q13, q14, q15, q16, q17, q18, q19, q20, q21, q22, q23, q24, q25, q26, q27, q28, q29, q30, q31, q32, q33, q34, q35, q36, q37, q38, q39, q40, q41, q42, q43, q44, q45, q46, q47, q48, q49, q50, q51, q52, q53, q54, q55, q56, q57, q58, q59, q60, q61, q62, q63, q64, q65, q66, q67, q68, q69, q70] : List Nat).getD j 0)) [0, 1, 2, 3, 4, 5, 6, 7, 8, 9, 10, 11, 12, 13, 14, 15, 16, 17, 18, 19, 20, 21, 22, 23, 24, 25, 26, 27, 28, 29, 30, 31, 32, 33, 34, 35, 36, 37, 38, 39, 40, 41, 42, 43, 44, 45, 46, 47, 48, 49, 50, 51, 52, 53, 54, 55, 56, 57, 58, 59, 60, 61, 62, 63, 64, 65, 66, 67, 68, 69, 70] (by decide) rfl
  exact W.vret hx hb hr (fun t ht _ => ⟨rfl, ⟨(fun j => ([q1, q2, q3, q4, q5, q6, q7, q8, q9, q10, q11, q12, q13, q14, q15, q16, q17, q18, q19, q20, q21, q22, q23, q24, q25, q26, q27, q28, q29, q30, q31, q32, q33, q34, q35, q36, q37, q38, q39, q40, q41, q42, q43, q44, q45, q46, q47, q48, q49, q50, q51, q52, q53, q54, q55, q56, q57, q58, q59, q60, q61, q62, q63, q64, q65, q66, q67, q68, q69, q70] : List Nat).getD j 0), by rw [ht]; exact hP9, hD9⟩, hS.F ht⟩) hS.2.2 dX12_init_1117 hlk
