section ZVM8
variable {p : Program} {l : Launch} {e : Env} {s : State} {m : MethodId} {args : Array Value} {below : List Frame} {meth : Method} {c : Code} {D : va_G} {cA : Nat → ClassId} {A : Nat → Prop} {ad : Nat → Nat}
theorem w7_markOf_26 (C : zCx p s m args meth c cX7_markOf 3 RX7 (some .int) D ad cA A) {z : Int32 × Zs} (x1 : Int32) (x2 : Int32) (S : Zs) (H : Heap) (locs : List Loc) (ls : Array Slot) (h : f7_markOf_26 x1 x2 S = some z) (P : zP D zM ad cA A S s H locs) (hl : lv_has ls 3 [(0, .ref (ad 0)), (1, .int x1), (2, .int x2)]) :
    W p l e (zrm 4 97) s m args below meth c H locs 0 0 (MQ below (zQi D zM ad cA A z) args s 0 0 A) (F0 m 26 ls []) := by
  have hx := C.1
  have hb := C.2.1
  unfold f7_markOf_26 at h
  refine lv_aload_n hx hb dX7_markOf_26 rfl (lv_at hl 0 rfl) ?_
  refine lv_bipush (v := 20) hx hb dX7_markOf_27 (by decide) ?_
  obtain ⟨S29, g29, h⟩ := bd1_some h
  refine z_callVv C P (As := [.int (20 : Int32)]) (m7_began g29) cW7_323 rfl zm0 rfl (by decide) hl.1 rfl (Nat.le_of_ble_eq_true rfl) dX7_markOf_29 ⟨Nat.zero_le _, Nat.zero_le _⟩ (fun H locs P => ?_)
  refine lv_iload_n hx hb dX7_markOf_32 rfl (lv_at hl 2 rfl) ?_
  refine lv_iconst (v := 3) hx hb dX7_markOf_33 (by decide) ?_
  refine z_icmp_ne (tgt := 48) hx hb dX7_markOf_34 (by decide) h (fun h => ?_) (fun h => ?_)
  · refine lv_iload_n hx hb dX7_markOf_48 rfl (lv_at hl 1 rfl) ?_
    exact z_iret C P (Option.some.inj h) dX7_markOf_49
  · refine lv_iload_n hx hb dX7_markOf_37 rfl (lv_at hl 1 rfl) ?_
    refine lv_aload_n hx hb dX7_markOf_38 rfl (lv_at hl 0 rfl) ?_
    refine lv_iload_n hx hb dX7_markOf_39 rfl (lv_at hl 1 rfl) ?_
    refine lv_iload_n hx hb dX7_markOf_40 rfl (lv_at hl 2 rfl) ?_
    obtain ⟨r41, S41, g41, h⟩ := bd2_some h
    refine z_callVi C P (As := [.int x1, .int x2]) (m7_commonSize g41) cW7_329 rfl zm0 rfl (by decide) hl.1 rfl (Nat.le_of_ble_eq_true rfl) dX7_markOf_41 ⟨Nat.zero_le _, Nat.zero_le _⟩ (fun H locs P => ?_)
    refine lv_iadd hx hb dX7_markOf_44 ?_
    refine lv_goto (tgt := 49) hx hb dX7_markOf_45 (by decide) ?_
    exact z_iret C P (Option.some.inj h) dX7_markOf_49
theorem m7_markOf {l : Launch} {D : va_G} {cA : Nat → ClassId} {ad : Nat → Nat} {x1 : Int32} {x2 : Int32} {S : Zs} {z : Int32 × Zs} (h : f7_markOf x1 x2 S = some z) :
    zMi l yX7_markOf cX7_markOf 3 4 97 D zM ad cA S [.ref (ad 0), .int x1, .int x2] z := by
  refine z_enter (Qc := fun A => zQi D zM ad cA A z) (by decide +kernel) (Nat.le_of_ble_eq_true rfl) (fun p e s m below meth c A C P ls hl => ?_)
  have hx := C.1
  have hb := C.2.1
  have hl : lv_has ls 3 [(0, .ref (ad 0)), (1, .int x1), (2, .int x2)] := hl
  unfold f7_markOf at h
  refine lv_iload_n hx hb dX7_markOf_0 rfl (lv_at hl 2 rfl) ?_
  refine lv_iconst (v := 2) hx hb dX7_markOf_1 (by decide) ?_
  refine z_callSb C P (As := [.int x2, .int (2 : Int32)]) (m7_isOf) cW7_317 rfl (by decide) hl.1 rfl (Nat.le_of_ble_eq_true rfl) dX7_markOf_2 ⟨Nat.zero_le _, Nat.zero_le _⟩ (fun H locs n2 P => ?_)
  refine z_if_ne (tgt := 15) hx hb dX7_markOf_5 (by decide) h (fun h => ?_) (fun h => ?_)
  · refine lv_iload_n hx hb dX7_markOf_15 rfl (lv_at hl 2 rfl) ?_
    refine lv_iconst (v := 3) hx hb dX7_markOf_16 (by decide) ?_
    refine z_icmp_ne (tgt := 26) hx hb dX7_markOf_17 (by decide) h (fun h => ?_) (fun h => ?_)
    · exact w7_markOf_26 C _ _ _ _ _ _ h P (lv_sub hl [0, 1, 2] rfl)
    · refine lv_aload_n hx hb dX7_markOf_20 rfl (lv_at hl 0 rfl) ?_
      refine lv_bipush (v := 22) hx hb dX7_markOf_21 (by decide) ?_
      obtain ⟨S23, g23, h⟩ := bd1_some h
      refine z_callVv C P (As := [.int (22 : Int32)]) (m7_began g23) cW7_323 rfl zm0 rfl (by decide) hl.1 rfl (Nat.le_of_ble_eq_true rfl) dX7_markOf_23 ⟨Nat.zero_le _, Nat.zero_le _⟩ (fun H locs P => ?_)
      exact w7_markOf_26 C _ _ _ _ _ _ h P (lv_sub hl [0, 1, 2] rfl)
  · refine lv_aload_n hx hb dX7_markOf_8 rfl (lv_at hl 0 rfl) ?_
    refine lv_iload_n hx hb dX7_markOf_9 rfl (lv_at hl 1 rfl) ?_
    refine lv_iload_n hx hb dX7_markOf_10 rfl (lv_at hl 2 rfl) ?_
    obtain ⟨r11, S11, g11, h⟩ := bd2_some h
    refine z_callVi C P (As := [.int x1, .int x2]) (m7_aloneMark g11) cW7_332 rfl zm0 rfl (by decide) hl.1 rfl (Nat.le_of_ble_eq_true rfl) dX7_markOf_11 ⟨Nat.zero_le _, Nat.zero_le _⟩ (fun H locs P => ?_)
    exact z_iret C P (Option.some.inj h) dX7_markOf_14
theorem m7_ask {l : Launch} {D : va_G} {cA : Nat → ClassId} {ad : Nat → Nat} {x1 : Int32} {x2 : Int32} {S : Zs} {z : Int64 × Zs} (h : f7_ask x1 x2 S = some z) :
    zMl l yX7_ask cX7_ask 4 10 244 D zM ad cA S [.ref (ad 0), .int x1, .int x2] z := by
  refine z_enter (Qc := fun A => zQl D zM ad cA A z) (by decide +kernel) (Nat.le_of_ble_eq_true rfl) (fun p e s m below meth c A C P ls hl => ?_)
  have hx := C.1
  have hb := C.2.1
  have hl : lv_has ls 4 [(0, .ref (ad 0)), (1, .int x1), (2, .int x2)] := hl
  unfold f7_ask at h
  refine lv_aload_n hx hb dX7_ask_0 rfl (lv_at hl 0 rfl) ?_
  refine lv_iconst (v := 0) hx hb dX7_ask_1 (by decide) ?_
  refine pF7_62 C P zm0 rfl dX7_ask_2 h (fun S2 H locs h P => ?_)
  refine lv_aload_n hx hb dX7_ask_5 rfl (lv_at hl 0 rfl) ?_
  refine lv_iload_n hx hb dX7_ask_6 rfl (lv_at hl 1 rfl) ?_
  refine z_callVb C P (As := [.int x1]) (m7_isGood) cW7_192 rfl zm0 rfl (by decide) hl.1 rfl (Nat.le_of_ble_eq_true rfl) dX7_ask_7 ⟨Nat.zero_le _, Nat.zero_le _⟩ (fun H locs n7 P => ?_)
  refine z_if_eq (tgt := 23) hx hb dX7_ask_10 (by decide) h (fun h => ?_) (fun h => ?_)
  · refine lv_ldc2 (v := (-9000000000000000001)) hx hb C.2.2.2.1 (C.2.2.2.2.1 _ kK7_83) dX7_ask_23 ?_
    exact z_lret C P (Option.some.inj h) dX7_ask_26
  · refine lv_iload_n hx hb dX7_ask_13 rfl (lv_at hl 2 rfl) ?_
    refine lv_i2l hx hb dX7_ask_14 rfl ?_
    refine lv_lconst (v := 0) hx hb dX7_ask_15 (by decide) ?_
    refine lv_lconst (v := 1) hx hb dX7_ask_16 (by decide) ?_
    refine z_callSb C P (As := [.long x2.toInt64, .long (0 : Int64), .long (1 : Int64)]) (m7_in) cW7_73 rfl (by decide) hl.1 rfl (Nat.le_of_ble_eq_true rfl) dX7_ask_17 ⟨Nat.zero_le _, Nat.zero_le _⟩ (fun H locs n17 P => ?_)
    refine z_if_ne (tgt := 27) hx hb dX7_ask_20 (by decide) h (fun h => ?_) (fun h => ?_)
    · refine lv_aload_n hx hb dX7_ask_27 rfl (lv_at hl 0 rfl) ?_
      refine lv_iconst (v := 0) hx hb dX7_ask_28 (by decide) ?_
      refine pF7_320 C P zm0 rfl dX7_ask_29 h (fun S29 H locs h P => ?_)
      refine lv_aload_n hx hb dX7_ask_32 rfl (lv_at hl 0 rfl) ?_
      refine lv_iload_n hx hb dX7_ask_33 rfl (lv_at hl 1 rfl) ?_
      obtain ⟨r34, S34, g34, h⟩ := bd2_some h
      refine z_callVi C P (As := [.int x1]) (m7_kindOf g34) cW7_314 rfl zm0 rfl (by decide) hl.1 rfl (Nat.le_of_ble_eq_true rfl) dX7_ask_34 ⟨Nat.zero_le _, Nat.zero_le _⟩ (fun H locs P => ?_)
      refine lv_istore_n (lv' := [(3, .int r34), (0, .ref (ad 0)), (1, .int x1), (2, .int x2)]) hx hb dX7_ask_37 rfl hl (by decide) rfl (fun ls hl => ?_)
      refine lv_iload_n hx hb dX7_ask_38 rfl (lv_at hl 3 rfl) ?_
      refine z_if_ne (tgt := 52) hx hb dX7_ask_39 (by decide) h (fun h => ?_) (fun h => ?_)
      · refine lv_aload_n hx hb dX7_ask_52 rfl (lv_at hl 1 rfl) ?_
        refine lv_iload_n hx hb dX7_ask_53 rfl (lv_at hl 2 rfl) ?_
        refine lv_iload_n hx hb dX7_ask_54 rfl (lv_at hl 0 rfl) ?_
        obtain ⟨r55, S55, g55, h⟩ := bd2_some h
        refine z_callVi C P (As := [.int x1, .int r34]) (m7_markOf g55) cW7_338 rfl zm0 rfl (by decide) hl.1 rfl (Nat.le_of_ble_eq_true rfl) dX7_ask_55 ⟨Nat.zero_le _, Nat.zero_le _⟩ (fun H locs P => ?_)
        refine lv_i2l hx hb dX7_ask_58 rfl ?_
        exact z_lret C P (Option.some.inj h) dX7_ask_59
      · refine lv_aload_n hx hb dX7_ask_42 rfl (lv_at hl 1 rfl) ?_
        refine lv_iload_n hx hb dX7_ask_43 rfl (lv_at hl 2 rfl) ?_
        refine lv_iload_n hx hb dX7_ask_44 rfl (lv_at hl 0 rfl) ?_
        obtain ⟨r45, S45, g45, h⟩ := bd2_some h
        refine z_callVi C P (As := [.int x1, .int r34]) (m7_sizeOf g45) cW7_335 rfl zm0 rfl (by decide) hl.1 rfl (Nat.le_of_ble_eq_true rfl) dX7_ask_45 ⟨Nat.zero_le _, Nat.zero_le _⟩ (fun H locs P => ?_)
        refine lv_i2l hx hb dX7_ask_48 rfl ?_
        refine lv_goto (tgt := 59) hx hb dX7_ask_49 (by decide) ?_
        exact z_lret C P (Option.some.inj h) dX7_ask_59
    · refine lv_ldc2 (v := (-9000000000000000001)) hx hb C.2.2.2.1 (C.2.2.2.2.1 _ kK7_83) dX7_ask_23 ?_
      exact z_lret C P (Option.some.inj h) dX7_ask_26
theorem m7_trace {l : Launch} {D : va_G} {cA : Nat → ClassId} {ad : Nat → Nat} {x1 : Int32} {S : Zs} {z : Int32 × Zs} (h : f7_trace x1 S = some z) :
    zMi l yX7_trace cX7_trace 2 1 25 D zM ad cA S [.ref (ad 0), .int x1] z := by
  refine z_enter (Qc := fun A => zQi D zM ad cA A z) (by decide +kernel) (Nat.le_of_ble_eq_true rfl) (fun p e s m below meth c A C P ls hl => ?_)
  have hx := C.1
  have hb := C.2.1
  have hl : lv_has ls 2 [(0, .ref (ad 0)), (1, .int x1)] := hl
  unfold f7_trace at h
  refine lv_aload_n hx hb dX7_trace_0 rfl (lv_at hl 0 rfl) ?_
  refine lv_iconst (v := 0) hx hb dX7_trace_1 (by decide) ?_
  refine pF7_62 C P zm0 rfl dX7_trace_2 h (fun S2 H locs h P => ?_)
  refine lv_iload_n hx hb dX7_trace_5 rfl (lv_at hl 1 rfl) ?_
  refine lv_i2l hx hb dX7_trace_6 rfl ?_
  refine lv_lconst (v := 0) hx hb dX7_trace_7 (by decide) ?_
  refine lv_aload_n hx hb dX7_trace_8 rfl (lv_at hl 0 rfl) ?_
  refine gF7_320 C P zm0 rfl dX7_trace_9 ?_
  refine lv_iconst (v := 1) hx hb dX7_trace_12 (by decide) ?_
  refine lv_isub hx hb dX7_trace_13 ?_
  refine lv_i2l hx hb dX7_trace_14 rfl ?_
  refine z_callSb C P (As := [.long x1.toInt64, .long (0 : Int64), .long (((S2.1 0 36) - (1 : Int32)).toInt64)]) (m7_in) cW7_73 rfl (by decide) hl.1 rfl (Nat.le_of_ble_eq_true rfl) dX7_trace_15 ⟨Nat.zero_le _, Nat.zero_le _⟩ (fun H locs n15 P => ?_)
  refine z_if_eq (tgt := 30) hx hb dX7_trace_18 (by decide) h (fun h => ?_) (fun h => ?_)
  · refine lv_ldc (v := (-1000000)) hx hb C.2.2.2.1 (C.2.2.2.2.1 _ kK7_101) dX7_trace_30 ?_
    exact z_iret C P (Option.some.inj h) dX7_trace_32
  · refine lv_aload_n hx hb dX7_trace_21 rfl (lv_at hl 0 rfl) ?_
    refine gF7_59 C P zm0 rfl dX7_trace_22 ?_
    refine lv_iload_n hx hb dX7_trace_25 rfl (lv_at hl 1 rfl) ?_
    refine z_iald C P zm17 dX7_trace_26 h (fun h hi => ?_)
    refine lv_goto (tgt := 32) hx hb dX7_trace_27 (by decide) ?_
    exact z_iret C P (Option.some.inj h) dX7_trace_32
theorem w7_count_71 (C : zCx p s m args meth c cX7_count 4 RX7 (some .long) D ad cA A) {z : Int64 × Zs} {k50 : Int32 → Int32 → Zs → Option (Int64 × Zs)} (hk50 : ∀ (x2 : Int32) (x3 : Int32) (S : Zs) (H : Heap) (locs : List Loc) (ls : Array Slot), k50 x2 x3 S = some z → zP D zM ad cA A S s H locs → lv_has ls 4 [(0, .ref (ad 0)), (2, .int x2), (3, .int x3)] → W p l e (zrm 9 222) s m args below meth c H locs 0 0 (MQ below (zQl D zM ad cA A z) args s 0 0 A) (F0 m 50 ls [])) (x3 : Int32) (t0 : Int32) (t1 : Int32) (S : Zs) (H : Heap) (locs : List Loc) (ls : Array Slot) (h : f7_count_71 k50 x3 t0 t1 S = some z) (P : zP D zM ad cA A S s H locs) (hl : lv_has ls 4 [(0, .ref (ad 0)), (3, .int x3)]) :
    W p l e (zrm 9 222) s m args below meth c H locs 0 0 (MQ below (zQl D zM ad cA A z) args s 0 0 A) (F0 m 71 ls [.int t0, .int t1]) := by
  have hx := C.1
  have hb := C.2.1
  unfold f7_count_71 at h
  refine lv_iadd hx hb dX7_count_71 ?_
  refine z_topi h (fun v72 h => ?_)
  refine lv_istore_n (lv' := [(2, .int v72), (0, .ref (ad 0)), (3, .int x3)]) hx hb dX7_count_72 rfl hl (by decide) rfl (fun ls hl => ?_)
  obtain ⟨v73, ev73, h⟩ := z_nm h
  refine lv_iinc (v := v73) (lv' := [(3, .int v73), (2, .int v72), (0, .ref (ad 0))]) hx hb dX7_count_73 hl (k := 2) rfl (by rw [ev73]; rfl) (by decide) rfl (fun ls hl => ?_)
  refine lv_goto (tgt := 50) hx hb dX7_count_76 (by decide) ?_
  exact hk50 _ _ _ _ _ _ h P (lv_sub hl [2, 1, 0] rfl)
theorem w7_count_50 (C : zCx p s m args meth c cX7_count 4 RX7 (some .long) D ad cA A) {z : Int64 × Zs} :
    ∀ (n : Nat) (x2 : Int32) (x3 : Int32) (S : Zs) (H : Heap) (locs : List Loc) (ls : Array Slot), f7_count_50 n x2 x3 S = some z → zP D zM ad cA A S s H locs → lv_has ls 4 [(0, .ref (ad 0)), (2, .int x2), (3, .int x3)] → W p l e (zrm 9 222) s m args below meth c H locs 0 0 (MQ below (zQl D zM ad cA A z) args s 0 0 A) (F0 m 50 ls []) := by
  have hx := C.1
  have hb := C.2.1
  intro n
  induction n with
  | zero =>
    intro x2 x3 S H locs ls h
    cases h
  | succ n ih =>
    intro x2 x3 S H locs ls h P hl
    unfold f7_count_50 at h
    refine lv_iload_n hx hb dX7_count_50 rfl (lv_at hl 2 rfl) ?_
    refine lv_bipush (v := 8) hx hb dX7_count_51 (by decide) ?_
    refine z_icmp_ge (tgt := 79) hx hb dX7_count_53 (by decide) h (fun h => ?_) (fun h => ?_)
    · refine lv_iload_n hx hb dX7_count_79 rfl (lv_at hl 1 rfl) ?_
      refine lv_i2l hx hb dX7_count_80 rfl ?_
      exact z_lret C P (Option.some.inj h) dX7_count_81
    · refine lv_iload_n hx hb dX7_count_56 rfl (lv_at hl 1 rfl) ?_
      refine lv_aload_n hx hb dX7_count_57 rfl (lv_at hl 0 rfl) ?_
      refine gF7_9 C P zm0 rfl dX7_count_58 ?_
      refine lv_iload_n hx hb dX7_count_61 rfl (lv_at hl 2 rfl) ?_
      refine z_iald C P zm1 dX7_count_62 h (fun h hi => ?_)
      refine z_if_lt (tgt := 70) hx hb dX7_count_63 (by decide) h (fun h => ?_) (fun h => ?_)
      · refine lv_iconst (v := 0) hx hb dX7_count_70 (by decide) ?_
        exact w7_count_71 C ih _ _ _ _ _ _ _ h P (lv_sub hl [0, 2] rfl)
      · refine lv_iconst (v := 1) hx hb dX7_count_66 (by decide) ?_
        refine lv_goto (tgt := 71) hx hb dX7_count_67 (by decide) ?_
        exact w7_count_71 C ih _ _ _ _ _ _ _ h P (lv_sub hl [0, 2] rfl)
theorem w7_count_96 (C : zCx p s m args meth c cX7_count 4 RX7 (some .long) D ad cA A) {z : Int64 × Zs} :
    ∀ (n : Nat) (x2 : Int32) (x3 : Int32) (S : Zs) (H : Heap) (locs : List Loc) (ls : Array Slot), f7_count_96 n x2 x3 S = some z → zP D zM ad cA A S s H locs → lv_has ls 4 [(0, .ref (ad 0)), (2, .int x2), (3, .int x3)] → W p l e (zrm 9 222) s m args below meth c H locs 0 0 (MQ below (zQl D zM ad cA A z) args s 0 0 A) (F0 m 96 ls []) := by
  have hx := C.1
  have hb := C.2.1
  intro n
  induction n with
  | zero =>
    intro x2 x3 S H locs ls h
    cases h
  | succ n ih =>
    intro x2 x3 S H locs ls h P hl
    unfold f7_count_96 at h
    refine lv_iload_n hx hb dX7_count_96 rfl (lv_at hl 2 rfl) ?_
    refine lv_aload_n hx hb dX7_count_97 rfl (lv_at hl 0 rfl) ?_
    refine gF7_176 C P zm0 rfl dX7_count_98 ?_
    refine z_icmp_ge (tgt := 119) hx hb dX7_count_101 (by decide) h (fun h => ?_) (fun h => ?_)
    · refine lv_iload_n hx hb dX7_count_119 rfl (lv_at hl 1 rfl) ?_
      refine lv_i2l hx hb dX7_count_120 rfl ?_
      exact z_lret C P (Option.some.inj h) dX7_count_121
    · refine lv_iload_n hx hb dX7_count_104 rfl (lv_at hl 1 rfl) ?_
      refine lv_aload_n hx hb dX7_count_105 rfl (lv_at hl 0 rfl) ?_
      refine gF7_22 C P zm0 rfl dX7_count_106 ?_
      refine lv_iload_n hx hb dX7_count_109 rfl (lv_at hl 2 rfl) ?_
      refine z_iald C P zm5 dX7_count_110 h (fun h hi => ?_)
      refine lv_iadd hx hb dX7_count_111 ?_
      refine z_topi h (fun v112 h => ?_)
      refine lv_istore_n (lv' := [(2, .int v112), (0, .ref (ad 0)), (3, .int x3)]) hx hb dX7_count_112 rfl hl (by decide) rfl (fun ls hl => ?_)
      obtain ⟨v113, ev113, h⟩ := z_nm h
      refine lv_iinc (v := v113) (lv' := [(3, .int v113), (2, .int v112), (0, .ref (ad 0))]) hx hb dX7_count_113 hl (k := 2) rfl (by rw [ev113]; rfl) (by decide) rfl (fun ls hl => ?_)
      refine lv_goto (tgt := 96) hx hb dX7_count_116 (by decide) ?_
      exact ih _ _ _ _ _ _ h P (lv_sub hl [2, 1, 0] rfl)
theorem w7_count_165 (C : zCx p s m args meth c cX7_count 4 RX7 (some .long) D ad cA A) {z : Int64 × Zs} {k135 : Int32 → Int32 → Zs → Option (Int64 × Zs)} (hk135 : ∀ (x2 : Int32) (x3 : Int32) (S : Zs) (H : Heap) (locs : List Loc) (ls : Array Slot), k135 x2 x3 S = some z → zP D zM ad cA A S s H locs → lv_has ls 4 [(0, .ref (ad 0)), (2, .int x2), (3, .int x3)] → W p l e (zrm 9 222) s m args below meth c H locs 0 0 (MQ below (zQl D zM ad cA A z) args s 0 0 A) (F0 m 135 ls [])) (x3 : Int32) (t0 : Int32) (t1 : Int32) (S : Zs) (H : Heap) (locs : List Loc) (ls : Array Slot) (h : f7_count_165 k135 x3 t0 t1 S = some z) (P : zP D zM ad cA A S s H locs) (hl : lv_has ls 4 [(0, .ref (ad 0)), (3, .int x3)]) :
    W p l e (zrm 9 222) s m args below meth c H locs 0 0 (MQ below (zQl D zM ad cA A z) args s 0 0 A) (F0 m 165 ls [.int t0, .int t1]) := by
  have hx := C.1
  have hb := C.2.1
  unfold f7_count_165 at h
  refine lv_iadd hx hb dX7_count_165 ?_
  refine z_topi h (fun v166 h => ?_)
  refine lv_istore_n (lv' := [(2, .int v166), (0, .ref (ad 0)), (3, .int x3)]) hx hb dX7_count_166 rfl hl (by decide) rfl (fun ls hl => ?_)
  obtain ⟨v167, ev167, h⟩ := z_nm h
  refine lv_iinc (v := v167) (lv' := [(3, .int v167), (2, .int v166), (0, .ref (ad 0))]) hx hb dX7_count_167 hl (k := 2) rfl (by rw [ev167]; rfl) (by decide) rfl (fun ls hl => ?_)
  refine lv_goto (tgt := 135) hx hb dX7_count_170 (by decide) ?_
  exact hk135 _ _ _ _ _ _ h P (lv_sub hl [2, 1, 0] rfl)
theorem w7_count_135 (C : zCx p s m args meth c cX7_count 4 RX7 (some .long) D ad cA A) {z : Int64 × Zs} :
    ∀ (n : Nat) (x2 : Int32) (x3 : Int32) (S : Zs) (H : Heap) (locs : List Loc) (ls : Array Slot), f7_count_135 n x2 x3 S = some z → zP D zM ad cA A S s H locs → lv_has ls 4 [(0, .ref (ad 0)), (2, .int x2), (3, .int x3)] → W p l e (zrm 9 222) s m args below meth c H locs 0 0 (MQ below (zQl D zM ad cA A z) args s 0 0 A) (F0 m 135 ls []) := by
  have hx := C.1
  have hb := C.2.1
  intro n
  induction n with
  | zero =>
    intro x2 x3 S H locs ls h
    cases h
  | succ n ih =>
    intro x2 x3 S H locs ls h P hl
    unfold f7_count_135 at h
    refine lv_iload_n hx hb dX7_count_135 rfl (lv_at hl 2 rfl) ?_
    refine lv_aload_n hx hb dX7_count_136 rfl (lv_at hl 0 rfl) ?_
    refine gF7_179 C P zm0 rfl dX7_count_137 ?_
    refine z_icmp_ge (tgt := 173) hx hb dX7_count_140 (by decide) h (fun h => ?_) (fun h => ?_)
    · refine lv_iload_n hx hb dX7_count_173 rfl (lv_at hl 1 rfl) ?_
      refine lv_i2l hx hb dX7_count_174 rfl ?_
      exact z_lret C P (Option.some.inj h) dX7_count_175
    · refine lv_iload_n hx hb dX7_count_143 rfl (lv_at hl 1 rfl) ?_
      refine lv_aload_n hx hb dX7_count_144 rfl (lv_at hl 0 rfl) ?_
      refine lv_aload_n hx hb dX7_count_145 rfl (lv_at hl 0 rfl) ?_
      refine z_callVi C P (As := []) (m7_every) cW7_244 rfl zm0 rfl (by decide) hl.1 rfl (Nat.le_of_ble_eq_true rfl) dX7_count_146 ⟨Nat.zero_le _, Nat.zero_le _⟩ (fun H locs P => ?_)
      refine lv_iload_n hx hb dX7_count_149 rfl (lv_at hl 2 rfl) ?_
      obtain ⟨r150, g150, h⟩ := bd1_some h
      refine z_callVi C P (As := [.int (f7_every S), .int x3]) (m7_makersOf g150) cW7_211 rfl zm0 rfl (by decide) hl.1 rfl (Nat.le_of_ble_eq_true rfl) dX7_count_150 ⟨Nat.zero_le _, Nat.zero_le _⟩ (fun H locs P => ?_)
      refine z_callSi C P (As := [.int r150]) (m7_bits) cW7_309 rfl (by decide) hl.1 rfl (Nat.le_of_ble_eq_true rfl) dX7_count_153 ⟨Nat.zero_le _, Nat.zero_le _⟩ (fun H locs P => ?_)
      refine lv_iconst (v := 1) hx hb dX7_count_156 (by decide) ?_
      refine z_icmp_le (tgt := 164) hx hb dX7_count_157 (by decide) h (fun h => ?_) (fun h => ?_)
      · refine lv_iconst (v := 0) hx hb dX7_count_164 (by decide) ?_
        exact w7_count_165 C ih _ _ _ _ _ _ _ h P (lv_sub hl [0, 2] rfl)
      · refine lv_iconst (v := 1) hx hb dX7_count_160 (by decide) ?_
        refine lv_goto (tgt := 165) hx hb dX7_count_161 (by decide) ?_
        exact w7_count_165 C ih _ _ _ _ _ _ _ h P (lv_sub hl [0, 2] rfl)
theorem w7_count_133 (C : zCx p s m args meth c cX7_count 4 RX7 (some .long) D ad cA A) {z : Int64 × Zs} (x2 : Int32) (S : Zs) (H : Heap) (locs : List Loc) (ls : Array Slot) (h : f7_count_133 x2 S = some z) (P : zP D zM ad cA A S s H locs) (hl : lv_has ls 4 [(0, .ref (ad 0)), (2, .int x2)]) :
    W p l e (zrm 9 222) s m args below meth c H locs 0 0 (MQ below (zQl D zM ad cA A z) args s 0 0 A) (F0 m 133 ls []) := by
  have hx := C.1
  have hb := C.2.1
  unfold f7_count_133 at h
  refine lv_iconst (v := 0) hx hb dX7_count_133 (by decide) ?_
  refine lv_istore_n (lv' := [(3, .int (0 : Int32)), (0, .ref (ad 0)), (2, .int x2)]) hx hb dX7_count_134 rfl hl (by decide) rfl (fun ls hl => ?_)
  exact w7_count_135 C _ _ _ _ _ _ _ h P (lv_sub hl [1, 2, 0] rfl)
theorem m7_count {l : Launch} {D : va_G} {cA : Nat → ClassId} {ad : Nat → Nat} {x1 : Int32} {S : Zs} {z : Int64 × Zs} (h : f7_count x1 S = some z) :
    zMl l yX7_count cX7_count 4 9 222 D zM ad cA S [.ref (ad 0), .int x1] z := by
  refine z_enter (Qc := fun A => zQl D zM ad cA A z) (by decide +kernel) (Nat.le_of_ble_eq_true rfl) (fun p e s m below meth c A C P ls hl => ?_)
  have hx := C.1
  have hb := C.2.1
  have hl : lv_has ls 4 [(0, .ref (ad 0)), (1, .int x1)] := hl
  unfold f7_count at h
  refine lv_aload_n hx hb dX7_count_0 rfl (lv_at hl 0 rfl) ?_
  refine lv_iconst (v := 0) hx hb dX7_count_1 (by decide) ?_
  refine pF7_62 C P zm0 rfl dX7_count_2 h (fun S2 H locs h P => ?_)
  refine lv_iconst (v := 0) hx hb dX7_count_5 (by decide) ?_
  refine lv_istore_n (lv' := [(2, .int (0 : Int32)), (0, .ref (ad 0)), (1, .int x1)]) hx hb dX7_count_6 rfl hl (by decide) rfl (fun ls hl => ?_)
  refine lv_iload_n hx hb dX7_count_7 rfl (lv_at hl 2 rfl) ?_
  by_cases c0 : x1 = 0
  · rw [if_pos c0] at h
    refine lv_tableIn (off := 40) (tgt := 48) hx hb dX7_count_8 (by rw [c0]; decide) (by rw [c0]; decide) (by rw [c0]; decide) (by decide) ?_
    refine lv_iconst (v := 0) hx hb dX7_count_48 (by decide) ?_
    refine lv_istore_n (lv' := [(3, .int (0 : Int32)), (2, .int (0 : Int32)), (0, .ref (ad 0)), (1, .int x1)]) hx hb dX7_count_49 rfl hl (by decide) rfl (fun ls hl => ?_)
    exact w7_count_50 C _ _ _ _ _ _ _ h P (lv_sub hl [2, 1, 0] rfl)
  rw [if_neg c0] at h
  by_cases c1 : x1 = 1
  · rw [if_pos c1] at h
    refine lv_tableIn (off := 74) (tgt := 82) hx hb dX7_count_8 (by rw [c1]; decide) (by rw [c1]; decide) (by rw [c1]; decide) (by decide) ?_
    refine lv_aload_n hx hb dX7_count_82 rfl (lv_at hl 1 rfl) ?_
    refine gF7_176 C P zm0 rfl dX7_count_83 ?_
    refine lv_i2l hx hb dX7_count_86 rfl ?_
    exact z_lret C P (Option.some.inj h) dX7_count_87
  rw [if_neg c1] at h
  by_cases c2 : x1 = 2
  · rw [if_pos c2] at h
    refine lv_tableIn (off := 80) (tgt := 88) hx hb dX7_count_8 (by rw [c2]; decide) (by rw [c2]; decide) (by rw [c2]; decide) (by decide) ?_
    refine lv_aload_n hx hb dX7_count_88 rfl (lv_at hl 1 rfl) ?_
    refine gF7_179 C P zm0 rfl dX7_count_89 ?_
    refine lv_i2l hx hb dX7_count_92 rfl ?_
    exact z_lret C P (Option.some.inj h) dX7_count_93
  rw [if_neg c2] at h
  by_cases c3 : x1 = 3
  · rw [if_pos c3] at h
    refine lv_tableIn (off := 86) (tgt := 94) hx hb dX7_count_8 (by rw [c3]; decide) (by rw [c3]; decide) (by rw [c3]; decide) (by decide) ?_
    refine lv_iconst (v := 0) hx hb dX7_count_94 (by decide) ?_
    refine lv_istore_n (lv' := [(3, .int (0 : Int32)), (2, .int (0 : Int32)), (0, .ref (ad 0)), (1, .int x1)]) hx hb dX7_count_95 rfl hl (by decide) rfl (fun ls hl => ?_)
    exact w7_count_96 C _ _ _ _ _ _ _ h P (lv_sub hl [2, 1, 0] rfl)
  rw [if_neg c3] at h
  by_cases c4 : x1 = 4
  · rw [if_pos c4] at h
    refine lv_tableIn (off := 114) (tgt := 122) hx hb dX7_count_8 (by rw [c4]; decide) (by rw [c4]; decide) (by rw [c4]; decide) (by decide) ?_
    refine lv_aload_n hx hb dX7_count_122 rfl (lv_at hl 1 rfl) ?_
    refine gF7_176 C P zm0 rfl dX7_count_123 ?_
    refine z_if_le (tgt := 133) hx hb dX7_count_126 (by decide) h (fun h => ?_) (fun h => ?_)
    · exact w7_count_133 C _ _ _ _ _ h P (lv_sub hl [1, 0] rfl)
    · refine lv_aload_n hx hb dX7_count_129 rfl (lv_at hl 1 rfl) ?_
      obtain ⟨S130, g130, h⟩ := bd1_some h
      refine z_callVv C P (As := []) (m7_restAll g130) cW7_254 rfl zm0 rfl (by decide) hl.1 rfl (Nat.le_of_ble_eq_true rfl) dX7_count_130 ⟨Nat.zero_le _, Nat.zero_le _⟩ (fun H locs P => ?_)
      exact w7_count_133 C _ _ _ _ _ h P (lv_sub hl [1, 0] rfl)
  rw [if_neg c4] at h
  by_cases c5 : x1 = 5
  · rw [if_pos c5] at h
    refine lv_tableIn (off := 168) (tgt := 176) hx hb dX7_count_8 (by rw [c5]; decide) (by rw [c5]; decide) (by rw [c5]; decide) (by decide) ?_
    refine lv_aload_n hx hb dX7_count_176 rfl (lv_at hl 1 rfl) ?_
    refine gF7_91 C P zm0 rfl dX7_count_177 ?_
    refine lv_i2l hx hb dX7_count_180 rfl ?_
    exact z_lret C P (Option.some.inj h) dX7_count_181
  rw [if_neg c5] at h
  have q0 : ¬ x1.toInt = 0 := zne c0 (by decide)
  have q1 : ¬ x1.toInt = 1 := zne c1 (by decide)
  have q2 : ¬ x1.toInt = 2 := zne c2 (by decide)
  have q3 : ¬ x1.toInt = 3 := zne c3 (by decide)
  have q4 : ¬ x1.toInt = 4 := zne c4 (by decide)
  have q5 : ¬ x1.toInt = 5 := zne c5 (by decide)
  refine lv_tableOut (tgt := 182) hx hb dX7_count_8 (show x1.toInt < 0 ∨ 5 < x1.toInt by omega) (by decide) ?_
  refine lv_ldc2 (v := (-9000000000000000001)) hx hb C.2.2.2.1 (C.2.2.2.2.1 _ kK7_83) dX7_count_182 ?_
  exact z_lret C P (Option.some.inj h) dX7_count_185
theorem m7_status {l : Launch} {D : va_G} {cA : Nat → ClassId} {ad : Nat → Nat} {S : Zs} {z : Int32 × Zs} (h : f7_status S = some z) :
    zMi l yX7_status cX7_status 1 0 0 D zM ad cA S [.ref (ad 0)] z := by
  refine z_enter (Qc := fun A => zQi D zM ad cA A z) (by decide +kernel) (Nat.le_of_ble_eq_true rfl) (fun p e s m below meth c A C P ls hl => ?_)
  have hx := C.1
  have hb := C.2.1
  have hl : lv_has ls 1 [(0, .ref (ad 0))] := hl
  unfold f7_status at h
  refine lv_aload_n hx hb dX7_status_0 rfl (lv_at hl 0 rfl) ?_
  refine lv_iconst (v := 0) hx hb dX7_status_1 (by decide) ?_
  refine pF7_62 C P zm0 rfl dX7_status_2 h (fun S2 H locs h P => ?_)
  refine lv_aload_n hx hb dX7_status_5 rfl (lv_at hl 0 rfl) ?_
  refine gF7_66 C P zm0 rfl dX7_status_6 ?_
  exact z_iret C P (Option.some.inj h) dX7_status_9
end ZVM8
