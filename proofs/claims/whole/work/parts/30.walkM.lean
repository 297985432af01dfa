section ZVM0
variable {p : Program} {l : Launch} {e : Env} {s : State} {m : MethodId} {args : Array Value} {below : List Frame} {meth : Method} {c : Code} {D : va_G} {cA : Nat → ClassId} {A : Nat → Prop} {ad : Nat → Nat}
theorem m7_in {l : Launch} {D : va_G} {cA : Nat → ClassId} {ad : Nat → Nat} {x0 : Int64} {x2 : Int64} {x4 : Int64} {S : Zs} :
    zMb l yX7_in cX7_in 6 0 0 D zM ad cA S [.long x0, .long x2, .long x4] (f7_in x0 x2 x4, S) := by
  obtain ⟨z, h⟩ : ∃ z, f7_in x0 x2 x4 = z := ⟨_, rfl⟩
  rw [h]
  refine z_enter (Qc := fun A => zQb D zM ad cA A (z, S)) (by decide +kernel) (Nat.le_of_ble_eq_true rfl) (fun p e s m below meth c A C P ls hl => ?_)
  have hx := C.1
  have hb := C.2.1
  have hl : lv_has ls 6 [(0, .long x0), (2, .long x2), (4, .long x4)] := hl
  unfold f7_in at h
  refine lv_lload_n hx hb dX7_in_0 rfl (lv_at hl 0 rfl) ?_
  refine lv_lload_n hx hb dX7_in_1 rfl (lv_at hl 1 rfl) ?_
  refine z_lcmp_lt (tgt := 17) hx hb dX7_in_2 dX7_in_3 (by decide) h (fun h => ?_) (fun h => ?_)
  · refine lv_iconst (v := 0) hx hb dX7_in_17 (by decide) ?_
    exact z_zret C P (by rw [h]) (by decide) dX7_in_18
  · refine lv_lload_n hx hb dX7_in_6 rfl (lv_at hl 0 rfl) ?_
    refine lv_lload hx hb dX7_in_7 (lv_at hl 2 rfl) ?_
    refine z_lcmp_gt (tgt := 17) hx hb dX7_in_9 dX7_in_10 (by decide) h (fun h => ?_) (fun h => ?_)
    · refine lv_iconst (v := 0) hx hb dX7_in_17 (by decide) ?_
      exact z_zret C P (by rw [h]) (by decide) dX7_in_18
    · refine lv_iconst (v := 1) hx hb dX7_in_13 (by decide) ?_
      refine lv_goto (tgt := 18) hx hb dX7_in_14 (by decide) ?_
      exact z_zret C P (by rw [h]) (by decide) dX7_in_18
theorem m7_finding {l : Launch} {D : va_G} {cA : Nat → ClassId} {ad : Nat → Nat} {x1 : Int32} {S : Zs} {z : Int64 × Zs} (h : f7_finding x1 S = some z) :
    zMl l yX7_finding cX7_finding 2 0 0 D zM ad cA S [.ref (ad 0), .int x1] z := by
  refine z_enter (Qc := fun A => zQl D zM ad cA A z) (by decide +kernel) (Nat.le_of_ble_eq_true rfl) (fun p e s m below meth c A C P ls hl => ?_)
  have hx := C.1
  have hb := C.2.1
  have hl : lv_has ls 2 [(0, .ref (ad 0)), (1, .int x1)] := hl
  unfold f7_finding at h
  refine lv_aload_n hx hb dX7_finding_0 rfl (lv_at hl 0 rfl) ?_
  refine lv_iload_n hx hb dX7_finding_1 rfl (lv_at hl 1 rfl) ?_
  refine pF7_66 C P zm0 rfl dX7_finding_2 h (fun S2 H locs h P => ?_)
  refine lv_ldc2 (v := (-9000000000000000010)) hx hb C.2.2.2.1 (C.2.2.2.2.1 _ kK7_69) dX7_finding_5 ?_
  refine lv_iload_n hx hb dX7_finding_8 rfl (lv_at hl 1 rfl) ?_
  refine lv_i2l hx hb dX7_finding_9 rfl ?_
  refine lv_lsub hx hb dX7_finding_10 ?_
  exact z_lret C P (Option.some.inj h) dX7_finding_11
theorem m7_isRow {l : Launch} {D : va_G} {cA : Nat → ClassId} {ad : Nat → Nat} {x0 : Int32} {S : Zs} :
    zMb l yX7_isRow cX7_isRow 1 1 25 D zM ad cA S [.int x0] (f7_isRow x0, S) := by
  obtain ⟨z, h⟩ : ∃ z, f7_isRow x0 = z := ⟨_, rfl⟩
  rw [h]
  refine z_enter (Qc := fun A => zQb D zM ad cA A (z, S)) (by decide +kernel) (Nat.le_of_ble_eq_true rfl) (fun p e s m below meth c A C P ls hl => ?_)
  have hx := C.1
  have hb := C.2.1
  have hl : lv_has ls 1 [(0, .int x0)] := hl
  unfold f7_isRow at h
  refine lv_iload_n hx hb dX7_isRow_0 rfl (lv_at hl 0 rfl) ?_
  refine lv_i2l hx hb dX7_isRow_1 rfl ?_
  refine lv_lconst (v := 0) hx hb dX7_isRow_2 (by decide) ?_
  refine lv_ldc2 (v := 7) hx hb C.2.2.2.1 (C.2.2.2.2.1 _ kK7_71) dX7_isRow_3 ?_
  refine z_callSb C P (As := [.long x0.toInt64, .long (0 : Int64), .long (7 : Int64)]) (m7_in) cW7_73 rfl (by decide) hl.1 rfl (Nat.le_of_ble_eq_true rfl) dX7_isRow_6 ⟨Nat.zero_le _, Nat.zero_le _⟩ (fun H locs n6 P => ?_)
  exact z_zret C P (by rw [h]) n6 dX7_isRow_9
theorem w7_row_66 (C : zCx p s m args meth c cX7_row 5 RX7 (some .long) D ad cA A) {z : Int64 × Zs} :
    ∀ (n : Nat) (x1 : Int32) (x3 : Int32) (x4 : Int32) (S : Zs) (H : Heap) (locs : List Loc) (ls : Array Slot), f7_row_66 n x1 x3 x4 S = some z → zP D zM ad cA A S s H locs → lv_has ls 5 [(0, .ref (ad 0)), (1, .int x1), (3, .int x3), (4, .int x4)] → W p l e (zrm 2 45) s m args below meth c H locs 0 0 (MQ below (zQl D zM ad cA A z) args s 0 0 A) (F0 m 66 ls []) := by
  have hx := C.1
  have hb := C.2.1
  intro n
  induction n with
  | zero =>
    intro x1 x3 x4 S H locs ls h
    cases h
  | succ n ih =>
    intro x1 x3 x4 S H locs ls h P hl
    unfold f7_row_66 at h
    refine lv_iload hx hb dX7_row_66 (lv_at hl 3 rfl) ?_
    refine lv_bipush (v := 40) hx hb dX7_row_68 (by decide) ?_
    refine z_icmp_ge (tgt := 92) hx hb dX7_row_70 (by decide) h (fun h => ?_) (fun h => ?_)
    · refine lv_iload_n hx hb dX7_row_92 rfl (lv_at hl 2 rfl) ?_
      refine lv_i2l hx hb dX7_row_93 rfl ?_
      exact z_lret C P (Option.some.inj h) dX7_row_94
    · refine lv_aload_n hx hb dX7_row_73 rfl (lv_at hl 0 rfl) ?_
      refine gF7_16 C P zm0 rfl dX7_row_74 ?_
      refine lv_bipush (v := 40) hx hb dX7_row_77 (by decide) ?_
      refine lv_iload_n hx hb dX7_row_79 rfl (lv_at hl 1 rfl) ?_
      refine lv_imul hx hb dX7_row_80 ?_
      refine lv_iload hx hb dX7_row_81 (lv_at hl 3 rfl) ?_
      refine lv_iadd hx hb dX7_row_83 ?_
      refine lv_iconst (v := 0) hx hb dX7_row_84 (by decide) ?_
      refine z_iast C P zm3 dX7_row_85 h (fun S85 H locs h P => ?_)
      obtain ⟨v86, ev86, h⟩ := z_nm h
      refine lv_iinc (v := v86) (lv' := [(4, .int v86), (0, .ref (ad 0)), (1, .int x1), (3, .int x3)]) hx hb dX7_row_86 hl (k := 3) rfl (by rw [ev86]; rfl) (by decide) rfl (fun ls hl => ?_)
      refine lv_goto (tgt := 66) hx hb dX7_row_89 (by decide) ?_
      exact ih _ _ _ _ _ _ _ h P (lv_sub hl [1, 2, 3, 0] rfl)
theorem m7_row {l : Launch} {D : va_G} {cA : Nat → ClassId} {ad : Nat → Nat} {x1 : Int32} {x2 : Int32} {x3 : Int32} {S : Zs} {z : Int64 × Zs} (h : f7_row x1 x2 x3 S = some z) :
    zMl l yX7_row cX7_row 5 2 45 D zM ad cA S [.ref (ad 0), .int x1, .int x2, .int x3] z := by
  refine z_enter (Qc := fun A => zQl D zM ad cA A z) (by decide +kernel) (Nat.le_of_ble_eq_true rfl) (fun p e s m below meth c A C P ls hl => ?_)
  have hx := C.1
  have hb := C.2.1
  have hl : lv_has ls 5 [(0, .ref (ad 0)), (1, .int x1), (2, .int x2), (3, .int x3)] := hl
  unfold f7_row at h
  refine lv_aload_n hx hb dX7_row_0 rfl (lv_at hl 0 rfl) ?_
  refine lv_iconst (v := 0) hx hb dX7_row_1 (by decide) ?_
  refine pF7_62 C P zm0 rfl dX7_row_2 h (fun S2 H locs h P => ?_)
  refine lv_iload_n hx hb dX7_row_5 rfl (lv_at hl 1 rfl) ?_
  refine z_callSb C P (As := [.int x1]) (m7_isRow) cW7_77 rfl (by decide) hl.1 rfl (Nat.le_of_ble_eq_true rfl) dX7_row_6 ⟨Nat.zero_le _, Nat.zero_le _⟩ (fun H locs n6 P => ?_)
  refine z_if_eq (tgt := 30) hx hb dX7_row_9 (by decide) h (fun h => ?_) (fun h => ?_)
  · refine lv_ldc2 (v := (-9000000000000000001)) hx hb C.2.2.2.1 (C.2.2.2.2.1 _ kK7_83) dX7_row_30 ?_
    exact z_lret C P (Option.some.inj h) dX7_row_33
  · refine lv_iload_n hx hb dX7_row_12 rfl (lv_at hl 2 rfl) ?_
    refine lv_i2l hx hb dX7_row_13 rfl ?_
    refine lv_lconst (v := 0) hx hb dX7_row_14 (by decide) ?_
    refine lv_ldc2 (v := 2) hx hb C.2.2.2.1 (C.2.2.2.2.1 _ kK7_81) dX7_row_15 ?_
    refine z_callSb C P (As := [.long x2.toInt64, .long (0 : Int64), .long (2 : Int64)]) (m7_in) cW7_73 rfl (by decide) hl.1 rfl (Nat.le_of_ble_eq_true rfl) dX7_row_18 ⟨Nat.zero_le _, Nat.zero_le _⟩ (fun H locs n18 P => ?_)
    refine z_if_eq (tgt := 30) hx hb dX7_row_21 (by decide) h (fun h => ?_) (fun h => ?_)
    · refine lv_ldc2 (v := (-9000000000000000001)) hx hb C.2.2.2.1 (C.2.2.2.2.1 _ kK7_83) dX7_row_30 ?_
      exact z_lret C P (Option.some.inj h) dX7_row_33
    · refine lv_iload_n hx hb dX7_row_24 rfl (lv_at hl 3 rfl) ?_
      refine lv_bipush (v := 40) hx hb dX7_row_25 (by decide) ?_
      refine z_icmp_le (tgt := 34) hx hb dX7_row_27 (by decide) h (fun h => ?_) (fun h => ?_)
      · refine lv_aload_n hx hb dX7_row_34 rfl (lv_at hl 0 rfl) ?_
        refine lv_iconst (v := 0) hx hb dX7_row_35 (by decide) ?_
        refine pF7_66 C P zm0 rfl dX7_row_36 h (fun S36 H locs h P => ?_)
        refine lv_iload_n hx hb dX7_row_39 rfl (lv_at hl 3 rfl) ?_
        refine z_if_ge (tgt := 49) hx hb dX7_row_40 (by decide) h (fun h => ?_) (fun h => ?_)
        · refine lv_aload_n hx hb dX7_row_49 rfl (lv_at hl 0 rfl) ?_
          refine gF7_9 C P zm0 rfl dX7_row_50 ?_
          refine lv_iload_n hx hb dX7_row_53 rfl (lv_at hl 1 rfl) ?_
          refine lv_iload_n hx hb dX7_row_54 rfl (lv_at hl 2 rfl) ?_
          refine z_iast C P zm1 dX7_row_55 h (fun S55 H locs h P => ?_)
          refine lv_aload_n hx hb dX7_row_56 rfl (lv_at hl 0 rfl) ?_
          refine gF7_13 C P zm0 rfl dX7_row_57 ?_
          refine lv_iload_n hx hb dX7_row_60 rfl (lv_at hl 1 rfl) ?_
          refine lv_iload_n hx hb dX7_row_61 rfl (lv_at hl 3 rfl) ?_
          refine z_iast C P zm2 dX7_row_62 h (fun S62 H locs h P => ?_)
          refine lv_iconst (v := 0) hx hb dX7_row_63 (by decide) ?_
          refine lv_istore (lv' := [(4, .int (0 : Int32)), (0, .ref (ad 0)), (1, .int x1), (2, .int x2), (3, .int x3)]) hx hb dX7_row_64 hl (by decide) rfl (fun ls hl => ?_)
          exact w7_row_66 C _ _ _ _ _ _ _ _ h P (lv_sub hl [1, 2, 4, 0] rfl)
        · refine lv_aload_n hx hb dX7_row_43 rfl (lv_at hl 0 rfl) ?_
          refine lv_iconst (v := 4) hx hb dX7_row_44 (by decide) ?_
          obtain ⟨r45, S45, g45, h⟩ := bd2_some h
          refine z_callVl C P (As := [.int (4 : Int32)]) (m7_finding g45) cW7_85 rfl zm0 rfl (by decide) hl.1 rfl (Nat.le_of_ble_eq_true rfl) dX7_row_45 ⟨Nat.zero_le _, Nat.zero_le _⟩ (fun H locs P => ?_)
          exact z_lret C P (Option.some.inj h) dX7_row_48
      · refine lv_ldc2 (v := (-9000000000000000001)) hx hb C.2.2.2.1 (C.2.2.2.2.1 _ kK7_83) dX7_row_30 ?_
        exact z_lret C P (Option.some.inj h) dX7_row_33
theorem w7_set_100 (C : zCx p s m args meth c cX7_set 4 RX7 (some .long) D ad cA A) {z : Int64 × Zs} (x1 : Int32) (x2 : Int32) (t0 : Int32) (t1 : Int32) (S : Zs) (H : Heap) (locs : List Loc) (ls : Array Slot) (h : f7_set_100 x1 x2 t0 t1 S = some z) (P : zP D zM ad cA A S s H locs) (hl : lv_has ls 4 [(0, .ref (ad 0)), (1, .int x1), (2, .int x2)]) :
    W p l e (zrm 2 45) s m args below meth c H locs 0 0 (MQ below (zQl D zM ad cA A z) args s 0 0 A) (F0 m 100 ls [.int t0, .int t1, .ref (ad 3)]) := by
  have hx := C.1
  have hb := C.2.1
  unfold f7_set_100 at h
  refine z_iast C P zm3 dX7_set_100 h (fun S100 H locs h P => ?_)
  refine lv_aload_n hx hb dX7_set_101 rfl (lv_at hl 0 rfl) ?_
  refine gF7_16 C P zm0 rfl dX7_set_102 ?_
  refine lv_bipush (v := 40) hx hb dX7_set_105 (by decide) ?_
  refine lv_iload_n hx hb dX7_set_107 rfl (lv_at hl 1 rfl) ?_
  refine lv_imul hx hb dX7_set_108 ?_
  refine lv_iload_n hx hb dX7_set_109 rfl (lv_at hl 2 rfl) ?_
  refine lv_iadd hx hb dX7_set_110 ?_
  refine z_iald C P zm3 dX7_set_111 h (fun h hi => ?_)
  refine lv_i2l hx hb dX7_set_112 rfl ?_
  exact z_lret C P (Option.some.inj h) dX7_set_113
theorem m7_set {l : Launch} {D : va_G} {cA : Nat → ClassId} {ad : Nat → Nat} {x1 : Int32} {x2 : Int32} {x3 : Int32} {S : Zs} {z : Int64 × Zs} (h : f7_set x1 x2 x3 S = some z) :
    zMl l yX7_set cX7_set 4 2 45 D zM ad cA S [.ref (ad 0), .int x1, .int x2, .int x3] z := by
  refine z_enter (Qc := fun A => zQl D zM ad cA A z) (by decide +kernel) (Nat.le_of_ble_eq_true rfl) (fun p e s m below meth c A C P ls hl => ?_)
  have hx := C.1
  have hb := C.2.1
  have hl : lv_has ls 4 [(0, .ref (ad 0)), (1, .int x1), (2, .int x2), (3, .int x3)] := hl
  unfold f7_set at h
  refine lv_aload_n hx hb dX7_set_0 rfl (lv_at hl 0 rfl) ?_
  refine lv_iconst (v := 0) hx hb dX7_set_1 (by decide) ?_
  refine pF7_62 C P zm0 rfl dX7_set_2 h (fun S2 H locs h P => ?_)
  refine lv_iload_n hx hb dX7_set_5 rfl (lv_at hl 1 rfl) ?_
  refine z_callSb C P (As := [.int x1]) (m7_isRow) cW7_77 rfl (by decide) hl.1 rfl (Nat.le_of_ble_eq_true rfl) dX7_set_6 ⟨Nat.zero_le _, Nat.zero_le _⟩ (fun H locs n6 P => ?_)
  refine z_if_ne (tgt := 16) hx hb dX7_set_9 (by decide) h (fun h => ?_) (fun h => ?_)
  · refine lv_aload_n hx hb dX7_set_16 rfl (lv_at hl 0 rfl) ?_
    refine lv_iconst (v := 0) hx hb dX7_set_17 (by decide) ?_
    refine pF7_66 C P zm0 rfl dX7_set_18 h (fun S18 H locs h P => ?_)
    refine lv_aload_n hx hb dX7_set_21 rfl (lv_at hl 0 rfl) ?_
    refine gF7_9 C P zm0 rfl dX7_set_22 ?_
    refine lv_iload_n hx hb dX7_set_25 rfl (lv_at hl 1 rfl) ?_
    refine z_iald C P zm1 dX7_set_26 h (fun h hi => ?_)
    refine z_if_ge (tgt := 36) hx hb dX7_set_27 (by decide) h (fun h => ?_) (fun h => ?_)
    · refine lv_iload_n hx hb dX7_set_36 rfl (lv_at hl 2 rfl) ?_
      refine lv_i2l hx hb dX7_set_37 rfl ?_
      refine lv_lconst (v := 0) hx hb dX7_set_38 (by decide) ?_
      refine lv_aload_n hx hb dX7_set_39 rfl (lv_at hl 0 rfl) ?_
      refine gF7_13 C P zm0 rfl dX7_set_40 ?_
      refine lv_iload_n hx hb dX7_set_43 rfl (lv_at hl 1 rfl) ?_
      refine z_iald C P zm2 dX7_set_44 h (fun h hi => ?_)
      refine lv_iconst (v := 1) hx hb dX7_set_45 (by decide) ?_
      refine lv_isub hx hb dX7_set_46 ?_
      refine lv_i2l hx hb dX7_set_47 rfl ?_
      refine z_callSb C P (As := [.long x2.toInt64, .long (0 : Int64), .long (((S18.1 2 x1.toNatClampNeg) - (1 : Int32)).toInt64)]) (m7_in) cW7_73 rfl (by decide) hl.1 rfl (Nat.le_of_ble_eq_true rfl) dX7_set_48 ⟨Nat.zero_le _, Nat.zero_le _⟩ (fun H locs n48 P => ?_)
      refine z_if_ne (tgt := 60) hx hb dX7_set_51 (by decide) h (fun h => ?_) (fun h => ?_)
      · refine lv_aload_n hx hb dX7_set_60 rfl (lv_at hl 0 rfl) ?_
        refine gF7_16 C P zm0 rfl dX7_set_61 ?_
        refine lv_bipush (v := 40) hx hb dX7_set_64 (by decide) ?_
        refine lv_iload_n hx hb dX7_set_66 rfl (lv_at hl 1 rfl) ?_
        refine lv_imul hx hb dX7_set_67 ?_
        refine lv_iload_n hx hb dX7_set_68 rfl (lv_at hl 2 rfl) ?_
        refine lv_iadd hx hb dX7_set_69 ?_
        refine lv_aload_n hx hb dX7_set_70 rfl (lv_at hl 0 rfl) ?_
        refine gF7_9 C P zm0 rfl dX7_set_71 ?_
        refine lv_iload_n hx hb dX7_set_74 rfl (lv_at hl 1 rfl) ?_
        refine z_iald C P zm1 dX7_set_75 h (fun h hi => ?_)
        refine z_if_ne (tgt := 84) hx hb dX7_set_76 (by decide) h (fun h => ?_) (fun h => ?_)
        · refine lv_aload_n hx hb dX7_set_84 rfl (lv_at hl 0 rfl) ?_
          refine gF7_9 C P zm0 rfl dX7_set_85 ?_
          refine lv_iload_n hx hb dX7_set_88 rfl (lv_at hl 1 rfl) ?_
          refine z_iald C P zm1 dX7_set_89 h (fun h hi => ?_)
          refine lv_iconst (v := 1) hx hb dX7_set_90 (by decide) ?_
          refine z_icmp_ne (tgt := 99) hx hb dX7_set_91 (by decide) h (fun h => ?_) (fun h => ?_)
          · refine lv_iload_n hx hb dX7_set_99 rfl (lv_at hl 3 rfl) ?_
            exact w7_set_100 C _ _ _ _ _ _ _ _ h P (lv_sub hl [0, 1, 2] rfl)
          · refine lv_iload_n hx hb dX7_set_94 rfl (lv_at hl 3 rfl) ?_
            refine lv_i2s hx hb dX7_set_95 rfl ?_
            refine lv_goto (tgt := 100) hx hb dX7_set_96 (by decide) ?_
            exact w7_set_100 C _ _ _ _ _ _ _ _ h P (lv_sub hl [0, 1, 2] rfl)
        · refine lv_iload_n hx hb dX7_set_79 rfl (lv_at hl 3 rfl) ?_
          refine lv_i2b hx hb dX7_set_80 rfl ?_
          refine lv_goto (tgt := 100) hx hb dX7_set_81 (by decide) ?_
          exact w7_set_100 C _ _ _ _ _ _ _ _ h P (lv_sub hl [0, 1, 2] rfl)
      · refine lv_aload_n hx hb dX7_set_54 rfl (lv_at hl 0 rfl) ?_
        refine lv_iconst (v := 2) hx hb dX7_set_55 (by decide) ?_
        obtain ⟨r56, S56, g56, h⟩ := bd2_some h
        refine z_callVl C P (As := [.int (2 : Int32)]) (m7_finding g56) cW7_85 rfl zm0 rfl (by decide) hl.1 rfl (Nat.le_of_ble_eq_true rfl) dX7_set_56 ⟨Nat.zero_le _, Nat.zero_le _⟩ (fun H locs P => ?_)
        exact z_lret C P (Option.some.inj h) dX7_set_59
    · refine lv_aload_n hx hb dX7_set_30 rfl (lv_at hl 0 rfl) ?_
      refine lv_iconst (v := 1) hx hb dX7_set_31 (by decide) ?_
      obtain ⟨r32, S32, g32, h⟩ := bd2_some h
      refine z_callVl C P (As := [.int (1 : Int32)]) (m7_finding g32) cW7_85 rfl zm0 rfl (by decide) hl.1 rfl (Nat.le_of_ble_eq_true rfl) dX7_set_32 ⟨Nat.zero_le _, Nat.zero_le _⟩ (fun H locs P => ?_)
      exact z_lret C P (Option.some.inj h) dX7_set_35
  · refine lv_ldc2 (v := (-9000000000000000001)) hx hb C.2.2.2.1 (C.2.2.2.2.1 _ kK7_83) dX7_set_12 ?_
    exact z_lret C P (Option.some.inj h) dX7_set_15
theorem w7_copy_46 (C : zCx p s m args meth c cX7_copy 9 RX7 (some .long) D ad cA A) {z : Int64 × Zs} (S : Zs) (H : Heap) (locs : List Loc) (ls : Array Slot) (h : f7_copy_46 S = some z) (P : zP D zM ad cA A S s H locs) (hl : lv_has ls 9 [(0, .ref (ad 0))]) :
    W p l e (zrm 2 45) s m args below meth c H locs 0 0 (MQ below (zQl D zM ad cA A z) args s 0 0 A) (F0 m 46 ls []) := by
  have hx := C.1
  have hb := C.2.1
  unfold f7_copy_46 at h
  refine lv_aload_n hx hb dX7_copy_46 rfl (lv_at hl 0 rfl) ?_
  refine lv_iconst (v := 1) hx hb dX7_copy_47 (by decide) ?_
  obtain ⟨r48, S48, g48, h⟩ := bd2_some h
  refine z_callVl C P (As := [.int (1 : Int32)]) (m7_finding g48) cW7_85 rfl zm0 rfl (by decide) hl.1 rfl (Nat.le_of_ble_eq_true rfl) dX7_copy_48 ⟨Nat.zero_le _, Nat.zero_le _⟩ (fun H locs P => ?_)
  exact z_lret C P (Option.some.inj h) dX7_copy_51
theorem w7_copy_122 (C : zCx p s m args meth c cX7_copy 9 RX7 (some .long) D ad cA A) {z : Int64 × Zs} (S : Zs) (H : Heap) (locs : List Loc) (ls : Array Slot) (h : f7_copy_122 S = some z) (P : zP D zM ad cA A S s H locs) (hl : lv_has ls 9 [(0, .ref (ad 0))]) :
    W p l e (zrm 2 45) s m args below meth c H locs 0 0 (MQ below (zQl D zM ad cA A z) args s 0 0 A) (F0 m 122 ls []) := by
  have hx := C.1
  have hb := C.2.1
  unfold f7_copy_122 at h
  refine lv_aload_n hx hb dX7_copy_122 rfl (lv_at hl 0 rfl) ?_
  refine lv_iconst (v := 2) hx hb dX7_copy_123 (by decide) ?_
  obtain ⟨r124, S124, g124, h⟩ := bd2_some h
  refine z_callVl C P (As := [.int (2 : Int32)]) (m7_finding g124) cW7_85 rfl zm0 rfl (by decide) hl.1 rfl (Nat.le_of_ble_eq_true rfl) dX7_copy_124 ⟨Nat.zero_le _, Nat.zero_le _⟩ (fun H locs P => ?_)
  exact z_lret C P (Option.some.inj h) dX7_copy_127
theorem w7_copy_168 (C : zCx p s m args meth c cX7_copy 9 RX7 (some .long) D ad cA A) {z : Int64 × Zs} {k144 : Int32 → Int32 → Int32 → Int32 → Int32 → Int32 → Int32 → Zs → Option (Int64 × Zs)} (hk144 : ∀ (x1 : Int32) (x2 : Int32) (x3 : Int32) (x4 : Int32) (x5 : Int32) (x6 : Int32) (x7 : Int32) (S : Zs) (H : Heap) (locs : List Loc) (ls : Array Slot), k144 x1 x2 x3 x4 x5 x6 x7 S = some z → zP D zM ad cA A S s H locs → lv_has ls 9 [(0, .ref (ad 0)), (1, .int x1), (2, .int x2), (3, .int x3), (4, .int x4), (5, .int x5), (6, .int x6), (7, .int x7)] → W p l e (zrm 2 45) s m args below meth c H locs 0 0 (MQ below (zQl D zM ad cA A z) args s 0 0 A) (F0 m 144 ls [])) (x1 : Int32) (x2 : Int32) (x3 : Int32) (x4 : Int32) (x5 : Int32) (x6 : Int32) (x7 : Int32) (t0 : Int32) (S : Zs) (H : Heap) (locs : List Loc) (ls : Array Slot) (h : f7_copy_168 k144 x1 x2 x3 x4 x5 x6 x7 t0 S = some z) (P : zP D zM ad cA A S s H locs) (hl : lv_has ls 9 [(0, .ref (ad 0)), (1, .int x1), (2, .int x2), (3, .int x3), (4, .int x4), (5, .int x5), (6, .int x6), (7, .int x7)]) :
    W p l e (zrm 2 45) s m args below meth c H locs 0 0 (MQ below (zQl D zM ad cA A z) args s 0 0 A) (F0 m 168 ls [.int t0]) := by
  have hx := C.1
  have hb := C.2.1
  unfold f7_copy_168 at h
  refine lv_istore (lv' := [(8, .int t0), (0, .ref (ad 0)), (1, .int x1), (2, .int x2), (3, .int x3), (4, .int x4), (5, .int x5), (6, .int x6), (7, .int x7)]) hx hb dX7_copy_168 hl (by decide) rfl (fun ls hl => ?_)
  refine lv_aload_n hx hb dX7_copy_170 rfl (lv_at hl 1 rfl) ?_
  refine gF7_16 C P zm0 rfl dX7_copy_171 ?_
  refine lv_bipush (v := 40) hx hb dX7_copy_174 (by decide) ?_
  refine lv_iload_n hx hb dX7_copy_176 rfl (lv_at hl 4 rfl) ?_
  refine lv_imul hx hb dX7_copy_177 ?_
  refine lv_iload hx hb dX7_copy_178 (lv_at hl 5 rfl) ?_
  refine lv_iadd hx hb dX7_copy_180 ?_
  refine lv_iload hx hb dX7_copy_181 (lv_at hl 0 rfl) ?_
  refine lv_iadd hx hb dX7_copy_183 ?_
  refine lv_aload_n hx hb dX7_copy_184 rfl (lv_at hl 1 rfl) ?_
  refine gF7_16 C P zm0 rfl dX7_copy_185 ?_
  refine lv_bipush (v := 40) hx hb dX7_copy_188 (by decide) ?_
  refine lv_iload_n hx hb dX7_copy_190 rfl (lv_at hl 2 rfl) ?_
  refine lv_imul hx hb dX7_copy_191 ?_
  refine lv_iload_n hx hb dX7_copy_192 rfl (lv_at hl 3 rfl) ?_
  refine lv_iadd hx hb dX7_copy_193 ?_
  refine lv_iload hx hb dX7_copy_194 (lv_at hl 0 rfl) ?_
  refine lv_iadd hx hb dX7_copy_196 ?_
  refine z_iald C P zm3 dX7_copy_197 h (fun h hi => ?_)
  refine z_iast C P zm3 dX7_copy_198 h (fun S198 H locs h P => ?_)
  obtain ⟨v199, ev199, h⟩ := z_nm h
  refine lv_iinc (v := v199) (lv' := [(7, .int v199), (8, .int t0), (0, .ref (ad 0)), (1, .int x1), (2, .int x2), (3, .int x3), (4, .int x4), (5, .int x5), (6, .int x6)]) hx hb dX7_copy_199 hl (k := 8) rfl (by rw [ev199]; rfl) (by decide) rfl (fun ls hl => ?_)
  refine lv_goto (tgt := 144) hx hb dX7_copy_202 (by decide) ?_
  exact hk144 _ _ _ _ _ _ _ _ _ _ _ h P (lv_sub hl [2, 3, 4, 5, 6, 7, 8, 0] rfl)
theorem w7_copy_144 (C : zCx p s m args meth c cX7_copy 9 RX7 (some .long) D ad cA A) {z : Int64 × Zs} :
    ∀ (n : Nat) (x1 : Int32) (x2 : Int32) (x3 : Int32) (x4 : Int32) (x5 : Int32) (x6 : Int32) (x7 : Int32) (S : Zs) (H : Heap) (locs : List Loc) (ls : Array Slot), f7_copy_144 n x1 x2 x3 x4 x5 x6 x7 S = some z → zP D zM ad cA A S s H locs → lv_has ls 9 [(0, .ref (ad 0)), (1, .int x1), (2, .int x2), (3, .int x3), (4, .int x4), (5, .int x5), (6, .int x6), (7, .int x7)] → W p l e (zrm 2 45) s m args below meth c H locs 0 0 (MQ below (zQl D zM ad cA A z) args s 0 0 A) (F0 m 144 ls []) := by
  have hx := C.1
  have hb := C.2.1
  intro n
  induction n with
  | zero =>
    intro x1 x2 x3 x4 x5 x6 x7 S H locs ls h
    cases h
  | succ n ih =>
    intro x1 x2 x3 x4 x5 x6 x7 S H locs ls h P hl
    unfold f7_copy_144 at h
    refine lv_iload hx hb dX7_copy_144 (lv_at hl 7 rfl) ?_
    refine lv_iload hx hb dX7_copy_146 (lv_at hl 5 rfl) ?_
    refine z_icmp_ge (tgt := 205) hx hb dX7_copy_148 (by decide) h (fun h => ?_) (fun h => ?_)
    · refine lv_iload hx hb dX7_copy_205 (lv_at hl 5 rfl) ?_
      refine lv_i2l hx hb dX7_copy_207 rfl ?_
      exact z_lret C P (Option.some.inj h) dX7_copy_208
    · refine lv_iload hx hb dX7_copy_151 (lv_at hl 6 rfl) ?_
      refine z_if_eq (tgt := 161) hx hb dX7_copy_153 (by decide) h (fun h => ?_) (fun h => ?_)
      · refine lv_iload hx hb dX7_copy_161 (lv_at hl 5 rfl) ?_
        refine lv_iconst (v := 1) hx hb dX7_copy_163 (by decide) ?_
        refine lv_isub hx hb dX7_copy_164 ?_
        refine lv_iload hx hb dX7_copy_165 (lv_at hl 7 rfl) ?_
        refine lv_isub hx hb dX7_copy_167 ?_
        exact w7_copy_168 C ih _ _ _ _ _ _ _ _ _ _ _ _ h P (lv_sub hl [0, 1, 2, 3, 4, 5, 6, 7] rfl)
      · refine lv_iload hx hb dX7_copy_156 (lv_at hl 7 rfl) ?_
        refine lv_goto (tgt := 168) hx hb dX7_copy_158 (by decide) ?_
        exact w7_copy_168 C ih _ _ _ _ _ _ _ _ _ _ _ _ h P (lv_sub hl [0, 1, 2, 3, 4, 5, 6, 7] rfl)
theorem w7_copy_139 (C : zCx p s m args meth c cX7_copy 9 RX7 (some .long) D ad cA A) {z : Int64 × Zs} (x1 : Int32) (x2 : Int32) (x3 : Int32) (x4 : Int32) (x5 : Int32) (t0 : Int32) (S : Zs) (H : Heap) (locs : List Loc) (ls : Array Slot) (h : f7_copy_139 x1 x2 x3 x4 x5 t0 S = some z) (P : zP D zM ad cA A S s H locs) (hl : lv_has ls 9 [(0, .ref (ad 0)), (1, .int x1), (2, .int x2), (3, .int x3), (4, .int x4), (5, .int x5)]) :
    W p l e (zrm 2 45) s m args below meth c H locs 0 0 (MQ below (zQl D zM ad cA A z) args s 0 0 A) (F0 m 139 ls [.int t0]) := by
  have hx := C.1
  have hb := C.2.1
  unfold f7_copy_139 at h
  refine lv_istore (lv' := [(6, .int t0), (0, .ref (ad 0)), (1, .int x1), (2, .int x2), (3, .int x3), (4, .int x4), (5, .int x5)]) hx hb dX7_copy_139 hl (by decide) rfl (fun ls hl => ?_)
  refine lv_iconst (v := 0) hx hb dX7_copy_141 (by decide) ?_
  refine lv_istore (lv' := [(7, .int (0 : Int32)), (6, .int t0), (0, .ref (ad 0)), (1, .int x1), (2, .int x2), (3, .int x3), (4, .int x4), (5, .int x5)]) hx hb dX7_copy_142 hl (by decide) rfl (fun ls hl => ?_)
  exact w7_copy_144 C _ _ _ _ _ _ _ _ _ _ _ _ h P (lv_sub hl [2, 3, 4, 5, 6, 7, 1, 0] rfl)
theorem m7_copy {l : Launch} {D : va_G} {cA : Nat → ClassId} {ad : Nat → Nat} {x1 : Int32} {x2 : Int32} {x3 : Int32} {x4 : Int32} {x5 : Int32} {S : Zs} {z : Int64 × Zs} (h : f7_copy x1 x2 x3 x4 x5 S = some z) :
    zMl l yX7_copy cX7_copy 9 2 45 D zM ad cA S [.ref (ad 0), .int x1, .int x2, .int x3, .int x4, .int x5] z := by
  refine z_enter (Qc := fun A => zQl D zM ad cA A z) (by decide +kernel) (Nat.le_of_ble_eq_true rfl) (fun p e s m below meth c A C P ls hl => ?_)
  have hx := C.1
  have hb := C.2.1
  have hl : lv_has ls 9 [(0, .ref (ad 0)), (1, .int x1), (2, .int x2), (3, .int x3), (4, .int x4), (5, .int x5)] := hl
  unfold f7_copy at h
  refine lv_aload_n hx hb dX7_copy_0 rfl (lv_at hl 0 rfl) ?_
  refine lv_iconst (v := 0) hx hb dX7_copy_1 (by decide) ?_
  refine pF7_62 C P zm0 rfl dX7_copy_2 h (fun S2 H locs h P => ?_)
  refine lv_iload_n hx hb dX7_copy_5 rfl (lv_at hl 1 rfl) ?_
  refine z_callSb C P (As := [.int x1]) (m7_isRow) cW7_77 rfl (by decide) hl.1 rfl (Nat.le_of_ble_eq_true rfl) dX7_copy_6 ⟨Nat.zero_le _, Nat.zero_le _⟩ (fun H locs n6 P => ?_)
  refine z_if_eq (tgt := 19) hx hb dX7_copy_9 (by decide) h (fun h => ?_) (fun h => ?_)
  · refine lv_ldc2 (v := (-9000000000000000001)) hx hb C.2.2.2.1 (C.2.2.2.2.1 _ kK7_83) dX7_copy_19 ?_
    exact z_lret C P (Option.some.inj h) dX7_copy_22
  · refine lv_iload_n hx hb dX7_copy_12 rfl (lv_at hl 3 rfl) ?_
    refine z_callSb C P (As := [.int x3]) (m7_isRow) cW7_77 rfl (by decide) hl.1 rfl (Nat.le_of_ble_eq_true rfl) dX7_copy_13 ⟨Nat.zero_le _, Nat.zero_le _⟩ (fun H locs n13 P => ?_)
    refine z_if_ne (tgt := 23) hx hb dX7_copy_16 (by decide) h (fun h => ?_) (fun h => ?_)
    · refine lv_aload_n hx hb dX7_copy_23 rfl (lv_at hl 0 rfl) ?_
      refine lv_iconst (v := 0) hx hb dX7_copy_24 (by decide) ?_
      refine pF7_66 C P zm0 rfl dX7_copy_25 h (fun S25 H locs h P => ?_)
      refine lv_aload_n hx hb dX7_copy_28 rfl (lv_at hl 0 rfl) ?_
      refine gF7_9 C P zm0 rfl dX7_copy_29 ?_
      refine lv_iload_n hx hb dX7_copy_32 rfl (lv_at hl 1 rfl) ?_
      refine z_iald C P zm1 dX7_copy_33 h (fun h hi => ?_)
      refine z_if_lt (tgt := 46) hx hb dX7_copy_34 (by decide) h (fun h => ?_) (fun h => ?_)
      · exact w7_copy_46 C _ _ _ _ h P (lv_sub hl [0] rfl)
      · refine lv_aload_n hx hb dX7_copy_37 rfl (lv_at hl 0 rfl) ?_
        refine gF7_9 C P zm0 rfl dX7_copy_38 ?_
        refine lv_iload_n hx hb dX7_copy_41 rfl (lv_at hl 3 rfl) ?_
        refine z_iald C P zm1 dX7_copy_42 h (fun h hi => ?_)
        refine z_if_ge (tgt := 52) hx hb dX7_copy_43 (by decide) h (fun h => ?_) (fun h => ?_)
        · refine lv_aload_n hx hb dX7_copy_52 rfl (lv_at hl 0 rfl) ?_
          refine gF7_9 C P zm0 rfl dX7_copy_53 ?_
          refine lv_iload_n hx hb dX7_copy_56 rfl (lv_at hl 1 rfl) ?_
          refine z_iald C P zm1 dX7_copy_57 h (fun h hi => ?_)
          refine lv_aload_n hx hb dX7_copy_58 rfl (lv_at hl 0 rfl) ?_
          refine gF7_9 C P zm0 rfl dX7_copy_59 ?_
          refine lv_iload_n hx hb dX7_copy_62 rfl (lv_at hl 3 rfl) ?_
          refine z_iald C P zm1 dX7_copy_63 h (fun h hi => ?_)
          refine z_icmp_eq (tgt := 73) hx hb dX7_copy_64 (by decide) h (fun h => ?_) (fun h => ?_)
          · refine lv_iload_n hx hb dX7_copy_73 rfl (lv_at hl 2 rfl) ?_
            refine z_if_lt (tgt := 122) hx hb dX7_copy_74 (by decide) h (fun h => ?_) (fun h => ?_)
            · exact w7_copy_122 C _ _ _ _ h P (lv_sub hl [0] rfl)
            · refine lv_iload hx hb dX7_copy_77 (lv_at hl 4 rfl) ?_
              refine z_if_lt (tgt := 122) hx hb dX7_copy_79 (by decide) h (fun h => ?_) (fun h => ?_)
              · exact w7_copy_122 C _ _ _ _ h P (lv_sub hl [0] rfl)
              · refine lv_iload hx hb dX7_copy_82 (lv_at hl 5 rfl) ?_
                refine z_if_lt (tgt := 122) hx hb dX7_copy_84 (by decide) h (fun h => ?_) (fun h => ?_)
                · exact w7_copy_122 C _ _ _ _ h P (lv_sub hl [0] rfl)
                · refine lv_iload_n hx hb dX7_copy_87 rfl (lv_at hl 2 rfl) ?_
                  refine lv_i2l hx hb dX7_copy_88 rfl ?_
                  refine lv_iload hx hb dX7_copy_89 (lv_at hl 5 rfl) ?_
                  refine lv_i2l hx hb dX7_copy_91 rfl ?_
                  refine lv_ladd hx hb dX7_copy_92 ?_
                  refine lv_aload_n hx hb dX7_copy_93 rfl (lv_at hl 0 rfl) ?_
                  refine gF7_13 C P zm0 rfl dX7_copy_94 ?_
                  refine lv_iload_n hx hb dX7_copy_97 rfl (lv_at hl 1 rfl) ?_
                  refine z_iald C P zm2 dX7_copy_98 h (fun h hi => ?_)
                  refine lv_i2l hx hb dX7_copy_99 rfl ?_
                  refine z_lcmp_gt (tgt := 122) hx hb dX7_copy_100 dX7_copy_101 (by decide) h (fun h => ?_) (fun h => ?_)
                  · exact w7_copy_122 C _ _ _ _ h P (lv_sub hl [0] rfl)
                  · refine lv_iload hx hb dX7_copy_104 (lv_at hl 4 rfl) ?_
                    refine lv_i2l hx hb dX7_copy_106 rfl ?_
                    refine lv_iload hx hb dX7_copy_107 (lv_at hl 5 rfl) ?_
                    refine lv_i2l hx hb dX7_copy_109 rfl ?_
                    refine lv_ladd hx hb dX7_copy_110 ?_
                    refine lv_aload_n hx hb dX7_copy_111 rfl (lv_at hl 0 rfl) ?_
                    refine gF7_13 C P zm0 rfl dX7_copy_112 ?_
                    refine lv_iload_n hx hb dX7_copy_115 rfl (lv_at hl 3 rfl) ?_
                    refine z_iald C P zm2 dX7_copy_116 h (fun h hi => ?_)
                    refine lv_i2l hx hb dX7_copy_117 rfl ?_
                    refine z_lcmp_le (tgt := 128) hx hb dX7_copy_118 dX7_copy_119 (by decide) h (fun h => ?_) (fun h => ?_)
                    · refine lv_iload_n hx hb dX7_copy_128 rfl (lv_at hl 2 rfl) ?_
                      refine lv_iload hx hb dX7_copy_129 (lv_at hl 4 rfl) ?_
                      refine z_icmp_lt (tgt := 138) hx hb dX7_copy_131 (by decide) h (fun h => ?_) (fun h => ?_)
                      · refine lv_iconst (v := 0) hx hb dX7_copy_138 (by decide) ?_
                        exact w7_copy_139 C _ _ _ _ _ _ _ _ _ _ h P (lv_sub hl [0, 1, 2, 3, 4, 5] rfl)
                      · refine lv_iconst (v := 1) hx hb dX7_copy_134 (by decide) ?_
                        refine lv_goto (tgt := 139) hx hb dX7_copy_135 (by decide) ?_
                        exact w7_copy_139 C _ _ _ _ _ _ _ _ _ _ h P (lv_sub hl [0, 1, 2, 3, 4, 5] rfl)
                    · exact w7_copy_122 C _ _ _ _ h P (lv_sub hl [0] rfl)
          · refine lv_aload_n hx hb dX7_copy_67 rfl (lv_at hl 0 rfl) ?_
            refine lv_iconst (v := 5) hx hb dX7_copy_68 (by decide) ?_
            obtain ⟨r69, S69, g69, h⟩ := bd2_some h
            refine z_callVl C P (As := [.int (5 : Int32)]) (m7_finding g69) cW7_85 rfl zm0 rfl (by decide) hl.1 rfl (Nat.le_of_ble_eq_true rfl) dX7_copy_69 ⟨Nat.zero_le _, Nat.zero_le _⟩ (fun H locs P => ?_)
            exact z_lret C P (Option.some.inj h) dX7_copy_72
        · exact w7_copy_46 C _ _ _ _ h P (lv_sub hl [0] rfl)
    · refine lv_ldc2 (v := (-9000000000000000001)) hx hb C.2.2.2.1 (C.2.2.2.2.1 _ kK7_83) dX7_copy_19 ?_
      exact z_lret C P (Option.some.inj h) dX7_copy_22
theorem m7_drop {l : Launch} {D : va_G} {cA : Nat → ClassId} {ad : Nat → Nat} {x1 : Int32} {S : Zs} {z : Int64 × Zs} (h : f7_drop x1 S = some z) :
    zMl l yX7_drop cX7_drop 2 2 45 D zM ad cA S [.ref (ad 0), .int x1] z := by
  refine z_enter (Qc := fun A => zQl D zM ad cA A z) (by decide +kernel) (Nat.le_of_ble_eq_true rfl) (fun p e s m below meth c A C P ls hl => ?_)
  have hx := C.1
  have hb := C.2.1
  have hl : lv_has ls 2 [(0, .ref (ad 0)), (1, .int x1)] := hl
  unfold f7_drop at h
  refine lv_aload_n hx hb dX7_drop_0 rfl (lv_at hl 0 rfl) ?_
  refine lv_iconst (v := 0) hx hb dX7_drop_1 (by decide) ?_
  refine pF7_62 C P zm0 rfl dX7_drop_2 h (fun S2 H locs h P => ?_)
  refine lv_iload_n hx hb dX7_drop_5 rfl (lv_at hl 1 rfl) ?_
  refine z_callSb C P (As := [.int x1]) (m7_isRow) cW7_77 rfl (by decide) hl.1 rfl (Nat.le_of_ble_eq_true rfl) dX7_drop_6 ⟨Nat.zero_le _, Nat.zero_le _⟩ (fun H locs n6 P => ?_)
  refine z_if_ne (tgt := 16) hx hb dX7_drop_9 (by decide) h (fun h => ?_) (fun h => ?_)
  · refine lv_aload_n hx hb dX7_drop_16 rfl (lv_at hl 0 rfl) ?_
    refine lv_iconst (v := 0) hx hb dX7_drop_17 (by decide) ?_
    refine pF7_66 C P zm0 rfl dX7_drop_18 h (fun S18 H locs h P => ?_)
    refine lv_aload_n hx hb dX7_drop_21 rfl (lv_at hl 0 rfl) ?_
    refine gF7_9 C P zm0 rfl dX7_drop_22 ?_
    refine lv_iload_n hx hb dX7_drop_25 rfl (lv_at hl 1 rfl) ?_
    refine z_iald C P zm1 dX7_drop_26 h (fun h hi => ?_)
    refine z_if_ge (tgt := 36) hx hb dX7_drop_27 (by decide) h (fun h => ?_) (fun h => ?_)
    · refine lv_aload_n hx hb dX7_drop_36 rfl (lv_at hl 0 rfl) ?_
      refine gF7_9 C P zm0 rfl dX7_drop_37 ?_
      refine lv_iload_n hx hb dX7_drop_40 rfl (lv_at hl 1 rfl) ?_
      refine lv_iconst (v := (-1)) hx hb dX7_drop_41 (by decide) ?_
      refine z_iast C P zm1 dX7_drop_42 h (fun S42 H locs h P => ?_)
      refine lv_aload_n hx hb dX7_drop_43 rfl (lv_at hl 0 rfl) ?_
      refine gF7_13 C P zm0 rfl dX7_drop_44 ?_
      refine lv_iload_n hx hb dX7_drop_47 rfl (lv_at hl 1 rfl) ?_
      refine z_iald C P zm2 dX7_drop_48 h (fun h hi => ?_)
      refine lv_i2l hx hb dX7_drop_49 rfl ?_
      exact z_lret C P (Option.some.inj h) dX7_drop_50
    · refine lv_aload_n hx hb dX7_drop_30 rfl (lv_at hl 0 rfl) ?_
      refine lv_iconst (v := 1) hx hb dX7_drop_31 (by decide) ?_
      obtain ⟨r32, S32, g32, h⟩ := bd2_some h
      refine z_callVl C P (As := [.int (1 : Int32)]) (m7_finding g32) cW7_85 rfl zm0 rfl (by decide) hl.1 rfl (Nat.le_of_ble_eq_true rfl) dX7_drop_32 ⟨Nat.zero_le _, Nat.zero_le _⟩ (fun H locs P => ?_)
      exact z_lret C P (Option.some.inj h) dX7_drop_35
  · refine lv_ldc2 (v := (-9000000000000000001)) hx hb C.2.2.2.1 (C.2.2.2.2.1 _ kK7_83) dX7_drop_12 ?_
    exact z_lret C P (Option.some.inj h) dX7_drop_15
theorem w7_lookItems_35 (C : zCx p s m args meth c cX7_lookItems 4 RX7 (some .long) D ad cA A) {z : Int64 × Zs} (S : Zs) (H : Heap) (locs : List Loc) (ls : Array Slot) (h : f7_lookItems_35 S = some z) (P : zP D zM ad cA A S s H locs) (hl : lv_has ls 4 [(0, .ref (ad 0))]) :
    W p l e (zrm 1 21) s m args below meth c H locs 0 0 (MQ below (zQl D zM ad cA A z) args s 0 0 A) (F0 m 35 ls []) := by
  have hx := C.1
  have hb := C.2.1
  unfold f7_lookItems_35 at h
  refine lv_aload_n hx hb dX7_lookItems_35 rfl (lv_at hl 0 rfl) ?_
  refine lv_iconst (v := 2) hx hb dX7_lookItems_36 (by decide) ?_
  obtain ⟨r37, S37, g37, h⟩ := bd2_some h
  refine z_callVl C P (As := [.int (2 : Int32)]) (m7_finding g37) cW7_85 rfl zm0 rfl (by decide) hl.1 rfl (Nat.le_of_ble_eq_true rfl) dX7_lookItems_37 ⟨Nat.zero_le _, Nat.zero_le _⟩ (fun H locs P => ?_)
  refine lv_goto (tgt := 44) hx hb dX7_lookItems_40 (by decide) ?_
  exact z_lret C P (Option.some.inj h) dX7_lookItems_44
theorem m7_lookItems {l : Launch} {D : va_G} {cA : Nat → ClassId} {ad : Nat → Nat} {x1 : Int32} {x2 : Int32} {x3 : Int32} {S : Zs} {z : Int64 × Zs} (h : f7_lookItems x1 x2 x3 S = some z) :
    zMl l yX7_lookItems cX7_lookItems 4 1 21 D zM ad cA S [.ref (ad 0), .int x1, .int x2, .int x3] z := by
  refine z_enter (Qc := fun A => zQl D zM ad cA A z) (by decide +kernel) (Nat.le_of_ble_eq_true rfl) (fun p e s m below meth c A C P ls hl => ?_)
  have hx := C.1
  have hb := C.2.1
  have hl : lv_has ls 4 [(0, .ref (ad 0)), (1, .int x1), (2, .int x2), (3, .int x3)] := hl
  unfold f7_lookItems at h
  refine lv_aload_n hx hb dX7_lookItems_0 rfl (lv_at hl 0 rfl) ?_
  refine gF7_9 C P zm0 rfl dX7_lookItems_1 ?_
  refine lv_iload_n hx hb dX7_lookItems_4 rfl (lv_at hl 1 rfl) ?_
  refine z_iald C P zm1 dX7_lookItems_5 h (fun h hi => ?_)
  refine z_if_ge (tgt := 15) hx hb dX7_lookItems_6 (by decide) h (fun h => ?_) (fun h => ?_)
  · refine lv_iload_n hx hb dX7_lookItems_15 rfl (lv_at hl 2 rfl) ?_
    refine z_if_lt (tgt := 35) hx hb dX7_lookItems_16 (by decide) h (fun h => ?_) (fun h => ?_)
    · exact w7_lookItems_35 C _ _ _ _ h P (lv_sub hl [0] rfl)
    · refine lv_iload_n hx hb dX7_lookItems_19 rfl (lv_at hl 2 rfl) ?_
      refine lv_i2l hx hb dX7_lookItems_20 rfl ?_
      refine lv_iload_n hx hb dX7_lookItems_21 rfl (lv_at hl 3 rfl) ?_
      refine lv_i2l hx hb dX7_lookItems_22 rfl ?_
      refine lv_ladd hx hb dX7_lookItems_23 ?_
      refine lv_aload_n hx hb dX7_lookItems_24 rfl (lv_at hl 0 rfl) ?_
      refine gF7_13 C P zm0 rfl dX7_lookItems_25 ?_
      refine lv_iload_n hx hb dX7_lookItems_28 rfl (lv_at hl 1 rfl) ?_
      refine z_iald C P zm2 dX7_lookItems_29 h (fun h hi => ?_)
      refine lv_i2l hx hb dX7_lookItems_30 rfl ?_
      refine z_lcmp_le (tgt := 43) hx hb dX7_lookItems_31 dX7_lookItems_32 (by decide) h (fun h => ?_) (fun h => ?_)
      · refine lv_lconst (v := 0) hx hb dX7_lookItems_43 (by decide) ?_
        exact z_lret C P (Option.some.inj h) dX7_lookItems_44
      · exact w7_lookItems_35 C _ _ _ _ h P (lv_sub hl [0] rfl)
  · refine lv_aload_n hx hb dX7_lookItems_9 rfl (lv_at hl 0 rfl) ?_
    refine lv_iconst (v := 1) hx hb dX7_lookItems_10 (by decide) ?_
    obtain ⟨r11, S11, g11, h⟩ := bd2_some h
    refine z_callVl C P (As := [.int (1 : Int32)]) (m7_finding g11) cW7_85 rfl zm0 rfl (by decide) hl.1 rfl (Nat.le_of_ble_eq_true rfl) dX7_lookItems_11 ⟨Nat.zero_le _, Nat.zero_le _⟩ (fun H locs P => ?_)
    exact z_lret C P (Option.some.inj h) dX7_lookItems_14
theorem w7_feed_42 (C : zCx p s m args meth c cX7_feed 5 RX7 (some .long) D ad cA A) {z : Int64 × Zs} :
    ∀ (n : Nat) (x1 : Int64) (x4 : Int32) (S : Zs) (H : Heap) (locs : List Loc) (ls : Array Slot), f7_feed_42 n x1 x4 S = some z → zP D zM ad cA A S s H locs → lv_has ls 5 [(0, .ref (ad 0)), (1, .long x1), (4, .int x4)] → W p l e (zrm 1 25) s m args below meth c H locs 0 0 (MQ below (zQl D zM ad cA A z) args s 0 0 A) (F0 m 42 ls []) := by
  have hx := C.1
  have hb := C.2.1
  intro n
  induction n with
  | zero =>
    intro x1 x4 S H locs ls h
    cases h
  | succ n ih =>
    intro x1 x4 S H locs ls h P hl
    unfold f7_feed_42 at h
    refine lv_iload hx hb dX7_feed_42 (lv_at hl 2 rfl) ?_
    refine z_if_lt (tgt := 84) hx hb dX7_feed_44 (by decide) h (fun h => ?_) (fun h => ?_)
    · refine lv_aload_n hx hb dX7_feed_84 rfl (lv_at hl 0 rfl) ?_
      refine gF7_91 C P zm0 rfl dX7_feed_85 ?_
      refine lv_i2l hx hb dX7_feed_88 rfl ?_
      exact z_lret C P (Option.some.inj h) dX7_feed_89
    · refine lv_aload_n hx hb dX7_feed_47 rfl (lv_at hl 0 rfl) ?_
      refine gF7_37 C P zm0 rfl dX7_feed_48 ?_
      refine lv_aload_n hx hb dX7_feed_51 rfl (lv_at hl 0 rfl) ?_
      refine gF7_91 C P zm0 rfl dX7_feed_52 ?_
      refine lv_lload_n hx hb dX7_feed_55 rfl (lv_at hl 1 rfl) ?_
      refine lv_bipush (v := 8) hx hb dX7_feed_56 (by decide) ?_
      refine lv_iload hx hb dX7_feed_58 (lv_at hl 2 rfl) ?_
      refine lv_imul hx hb dX7_feed_60 ?_
      refine lv_lshr hx hb dX7_feed_61 rfl ?_
      refine lv_ldc2 (v := 255) hx hb C.2.2.2.1 (C.2.2.2.2.1 _ kK7_96) dX7_feed_62 ?_
      refine lv_land hx hb dX7_feed_65 ?_
      refine lv_l2i hx hb dX7_feed_66 rfl ?_
      refine z_iast C P zm10 dX7_feed_67 h (fun S67 H locs h P => ?_)
      refine lv_aload_n hx hb dX7_feed_68 rfl (lv_at hl 0 rfl) ?_
      refine lv_dup hx hb dX7_feed_69 rfl ?_
      refine gF7_91 C P zm0 rfl dX7_feed_70 ?_
      refine lv_iconst (v := 1) hx hb dX7_feed_73 (by decide) ?_
      refine lv_iadd hx hb dX7_feed_74 ?_
      refine pF7_91 C P zm0 rfl dX7_feed_75 h (fun S75 H locs h P => ?_)
      obtain ⟨v78, ev78, h⟩ := z_nm h
      refine lv_iinc (v := v78) (lv' := [(4, .int v78), (0, .ref (ad 0)), (1, .long x1)]) hx hb dX7_feed_78 hl (k := 2) rfl (by rw [ev78]; rfl) (by decide) rfl (fun ls hl => ?_)
      refine lv_goto (tgt := 42) hx hb dX7_feed_81 (by decide) ?_
      exact ih _ _ _ _ _ _ h P (lv_sub hl [1, 2, 0] rfl)
theorem m7_feed {l : Launch} {D : va_G} {cA : Nat → ClassId} {ad : Nat → Nat} {x1 : Int64} {x3 : Int32} {S : Zs} {z : Int64 × Zs} (h : f7_feed x1 x3 S = some z) :
    zMl l yX7_feed cX7_feed 5 1 25 D zM ad cA S [.ref (ad 0), .long x1, .int x3] z := by
  refine z_enter (Qc := fun A => zQl D zM ad cA A z) (by decide +kernel) (Nat.le_of_ble_eq_true rfl) (fun p e s m below meth c A C P ls hl => ?_)
  have hx := C.1
  have hb := C.2.1
  have hl : lv_has ls 5 [(0, .ref (ad 0)), (1, .long x1), (3, .int x3)] := hl
  unfold f7_feed at h
  refine lv_aload_n hx hb dX7_feed_0 rfl (lv_at hl 0 rfl) ?_
  refine lv_iconst (v := 0) hx hb dX7_feed_1 (by decide) ?_
  refine pF7_62 C P zm0 rfl dX7_feed_2 h (fun S2 H locs h P => ?_)
  refine lv_iload_n hx hb dX7_feed_5 rfl (lv_at hl 2 rfl) ?_
  refine lv_i2l hx hb dX7_feed_6 rfl ?_
  refine lv_lconst (v := 1) hx hb dX7_feed_7 (by decide) ?_
  refine lv_ldc2 (v := 8) hx hb C.2.2.2.1 (C.2.2.2.2.1 _ kK7_89) dX7_feed_8 ?_
  refine z_callSb C P (As := [.long x3.toInt64, .long (1 : Int64), .long (8 : Int64)]) (m7_in) cW7_73 rfl (by decide) hl.1 rfl (Nat.le_of_ble_eq_true rfl) dX7_feed_11 ⟨Nat.zero_le _, Nat.zero_le _⟩ (fun H locs n11 P => ?_)
  refine z_if_ne (tgt := 21) hx hb dX7_feed_14 (by decide) h (fun h => ?_) (fun h => ?_)
  · refine lv_aload_n hx hb dX7_feed_21 rfl (lv_at hl 0 rfl) ?_
    refine gF7_91 C P zm0 rfl dX7_feed_22 ?_
    refine lv_iload_n hx hb dX7_feed_25 rfl (lv_at hl 2 rfl) ?_
    refine lv_iadd hx hb dX7_feed_26 ?_
    refine lv_sipush (v := 400) hx hb dX7_feed_27 (by decide) ?_
    refine z_icmp_le (tgt := 37) hx hb dX7_feed_30 (by decide) h (fun h => ?_) (fun h => ?_)
    · refine lv_iload_n hx hb dX7_feed_37 rfl (lv_at hl 2 rfl) ?_
      refine lv_iconst (v := 1) hx hb dX7_feed_38 (by decide) ?_
      refine lv_isub hx hb dX7_feed_39 ?_
      refine z_topi h (fun v40 h => ?_)
      refine lv_istore (lv' := [(4, .int v40), (0, .ref (ad 0)), (1, .long x1), (3, .int x3)]) hx hb dX7_feed_40 hl (by decide) rfl (fun ls hl => ?_)
      exact w7_feed_42 C _ _ _ _ _ _ _ h P (lv_sub hl [1, 2, 0] rfl)
    · refine lv_ldc2 (v := (-9000000000000000003)) hx hb C.2.2.2.1 (C.2.2.2.2.1 _ kK7_94) dX7_feed_33 ?_
      exact z_lret C P (Option.some.inj h) dX7_feed_36
  · refine lv_ldc2 (v := (-9000000000000000001)) hx hb C.2.2.2.1 (C.2.2.2.2.1 _ kK7_83) dX7_feed_17 ?_
    exact z_lret C P (Option.some.inj h) dX7_feed_20
theorem m7_byteAt {l : Launch} {D : va_G} {cA : Nat → ClassId} {ad : Nat → Nat} {x1 : Int32} {S : Zs} {z : Int32} (h : f7_byteAt S x1 = some z) :
    zMi l yX7_byteAt cX7_byteAt 2 0 0 D zM ad cA S [.ref (ad 0), .int x1] (z, S) := by
  refine z_enter (Qc := fun A => zQi D zM ad cA A (z, S)) (by decide +kernel) (Nat.le_of_ble_eq_true rfl) (fun p e s m below meth c A C P ls hl => ?_)
  have hx := C.1
  have hb := C.2.1
  have hl : lv_has ls 2 [(0, .ref (ad 0)), (1, .int x1)] := hl
  unfold f7_byteAt at h
  refine lv_iload_n hx hb dX7_byteAt_0 rfl (lv_at hl 1 rfl) ?_
  refine lv_aload_n hx hb dX7_byteAt_1 rfl (lv_at hl 0 rfl) ?_
  refine gF7_98 C P zm0 rfl dX7_byteAt_2 ?_
  refine z_icmp_ge (tgt := 17) hx hb dX7_byteAt_5 (by decide) h (fun h => ?_) (fun h => ?_)
  · refine lv_ldc (v := (-1000000)) hx hb C.2.2.2.1 (C.2.2.2.2.1 _ kK7_101) dX7_byteAt_17 ?_
    exact z_iret C P (by rw [Option.some.inj h]) dX7_byteAt_19
  · refine lv_aload_n hx hb dX7_byteAt_8 rfl (lv_at hl 0 rfl) ?_
    refine gF7_37 C P zm0 rfl dX7_byteAt_9 ?_
    refine lv_iload_n hx hb dX7_byteAt_12 rfl (lv_at hl 1 rfl) ?_
    refine z_iald C P zm10 dX7_byteAt_13 h (fun h hi => ?_)
    refine lv_goto (tgt := 19) hx hb dX7_byteAt_14 (by decide) ?_
    exact z_iret C P (by rw [Option.some.inj h]) dX7_byteAt_19
theorem m7_isLetter {l : Launch} {D : va_G} {cA : Nat → ClassId} {ad : Nat → Nat} {x0 : Int32} {S : Zs} :
    zMb l yX7_isLetter cX7_isLetter 1 0 0 D zM ad cA S [.int x0] (f7_isLetter x0, S) := by
  obtain ⟨z, h⟩ : ∃ z, f7_isLetter x0 = z := ⟨_, rfl⟩
  rw [h]
  refine z_enter (Qc := fun A => zQb D zM ad cA A (z, S)) (by decide +kernel) (Nat.le_of_ble_eq_true rfl) (fun p e s m below meth c A C P ls hl => ?_)
  have hx := C.1
  have hb := C.2.1
  have hl : lv_has ls 1 [(0, .int x0)] := hl
  unfold f7_isLetter at h
  refine lv_iload_n hx hb dX7_isLetter_0 rfl (lv_at hl 0 rfl) ?_
  refine lv_bipush (v := 97) hx hb dX7_isLetter_1 (by decide) ?_
  refine z_icmp_lt (tgt := 16) hx hb dX7_isLetter_3 (by decide) h (fun h => ?_) (fun h => ?_)
  · refine lv_iconst (v := 0) hx hb dX7_isLetter_16 (by decide) ?_
    exact z_zret C P (by rw [h]) (by decide) dX7_isLetter_17
  · refine lv_iload_n hx hb dX7_isLetter_6 rfl (lv_at hl 0 rfl) ?_
    refine lv_bipush (v := 122) hx hb dX7_isLetter_7 (by decide) ?_
    refine z_icmp_gt (tgt := 16) hx hb dX7_isLetter_9 (by decide) h (fun h => ?_) (fun h => ?_)
    · refine lv_iconst (v := 0) hx hb dX7_isLetter_16 (by decide) ?_
      exact z_zret C P (by rw [h]) (by decide) dX7_isLetter_17
    · refine lv_iconst (v := 1) hx hb dX7_isLetter_12 (by decide) ?_
      refine lv_goto (tgt := 17) hx hb dX7_isLetter_13 (by decide) ?_
      exact z_zret C P (by rw [h]) (by decide) dX7_isLetter_17
theorem m7_isFigure {l : Launch} {D : va_G} {cA : Nat → ClassId} {ad : Nat → Nat} {x0 : Int32} {S : Zs} :
    zMb l yX7_isFigure cX7_isFigure 1 0 0 D zM ad cA S [.int x0] (f7_isFigure x0, S) := by
  obtain ⟨z, h⟩ : ∃ z, f7_isFigure x0 = z := ⟨_, rfl⟩
  rw [h]
  refine z_enter (Qc := fun A => zQb D zM ad cA A (z, S)) (by decide +kernel) (Nat.le_of_ble_eq_true rfl) (fun p e s m below meth c A C P ls hl => ?_)
  have hx := C.1
  have hb := C.2.1
  have hl : lv_has ls 1 [(0, .int x0)] := hl
  unfold f7_isFigure at h
  refine lv_iload_n hx hb dX7_isFigure_0 rfl (lv_at hl 0 rfl) ?_
  refine lv_bipush (v := 48) hx hb dX7_isFigure_1 (by decide) ?_
  refine z_icmp_lt (tgt := 16) hx hb dX7_isFigure_3 (by decide) h (fun h => ?_) (fun h => ?_)
  · refine lv_iconst (v := 0) hx hb dX7_isFigure_16 (by decide) ?_
    exact z_zret C P (by rw [h]) (by decide) dX7_isFigure_17
  · refine lv_iload_n hx hb dX7_isFigure_6 rfl (lv_at hl 0 rfl) ?_
    refine lv_bipush (v := 57) hx hb dX7_isFigure_7 (by decide) ?_
    refine z_icmp_gt (tgt := 16) hx hb dX7_isFigure_9 (by decide) h (fun h => ?_) (fun h => ?_)
    · refine lv_iconst (v := 0) hx hb dX7_isFigure_16 (by decide) ?_
      exact z_zret C P (by rw [h]) (by decide) dX7_isFigure_17
    · refine lv_iconst (v := 1) hx hb dX7_isFigure_12 (by decide) ?_
      refine lv_goto (tgt := 17) hx hb dX7_isFigure_13 (by decide) ?_
      exact z_zret C P (by rw [h]) (by decide) dX7_isFigure_17
end ZVM0
