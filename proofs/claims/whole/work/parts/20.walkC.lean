section ZVC0
variable {p : Program} {l : Launch} {e : Env} {s : State} {m : MethodId} {args : Array Value} {below : List Frame} {meth : Method} {c : Code} {D : va_G} {cA : Nat → ClassId} {A : Nat → Prop} {ad : Nat → Nat}
theorem m2_isRow {l : Launch} {D : va_G} {cA : Nat → ClassId} {ad : Nat → Nat} {x0 : Int32} {S : Zs} :
    zMb l yX2_isRow cX2_isRow 1 0 0 D zC ad cA S [.int x0] (f2_isRow x0, S) := by
  obtain ⟨z, h⟩ : ∃ z, f2_isRow x0 = z := ⟨_, rfl⟩
  rw [h]
  refine z_enter (Qc := fun A => zQb D zC ad cA A (z, S)) (by decide +kernel) (Nat.le_of_ble_eq_true rfl) (fun p e s m below meth c A C P ls hl => ?_)
  have hx := C.1
  have hb := C.2.1
  have hl : lv_has ls 1 [(0, .int x0)] := hl
  unfold f2_isRow at h
  refine lv_iload_n hx hb dX2_isRow_0 rfl (lv_at hl 0 rfl) ?_
  refine z_if_lt (tgt := 14) hx hb dX2_isRow_1 (by decide) h (fun h => ?_) (fun h => ?_)
  · refine lv_iconst (v := 0) hx hb dX2_isRow_14 (by decide) ?_
    exact z_zret C P (by rw [h]) (by decide) dX2_isRow_15
  · refine lv_iload_n hx hb dX2_isRow_4 rfl (lv_at hl 0 rfl) ?_
    refine lv_bipush (v := 8) hx hb dX2_isRow_5 (by decide) ?_
    refine z_icmp_ge (tgt := 14) hx hb dX2_isRow_7 (by decide) h (fun h => ?_) (fun h => ?_)
    · refine lv_iconst (v := 0) hx hb dX2_isRow_14 (by decide) ?_
      exact z_zret C P (by rw [h]) (by decide) dX2_isRow_15
    · refine lv_iconst (v := 1) hx hb dX2_isRow_10 (by decide) ?_
      refine lv_goto (tgt := 15) hx hb dX2_isRow_11 (by decide) ?_
      exact z_zret C P (by rw [h]) (by decide) dX2_isRow_15
theorem m2_isLane {l : Launch} {D : va_G} {cA : Nat → ClassId} {ad : Nat → Nat} {x0 : Int32} {S : Zs} :
    zMb l yX2_isLane cX2_isLane 1 0 0 D zC ad cA S [.int x0] (f2_isLane x0, S) := by
  obtain ⟨z, h⟩ : ∃ z, f2_isLane x0 = z := ⟨_, rfl⟩
  rw [h]
  refine z_enter (Qc := fun A => zQb D zC ad cA A (z, S)) (by decide +kernel) (Nat.le_of_ble_eq_true rfl) (fun p e s m below meth c A C P ls hl => ?_)
  have hx := C.1
  have hb := C.2.1
  have hl : lv_has ls 1 [(0, .int x0)] := hl
  unfold f2_isLane at h
  refine lv_iload_n hx hb dX2_isLane_0 rfl (lv_at hl 0 rfl) ?_
  refine z_if_lt (tgt := 13) hx hb dX2_isLane_1 (by decide) h (fun h => ?_) (fun h => ?_)
  · refine lv_iconst (v := 0) hx hb dX2_isLane_13 (by decide) ?_
    exact z_zret C P (by rw [h]) (by decide) dX2_isLane_14
  · refine lv_iload_n hx hb dX2_isLane_4 rfl (lv_at hl 0 rfl) ?_
    refine lv_iconst (v := 2) hx hb dX2_isLane_5 (by decide) ?_
    refine z_icmp_gt (tgt := 13) hx hb dX2_isLane_6 (by decide) h (fun h => ?_) (fun h => ?_)
    · refine lv_iconst (v := 0) hx hb dX2_isLane_13 (by decide) ?_
      exact z_zret C P (by rw [h]) (by decide) dX2_isLane_14
    · refine lv_iconst (v := 1) hx hb dX2_isLane_9 (by decide) ?_
      refine lv_goto (tgt := 14) hx hb dX2_isLane_10 (by decide) ?_
      exact z_zret C P (by rw [h]) (by decide) dX2_isLane_14
theorem m6_found {l : Launch} {D : va_G} {cA : Nat → ClassId} {ad : Nat → Nat} {x1 : Int32} {S : Zs} {z : Int64 × Zs} (h : f6_found x1 S = some z) :
    zMl l yX6_found cX6_found 2 0 0 D zC ad cA S [.ref (ad 0), .int x1] z := by
  refine z_enter (Qc := fun A => zQl D zC ad cA A z) (by decide +kernel) (Nat.le_of_ble_eq_true rfl) (fun p e s m below meth c A C P ls hl => ?_)
  have hx := C.1
  have hb := C.2.1
  have hl : lv_has ls 2 [(0, .ref (ad 0)), (1, .int x1)] := hl
  unfold f6_found at h
  refine lv_aload_n hx hb dX6_found_0 rfl (lv_at hl 0 rfl) ?_
  refine lv_iload_n hx hb dX6_found_1 rfl (lv_at hl 1 rfl) ?_
  refine pF6_69 C P zs0 rfl dX6_found_2 h (fun S2 H locs h P => ?_)
  refine lv_ldc2 (v := (-9000000000000000010)) hx hb C.2.2.2.1 (C.2.2.2.2.1 _ kK6_276) dX6_found_5 ?_
  refine lv_iload_n hx hb dX6_found_8 rfl (lv_at hl 1 rfl) ?_
  refine lv_i2l hx hb dX6_found_9 rfl ?_
  refine lv_lsub hx hb dX6_found_10 ?_
  exact z_lret C P (Option.some.inj h) dX6_found_11
theorem w2_make_17 (C : zCx p s m args meth c cX2_make 5 RX2 none D ad cA A) {z : Zs} :
    ∀ (n : Nat) (x1 : Int32) (x3 : Int32) (x4 : Int32) (S : Zs) (H : Heap) (locs : List Loc) (ls : Array Slot), f2_make_17 n x1 x3 x4 S = some z → zP D zC ad cA A S s H locs → lv_has ls 5 [(0, .ref (ad 1)), (1, .int x1), (3, .int x3), (4, .int x4)] → W p l e (zrm 0 0) s m args below meth c H locs 0 0 (MQ below (zQv D zC ad cA A z) args s 0 0 A) (F0 m 17 ls []) := by
  have hx := C.1
  have hb := C.2.1
  intro n
  induction n with
  | zero =>
    intro x1 x3 x4 S H locs ls h
    cases h
  | succ n ih =>
    intro x1 x3 x4 S H locs ls h P hl
    unfold f2_make_17 at h
    refine lv_iload hx hb dX2_make_17 (lv_at hl 3 rfl) ?_
    refine lv_iload_n hx hb dX2_make_19 rfl (lv_at hl 2 rfl) ?_
    refine z_icmp_ge (tgt := 39) hx hb dX2_make_20 (by decide) h (fun h => ?_) (fun h => ?_)
    · exact z_vret C P (Option.some.inj h) dX2_make_39
    · refine lv_aload_n hx hb dX2_make_23 rfl (lv_at hl 0 rfl) ?_
      refine gF2_11 C P zs1 rfl dX2_make_24 ?_
      refine lv_iload_n hx hb dX2_make_27 rfl (lv_at hl 1 rfl) ?_
      refine z_aald C P zs2 zs2r zs2g dX2_make_28 h (fun h hg28 => ?_)
      refine lv_iload hx hb dX2_make_29 (lv_at hl 3 rfl) ?_
      refine lv_iconst (v := 0) hx hb dX2_make_31 (by decide) ?_
      refine z_iast C P hg28 dX2_make_32 h (fun S32 H locs h P => ?_)
      obtain ⟨v33, ev33, h⟩ := z_nm h
      refine lv_iinc (v := v33) (lv' := [(4, .int v33), (0, .ref (ad 1)), (1, .int x1), (3, .int x3)]) hx hb dX2_make_33 hl (k := 3) rfl (by rw [ev33]; rfl) (by decide) rfl (fun ls hl => ?_)
      refine lv_goto (tgt := 17) hx hb dX2_make_36 (by decide) ?_
      exact ih _ _ _ _ _ _ _ h P (lv_sub hl [1, 2, 3, 0] rfl)
theorem m2_make {l : Launch} {D : va_G} {cA : Nat → ClassId} {ad : Nat → Nat} {x1 : Int32} {x2 : Int32} {x3 : Int32} {S : Zs} {z : Zs} (h : f2_make x1 x2 x3 S = some z) :
    zMv l yX2_make cX2_make 5 0 0 D zC ad cA S [.ref (ad 1), .int x1, .int x2, .int x3] z := by
  refine z_enter (Qc := fun A => zQv D zC ad cA A z) (by decide +kernel) (Nat.le_of_ble_eq_true rfl) (fun p e s m below meth c A C P ls hl => ?_)
  have hx := C.1
  have hb := C.2.1
  have hl : lv_has ls 5 [(0, .ref (ad 1)), (1, .int x1), (2, .int x2), (3, .int x3)] := hl
  unfold f2_make at h
  refine lv_aload_n hx hb dX2_make_0 rfl (lv_at hl 0 rfl) ?_
  refine gF2_14 C P zs1 rfl dX2_make_1 ?_
  refine lv_iload_n hx hb dX2_make_4 rfl (lv_at hl 1 rfl) ?_
  refine lv_iload_n hx hb dX2_make_5 rfl (lv_at hl 2 rfl) ?_
  refine z_iast C P zs11 dX2_make_6 h (fun S6 H locs h P => ?_)
  refine lv_aload_n hx hb dX2_make_7 rfl (lv_at hl 0 rfl) ?_
  refine gF2_18 C P zs1 rfl dX2_make_8 ?_
  refine lv_iload_n hx hb dX2_make_11 rfl (lv_at hl 1 rfl) ?_
  refine lv_iload_n hx hb dX2_make_12 rfl (lv_at hl 3 rfl) ?_
  refine z_iast C P zs12 dX2_make_13 h (fun S13 H locs h P => ?_)
  refine lv_iconst (v := 0) hx hb dX2_make_14 (by decide) ?_
  refine lv_istore (lv' := [(4, .int (0 : Int32)), (0, .ref (ad 1)), (1, .int x1), (2, .int x2), (3, .int x3)]) hx hb dX2_make_15 hl (by decide) rfl (fun ls hl => ?_)
  exact w2_make_17 C _ _ _ _ _ _ _ _ h P (lv_sub hl [1, 2, 4, 0] rfl)
theorem m6_fine {l : Launch} {D : va_G} {cA : Nat → ClassId} {ad : Nat → Nat} {x1 : Int64} {S : Zs} {z : Int64 × Zs} (h : f6_fine x1 S = some z) :
    zMl l yX6_fine cX6_fine 3 0 0 D zC ad cA S [.ref (ad 0), .long x1] z := by
  refine z_enter (Qc := fun A => zQl D zC ad cA A z) (by decide +kernel) (Nat.le_of_ble_eq_true rfl) (fun p e s m below meth c A C P ls hl => ?_)
  have hx := C.1
  have hb := C.2.1
  have hl : lv_has ls 3 [(0, .ref (ad 0)), (1, .long x1)] := hl
  unfold f6_fine at h
  refine lv_aload_n hx hb dX6_fine_0 rfl (lv_at hl 0 rfl) ?_
  refine lv_iconst (v := 0) hx hb dX6_fine_1 (by decide) ?_
  refine pF6_69 C P zs0 rfl dX6_fine_2 h (fun S2 H locs h P => ?_)
  refine lv_lload_n hx hb dX6_fine_5 rfl (lv_at hl 1 rfl) ?_
  exact z_lret C P (Option.some.inj h) dX6_fine_6
theorem m6_row {l : Launch} {D : va_G} {cA : Nat → ClassId} {ad : Nat → Nat} {x1 : Int32} {x2 : Int32} {x3 : Int32} {S : Zs} {z : Int64 × Zs} (h : f6_row x1 x2 x3 S = some z) :
    zMl l yX6_row cX6_row 4 1 24 D zC ad cA S [.ref (ad 0), .int x1, .int x2, .int x3] z := by
  refine z_enter (Qc := fun A => zQl D zC ad cA A z) (by decide +kernel) (Nat.le_of_ble_eq_true rfl) (fun p e s m below meth c A C P ls hl => ?_)
  have hx := C.1
  have hb := C.2.1
  have hl : lv_has ls 4 [(0, .ref (ad 0)), (1, .int x1), (2, .int x2), (3, .int x3)] := hl
  unfold f6_row at h
  refine lv_iload_n hx hb dX6_row_0 rfl (lv_at hl 1 rfl) ?_
  refine z_callSb C P (As := [.int x1]) (m2_isRow) cW6_73 rfl (by decide) hl.1 rfl (Nat.le_of_ble_eq_true rfl) dX6_row_1 ⟨Nat.zero_le _, Nat.zero_le _⟩ (fun H locs n1 P => ?_)
  refine z_if_eq (tgt := 20) hx hb dX6_row_4 (by decide) h (fun h => ?_) (fun h => ?_)
  · refine lv_ldc2 (v := (-9000000000000000001)) hx hb C.2.2.2.1 (C.2.2.2.2.1 _ kK6_80) dX6_row_20 ?_
    exact z_lret C P (Option.some.inj h) dX6_row_23
  · refine lv_iload_n hx hb dX6_row_7 rfl (lv_at hl 2 rfl) ?_
    refine z_callSb C P (As := [.int x2]) (m2_isLane) cW6_77 rfl (by decide) hl.1 rfl (Nat.le_of_ble_eq_true rfl) dX6_row_8 ⟨Nat.zero_le _, Nat.zero_le _⟩ (fun H locs n8 P => ?_)
    refine z_if_eq (tgt := 20) hx hb dX6_row_11 (by decide) h (fun h => ?_) (fun h => ?_)
    · refine lv_ldc2 (v := (-9000000000000000001)) hx hb C.2.2.2.1 (C.2.2.2.2.1 _ kK6_80) dX6_row_20 ?_
      exact z_lret C P (Option.some.inj h) dX6_row_23
    · refine lv_iload_n hx hb dX6_row_14 rfl (lv_at hl 3 rfl) ?_
      refine lv_bipush (v := 40) hx hb dX6_row_15 (by decide) ?_
      refine z_icmp_le (tgt := 24) hx hb dX6_row_17 (by decide) h (fun h => ?_) (fun h => ?_)
      · refine lv_iload_n hx hb dX6_row_24 rfl (lv_at hl 3 rfl) ?_
        refine z_if_ge (tgt := 34) hx hb dX6_row_25 (by decide) h (fun h => ?_) (fun h => ?_)
        · refine lv_aload_n hx hb dX6_row_34 rfl (lv_at hl 0 rfl) ?_
          refine gF6_12 C P zs0 rfl dX6_row_35 ?_
          refine lv_iload_n hx hb dX6_row_38 rfl (lv_at hl 1 rfl) ?_
          refine lv_iload_n hx hb dX6_row_39 rfl (lv_at hl 2 rfl) ?_
          refine lv_iload_n hx hb dX6_row_40 rfl (lv_at hl 3 rfl) ?_
          obtain ⟨S41, g41, h⟩ := bd1_some h
          refine z_callVv C P (As := [.int x1, .int x2, .int x3]) (m2_make g41) cW6_86 rfl zs1 rfl (by decide) hl.1 rfl (Nat.le_of_ble_eq_true rfl) dX6_row_41 ⟨Nat.zero_le _, Nat.zero_le _⟩ (fun H locs P => ?_)
          refine lv_aload_n hx hb dX6_row_44 rfl (lv_at hl 0 rfl) ?_
          refine lv_iload_n hx hb dX6_row_45 rfl (lv_at hl 3 rfl) ?_
          refine lv_i2l hx hb dX6_row_46 rfl ?_
          obtain ⟨r47, S47, g47, h⟩ := bd2_some h
          refine z_callVl C P (As := [.long x3.toInt64]) (m6_fine g47) cW6_90 rfl zs0 rfl (by decide) hl.1 rfl (Nat.le_of_ble_eq_true rfl) dX6_row_47 ⟨Nat.zero_le _, Nat.zero_le _⟩ (fun H locs P => ?_)
          exact z_lret C P (Option.some.inj h) dX6_row_50
        · refine lv_aload_n hx hb dX6_row_28 rfl (lv_at hl 0 rfl) ?_
          refine lv_iconst (v := 4) hx hb dX6_row_29 (by decide) ?_
          obtain ⟨r30, S30, g30, h⟩ := bd2_some h
          refine z_callVl C P (As := [.int (4 : Int32)]) (m6_found g30) cW6_82 rfl zs0 rfl (by decide) hl.1 rfl (Nat.le_of_ble_eq_true rfl) dX6_row_30 ⟨Nat.zero_le _, Nat.zero_le _⟩ (fun H locs P => ?_)
          exact z_lret C P (Option.some.inj h) dX6_row_33
      · refine lv_ldc2 (v := (-9000000000000000001)) hx hb C.2.2.2.1 (C.2.2.2.2.1 _ kK6_80) dX6_row_20 ?_
        exact z_lret C P (Option.some.inj h) dX6_row_23
theorem m2_isMissing {l : Launch} {D : va_G} {cA : Nat → ClassId} {ad : Nat → Nat} {x1 : Int32} {S : Zs} {z : Int32} (h : f2_isMissing S x1 = some z) :
    zMb l yX2_isMissing cX2_isMissing 2 0 0 D zC ad cA S [.ref (ad 1), .int x1] (z, S) := by
  refine z_enter (Qc := fun A => zQb D zC ad cA A (z, S)) (by decide +kernel) (Nat.le_of_ble_eq_true rfl) (fun p e s m below meth c A C P ls hl => ?_)
  have hx := C.1
  have hb := C.2.1
  have hl : lv_has ls 2 [(0, .ref (ad 1)), (1, .int x1)] := hl
  unfold f2_isMissing at h
  refine lv_aload_n hx hb dX2_isMissing_0 rfl (lv_at hl 0 rfl) ?_
  refine gF2_18 C P zs1 rfl dX2_isMissing_1 ?_
  refine lv_iload_n hx hb dX2_isMissing_4 rfl (lv_at hl 1 rfl) ?_
  refine z_iald C P zs12 dX2_isMissing_5 h (fun h hi => ?_)
  refine lv_iconst (v := (-1)) hx hb dX2_isMissing_6 (by decide) ?_
  refine z_icmp_ne (tgt := 14) hx hb dX2_isMissing_7 (by decide) h (fun h => ?_) (fun h => ?_)
  · refine lv_iconst (v := 0) hx hb dX2_isMissing_14 (by decide) ?_
    exact z_zret C P (by rw [Option.some.inj h]) (by decide) dX2_isMissing_15
  · refine lv_iconst (v := 1) hx hb dX2_isMissing_10 (by decide) ?_
    refine lv_goto (tgt := 15) hx hb dX2_isMissing_11 (by decide) ?_
    exact z_zret C P (by rw [Option.some.inj h]) (by decide) dX2_isMissing_15
theorem m2_has {l : Launch} {D : va_G} {cA : Nat → ClassId} {ad : Nat → Nat} {x1 : Int32} {x2 : Int32} {x3 : Int32} {S : Zs} {z : Int32} (h : f2_has S x1 x2 x3 = some z) :
    zMb l yX2_has cX2_has 4 0 0 D zC ad cA S [.ref (ad 1), .int x1, .int x2, .int x3] (z, S) := by
  refine z_enter (Qc := fun A => zQb D zC ad cA A (z, S)) (by decide +kernel) (Nat.le_of_ble_eq_true rfl) (fun p e s m below meth c A C P ls hl => ?_)
  have hx := C.1
  have hb := C.2.1
  have hl : lv_has ls 4 [(0, .ref (ad 1)), (1, .int x1), (2, .int x2), (3, .int x3)] := hl
  unfold f2_has at h
  refine lv_iload_n hx hb dX2_has_0 rfl (lv_at hl 2 rfl) ?_
  refine z_if_lt (tgt := 34) hx hb dX2_has_1 (by decide) h (fun h => ?_) (fun h => ?_)
  · refine lv_iconst (v := 0) hx hb dX2_has_34 (by decide) ?_
    exact z_zret C P (by rw [Option.some.inj h]) (by decide) dX2_has_35
  · refine lv_iload_n hx hb dX2_has_4 rfl (lv_at hl 3 rfl) ?_
    refine z_if_lt (tgt := 34) hx hb dX2_has_5 (by decide) h (fun h => ?_) (fun h => ?_)
    · refine lv_iconst (v := 0) hx hb dX2_has_34 (by decide) ?_
      exact z_zret C P (by rw [Option.some.inj h]) (by decide) dX2_has_35
    · refine lv_iload_n hx hb dX2_has_8 rfl (lv_at hl 3 rfl) ?_
      refine lv_aload_n hx hb dX2_has_9 rfl (lv_at hl 0 rfl) ?_
      refine gF2_18 C P zs1 rfl dX2_has_10 ?_
      refine lv_iload_n hx hb dX2_has_13 rfl (lv_at hl 1 rfl) ?_
      refine z_iald C P zs12 dX2_has_14 h (fun h hi => ?_)
      refine z_icmp_gt (tgt := 34) hx hb dX2_has_15 (by decide) h (fun h => ?_) (fun h => ?_)
      · refine lv_iconst (v := 0) hx hb dX2_has_34 (by decide) ?_
        exact z_zret C P (by rw [Option.some.inj h]) (by decide) dX2_has_35
      · refine lv_iload_n hx hb dX2_has_18 rfl (lv_at hl 2 rfl) ?_
        refine lv_aload_n hx hb dX2_has_19 rfl (lv_at hl 0 rfl) ?_
        refine gF2_18 C P zs1 rfl dX2_has_20 ?_
        refine lv_iload_n hx hb dX2_has_23 rfl (lv_at hl 1 rfl) ?_
        refine z_iald C P zs12 dX2_has_24 h (fun h hi => ?_)
        refine lv_iload_n hx hb dX2_has_25 rfl (lv_at hl 3 rfl) ?_
        refine lv_isub hx hb dX2_has_26 ?_
        refine z_icmp_gt (tgt := 34) hx hb dX2_has_27 (by decide) h (fun h => ?_) (fun h => ?_)
        · refine lv_iconst (v := 0) hx hb dX2_has_34 (by decide) ?_
          exact z_zret C P (by rw [Option.some.inj h]) (by decide) dX2_has_35
        · refine lv_iconst (v := 1) hx hb dX2_has_30 (by decide) ?_
          refine lv_goto (tgt := 35) hx hb dX2_has_31 (by decide) ?_
          exact z_zret C P (by rw [Option.some.inj h]) (by decide) dX2_has_35
theorem w2_put_33 (C : zCx p s m args meth c cX2_put 5 RX2 (some .int) D ad cA A) {z : Int32 × Zs} (x1 : Int32) (x2 : Int32) (x4 : Int32) (S : Zs) (H : Heap) (locs : List Loc) (ls : Array Slot) (h : f2_put_33 x1 x2 x4 S = some z) (P : zP D zC ad cA A S s H locs) (hl : lv_has ls 5 [(0, .ref (ad 1)), (1, .int x1), (2, .int x2), (4, .int x4)]) :
    W p l e (zrm 0 0) s m args below meth c H locs 0 0 (MQ below (zQi D zC ad cA A z) args s 0 0 A) (F0 m 33 ls []) := by
  have hx := C.1
  have hb := C.2.1
  unfold f2_put_33 at h
  refine lv_aload_n hx hb dX2_put_33 rfl (lv_at hl 0 rfl) ?_
  refine gF2_11 C P zs1 rfl dX2_put_34 ?_
  refine lv_iload_n hx hb dX2_put_37 rfl (lv_at hl 1 rfl) ?_
  refine z_aald C P zs2 zs2r zs2g dX2_put_38 h (fun h hg38 => ?_)
  refine lv_iload_n hx hb dX2_put_39 rfl (lv_at hl 2 rfl) ?_
  refine lv_iload hx hb dX2_put_40 (lv_at hl 3 rfl) ?_
  refine z_iast C P hg38 dX2_put_42 h (fun S42 H locs h P => ?_)
  refine lv_iload hx hb dX2_put_43 (lv_at hl 3 rfl) ?_
  exact z_iret C P (Option.some.inj h) dX2_put_45
theorem m2_put {l : Launch} {D : va_G} {cA : Nat → ClassId} {ad : Nat → Nat} {x1 : Int32} {x2 : Int32} {x3 : Int32} {S : Zs} {z : Int32 × Zs} (h : f2_put x1 x2 x3 S = some z) :
    zMi l yX2_put cX2_put 5 0 0 D zC ad cA S [.ref (ad 1), .int x1, .int x2, .int x3] z := by
  refine z_enter (Qc := fun A => zQi D zC ad cA A z) (by decide +kernel) (Nat.le_of_ble_eq_true rfl) (fun p e s m below meth c A C P ls hl => ?_)
  have hx := C.1
  have hb := C.2.1
  have hl : lv_has ls 5 [(0, .ref (ad 1)), (1, .int x1), (2, .int x2), (3, .int x3)] := hl
  unfold f2_put at h
  refine lv_iload_n hx hb dX2_put_0 rfl (lv_at hl 3 rfl) ?_
  refine lv_istore (lv' := [(4, .int x3), (0, .ref (ad 1)), (1, .int x1), (2, .int x2), (3, .int x3)]) hx hb dX2_put_1 hl (by decide) rfl (fun ls hl => ?_)
  refine lv_aload_n hx hb dX2_put_3 rfl (lv_at hl 1 rfl) ?_
  refine gF2_14 C P zs1 rfl dX2_put_4 ?_
  refine lv_iload_n hx hb dX2_put_7 rfl (lv_at hl 2 rfl) ?_
  refine z_iald C P zs11 dX2_put_8 h (fun h hi => ?_)
  refine z_if_ne (tgt := 19) hx hb dX2_put_9 (by decide) h (fun h => ?_) (fun h => ?_)
  · refine lv_aload_n hx hb dX2_put_19 rfl (lv_at hl 1 rfl) ?_
    refine gF2_14 C P zs1 rfl dX2_put_20 ?_
    refine lv_iload_n hx hb dX2_put_23 rfl (lv_at hl 2 rfl) ?_
    refine z_iald C P zs11 dX2_put_24 h (fun h hi => ?_)
    refine lv_iconst (v := 1) hx hb dX2_put_25 (by decide) ?_
    refine z_icmp_ne (tgt := 33) hx hb dX2_put_26 (by decide) h (fun h => ?_) (fun h => ?_)
    · exact w2_put_33 C _ _ _ _ _ _ _ h P (lv_sub hl [1, 2, 3, 0] rfl)
    · refine lv_iload_n hx hb dX2_put_29 rfl (lv_at hl 4 rfl) ?_
      refine lv_i2s hx hb dX2_put_30 rfl ?_
      refine z_topi h (fun v31 h => ?_)
      refine lv_istore (lv' := [(4, .int v31), (0, .ref (ad 1)), (1, .int x1), (2, .int x2), (3, .int x3)]) hx hb dX2_put_31 hl (by decide) rfl (fun ls hl => ?_)
      exact w2_put_33 C _ _ _ _ _ _ _ h P (lv_sub hl [1, 2, 3, 0] rfl)
  · refine lv_iload_n hx hb dX2_put_12 rfl (lv_at hl 4 rfl) ?_
    refine lv_i2b hx hb dX2_put_13 rfl ?_
    refine z_topi h (fun v14 h => ?_)
    refine lv_istore (lv' := [(4, .int v14), (0, .ref (ad 1)), (1, .int x1), (2, .int x2), (3, .int x3)]) hx hb dX2_put_14 hl (by decide) rfl (fun ls hl => ?_)
    refine lv_goto (tgt := 33) hx hb dX2_put_16 (by decide) ?_
    exact w2_put_33 C _ _ _ _ _ _ _ h P (lv_sub hl [1, 2, 3, 0] rfl)
theorem m6_set {l : Launch} {D : va_G} {cA : Nat → ClassId} {ad : Nat → Nat} {x1 : Int32} {x2 : Int32} {x3 : Int32} {S : Zs} {z : Int64 × Zs} (h : f6_set x1 x2 x3 S = some z) :
    zMl l yX6_set cX6_set 4 1 24 D zC ad cA S [.ref (ad 0), .int x1, .int x2, .int x3] z := by
  refine z_enter (Qc := fun A => zQl D zC ad cA A z) (by decide +kernel) (Nat.le_of_ble_eq_true rfl) (fun p e s m below meth c A C P ls hl => ?_)
  have hx := C.1
  have hb := C.2.1
  have hl : lv_has ls 4 [(0, .ref (ad 0)), (1, .int x1), (2, .int x2), (3, .int x3)] := hl
  unfold f6_set at h
  refine lv_iload_n hx hb dX6_set_0 rfl (lv_at hl 1 rfl) ?_
  refine z_callSb C P (As := [.int x1]) (m2_isRow) cW6_73 rfl (by decide) hl.1 rfl (Nat.le_of_ble_eq_true rfl) dX6_set_1 ⟨Nat.zero_le _, Nat.zero_le _⟩ (fun H locs n1 P => ?_)
  refine z_if_ne (tgt := 11) hx hb dX6_set_4 (by decide) h (fun h => ?_) (fun h => ?_)
  · refine lv_aload_n hx hb dX6_set_11 rfl (lv_at hl 0 rfl) ?_
    refine gF6_12 C P zs0 rfl dX6_set_12 ?_
    refine lv_iload_n hx hb dX6_set_15 rfl (lv_at hl 1 rfl) ?_
    obtain ⟨r16, g16, h⟩ := bd1_some h
    refine z_callVb C P (As := [.int x1]) (m2_isMissing g16) cW6_94 rfl zs1 rfl (by decide) hl.1 rfl (Nat.le_of_ble_eq_true rfl) dX6_set_16 ⟨Nat.zero_le _, Nat.zero_le _⟩ (fun H locs n16 P => ?_)
    refine z_if_eq (tgt := 28) hx hb dX6_set_19 (by decide) h (fun h => ?_) (fun h => ?_)
    · refine lv_aload_n hx hb dX6_set_28 rfl (lv_at hl 0 rfl) ?_
      refine gF6_12 C P zs0 rfl dX6_set_29 ?_
      refine lv_iload_n hx hb dX6_set_32 rfl (lv_at hl 1 rfl) ?_
      refine lv_iload_n hx hb dX6_set_33 rfl (lv_at hl 2 rfl) ?_
      refine lv_iconst (v := 1) hx hb dX6_set_34 (by decide) ?_
      obtain ⟨r35, g35, h⟩ := bd1_some h
      refine z_callVb C P (As := [.int x1, .int x2, .int (1 : Int32)]) (m2_has g35) cW6_97 rfl zs1 rfl (by decide) hl.1 rfl (Nat.le_of_ble_eq_true rfl) dX6_set_35 ⟨Nat.zero_le _, Nat.zero_le _⟩ (fun H locs n35 P => ?_)
      refine z_if_ne (tgt := 47) hx hb dX6_set_38 (by decide) h (fun h => ?_) (fun h => ?_)
      · refine lv_aload_n hx hb dX6_set_47 rfl (lv_at hl 0 rfl) ?_
        refine lv_aload_n hx hb dX6_set_48 rfl (lv_at hl 0 rfl) ?_
        refine gF6_12 C P zs0 rfl dX6_set_49 ?_
        refine lv_iload_n hx hb dX6_set_52 rfl (lv_at hl 1 rfl) ?_
        refine lv_iload_n hx hb dX6_set_53 rfl (lv_at hl 2 rfl) ?_
        refine lv_iload_n hx hb dX6_set_54 rfl (lv_at hl 3 rfl) ?_
        obtain ⟨r55, S55, g55, h⟩ := bd2_some h
        refine z_callVi C P (As := [.int x1, .int x2, .int x3]) (m2_put g55) cW6_101 rfl zs1 rfl (by decide) hl.1 rfl (Nat.le_of_ble_eq_true rfl) dX6_set_55 ⟨Nat.zero_le _, Nat.zero_le _⟩ (fun H locs P => ?_)
        refine lv_i2l hx hb dX6_set_58 rfl ?_
        obtain ⟨r59, S59, g59, h⟩ := bd2_some h
        refine z_callVl C P (As := [.long r55.toInt64]) (m6_fine g59) cW6_90 rfl zs0 rfl (by decide) hl.1 rfl (Nat.le_of_ble_eq_true rfl) dX6_set_59 ⟨Nat.zero_le _, Nat.zero_le _⟩ (fun H locs P => ?_)
        exact z_lret C P (Option.some.inj h) dX6_set_62
      · refine lv_aload_n hx hb dX6_set_41 rfl (lv_at hl 0 rfl) ?_
        refine lv_iconst (v := 2) hx hb dX6_set_42 (by decide) ?_
        obtain ⟨r43, S43, g43, h⟩ := bd2_some h
        refine z_callVl C P (As := [.int (2 : Int32)]) (m6_found g43) cW6_82 rfl zs0 rfl (by decide) hl.1 rfl (Nat.le_of_ble_eq_true rfl) dX6_set_43 ⟨Nat.zero_le _, Nat.zero_le _⟩ (fun H locs P => ?_)
        exact z_lret C P (Option.some.inj h) dX6_set_46
    · refine lv_aload_n hx hb dX6_set_22 rfl (lv_at hl 0 rfl) ?_
      refine lv_iconst (v := 1) hx hb dX6_set_23 (by decide) ?_
      obtain ⟨r24, S24, g24, h⟩ := bd2_some h
      refine z_callVl C P (As := [.int (1 : Int32)]) (m6_found g24) cW6_82 rfl zs0 rfl (by decide) hl.1 rfl (Nat.le_of_ble_eq_true rfl) dX6_set_24 ⟨Nat.zero_le _, Nat.zero_le _⟩ (fun H locs P => ?_)
      exact z_lret C P (Option.some.inj h) dX6_set_27
  · refine lv_ldc2 (v := (-9000000000000000001)) hx hb C.2.2.2.1 (C.2.2.2.2.1 _ kK6_80) dX6_set_7 ?_
    exact z_lret C P (Option.some.inj h) dX6_set_10
theorem m2_sameLane {l : Launch} {D : va_G} {cA : Nat → ClassId} {ad : Nat → Nat} {x1 : Int32} {x2 : Int32} {S : Zs} {z : Int32} (h : f2_sameLane S x1 x2 = some z) :
    zMb l yX2_sameLane cX2_sameLane 3 0 0 D zC ad cA S [.ref (ad 1), .int x1, .int x2] (z, S) := by
  refine z_enter (Qc := fun A => zQb D zC ad cA A (z, S)) (by decide +kernel) (Nat.le_of_ble_eq_true rfl) (fun p e s m below meth c A C P ls hl => ?_)
  have hx := C.1
  have hb := C.2.1
  have hl : lv_has ls 3 [(0, .ref (ad 1)), (1, .int x1), (2, .int x2)] := hl
  unfold f2_sameLane at h
  refine lv_aload_n hx hb dX2_sameLane_0 rfl (lv_at hl 0 rfl) ?_
  refine gF2_14 C P zs1 rfl dX2_sameLane_1 ?_
  refine lv_iload_n hx hb dX2_sameLane_4 rfl (lv_at hl 1 rfl) ?_
  refine z_iald C P zs11 dX2_sameLane_5 h (fun h hi => ?_)
  refine lv_aload_n hx hb dX2_sameLane_6 rfl (lv_at hl 0 rfl) ?_
  refine gF2_14 C P zs1 rfl dX2_sameLane_7 ?_
  refine lv_iload_n hx hb dX2_sameLane_10 rfl (lv_at hl 2 rfl) ?_
  refine z_iald C P zs11 dX2_sameLane_11 h (fun h hi => ?_)
  refine z_icmp_ne (tgt := 19) hx hb dX2_sameLane_12 (by decide) h (fun h => ?_) (fun h => ?_)
  · refine lv_iconst (v := 0) hx hb dX2_sameLane_19 (by decide) ?_
    exact z_zret C P (by rw [Option.some.inj h]) (by decide) dX2_sameLane_20
  · refine lv_iconst (v := 1) hx hb dX2_sameLane_15 (by decide) ?_
    refine lv_goto (tgt := 20) hx hb dX2_sameLane_16 (by decide) ?_
    exact z_zret C P (by rw [Option.some.inj h]) (by decide) dX2_sameLane_20
theorem m2_carry {l : Launch} {D : va_G} {cA : Nat → ClassId} {ad : Nat → Nat} {x1 : Int32} {x2 : Int32} {x3 : Int32} {x4 : Int32} {x5 : Int32} {S : Zs} {z : Zs} (h : f2_carry x1 x2 x3 x4 x5 S = some z) :
    zMv l yX2_carry cX2_carry 6 1 68 D zC ad cA S [.ref (ad 1), .int x1, .int x2, .int x3, .int x4, .int x5] z := by
  refine z_enter (Qc := fun A => zQv D zC ad cA A z) (by decide +kernel) (Nat.le_of_ble_eq_true rfl) (fun p e s m below meth c A C P ls hl => ?_)
  have hx := C.1
  have hb := C.2.1
  have hl : lv_has ls 6 [(0, .ref (ad 1)), (1, .int x1), (2, .int x2), (3, .int x3), (4, .int x4), (5, .int x5)] := hl
  unfold f2_carry at h
  refine lv_aload_n hx hb dX2_carry_0 rfl (lv_at hl 0 rfl) ?_
  refine gF2_11 C P zs1 rfl dX2_carry_1 ?_
  refine lv_iload_n hx hb dX2_carry_4 rfl (lv_at hl 1 rfl) ?_
  refine z_aald C P zs2 zs2r zs2g dX2_carry_5 h (fun h hg5 => ?_)
  refine lv_iload_n hx hb dX2_carry_6 rfl (lv_at hl 2 rfl) ?_
  refine lv_aload_n hx hb dX2_carry_7 rfl (lv_at hl 0 rfl) ?_
  refine gF2_11 C P zs1 rfl dX2_carry_8 ?_
  refine lv_iload_n hx hb dX2_carry_11 rfl (lv_at hl 3 rfl) ?_
  refine z_aald C P zs2 zs2r zs2g dX2_carry_12 h (fun h hg12 => ?_)
  refine lv_iload hx hb dX2_carry_13 (lv_at hl 4 rfl) ?_
  refine lv_iload hx hb dX2_carry_15 (lv_at hl 5 rfl) ?_
  refine z_acpI C P zacp2_21 hg5 hg12 (by decide) hl.1 (Nat.le_of_ble_eq_true rfl) dX2_carry_17 h (fun S17 H locs h P => ?_)
  exact z_vret C P (Option.some.inj h) dX2_carry_20
theorem w6_copy_40 (C : zCx p s m args meth c cX6_copy 6 RX6 (some .long) D ad cA A) {z : Int64 × Zs} (S : Zs) (H : Heap) (locs : List Loc) (ls : Array Slot) (h : f6_copy_40 S = some z) (P : zP D zC ad cA A S s H locs) (hl : lv_has ls 6 [(0, .ref (ad 0))]) :
    W p l e (zrm 2 93) s m args below meth c H locs 0 0 (MQ below (zQl D zC ad cA A z) args s 0 0 A) (F0 m 40 ls []) := by
  have hx := C.1
  have hb := C.2.1
  unfold f6_copy_40 at h
  refine lv_aload_n hx hb dX6_copy_40 rfl (lv_at hl 0 rfl) ?_
  refine lv_iconst (v := 1) hx hb dX6_copy_41 (by decide) ?_
  obtain ⟨r42, S42, g42, h⟩ := bd2_some h
  refine z_callVl C P (As := [.int (1 : Int32)]) (m6_found g42) cW6_82 rfl zs0 rfl (by decide) hl.1 rfl (Nat.le_of_ble_eq_true rfl) dX6_copy_42 ⟨Nat.zero_le _, Nat.zero_le _⟩ (fun H locs P => ?_)
  exact z_lret C P (Option.some.inj h) dX6_copy_45
theorem w6_copy_93 (C : zCx p s m args meth c cX6_copy 6 RX6 (some .long) D ad cA A) {z : Int64 × Zs} (S : Zs) (H : Heap) (locs : List Loc) (ls : Array Slot) (h : f6_copy_93 S = some z) (P : zP D zC ad cA A S s H locs) (hl : lv_has ls 6 [(0, .ref (ad 0))]) :
    W p l e (zrm 2 93) s m args below meth c H locs 0 0 (MQ below (zQl D zC ad cA A z) args s 0 0 A) (F0 m 93 ls []) := by
  have hx := C.1
  have hb := C.2.1
  unfold f6_copy_93 at h
  refine lv_aload_n hx hb dX6_copy_93 rfl (lv_at hl 0 rfl) ?_
  refine lv_iconst (v := 2) hx hb dX6_copy_94 (by decide) ?_
  obtain ⟨r95, S95, g95, h⟩ := bd2_some h
  refine z_callVl C P (As := [.int (2 : Int32)]) (m6_found g95) cW6_82 rfl zs0 rfl (by decide) hl.1 rfl (Nat.le_of_ble_eq_true rfl) dX6_copy_95 ⟨Nat.zero_le _, Nat.zero_le _⟩ (fun H locs P => ?_)
  exact z_lret C P (Option.some.inj h) dX6_copy_98
theorem m6_copy {l : Launch} {D : va_G} {cA : Nat → ClassId} {ad : Nat → Nat} {x1 : Int32} {x2 : Int32} {x3 : Int32} {x4 : Int32} {x5 : Int32} {S : Zs} {z : Int64 × Zs} (h : f6_copy x1 x2 x3 x4 x5 S = some z) :
    zMl l yX6_copy cX6_copy 6 2 93 D zC ad cA S [.ref (ad 0), .int x1, .int x2, .int x3, .int x4, .int x5] z := by
  refine z_enter (Qc := fun A => zQl D zC ad cA A z) (by decide +kernel) (Nat.le_of_ble_eq_true rfl) (fun p e s m below meth c A C P ls hl => ?_)
  have hx := C.1
  have hb := C.2.1
  have hl : lv_has ls 6 [(0, .ref (ad 0)), (1, .int x1), (2, .int x2), (3, .int x3), (4, .int x4), (5, .int x5)] := hl
  unfold f6_copy at h
  refine lv_iload_n hx hb dX6_copy_0 rfl (lv_at hl 1 rfl) ?_
  refine z_callSb C P (As := [.int x1]) (m2_isRow) cW6_73 rfl (by decide) hl.1 rfl (Nat.le_of_ble_eq_true rfl) dX6_copy_1 ⟨Nat.zero_le _, Nat.zero_le _⟩ (fun H locs n1 P => ?_)
  refine z_if_eq (tgt := 14) hx hb dX6_copy_4 (by decide) h (fun h => ?_) (fun h => ?_)
  · refine lv_ldc2 (v := (-9000000000000000001)) hx hb C.2.2.2.1 (C.2.2.2.2.1 _ kK6_80) dX6_copy_14 ?_
    exact z_lret C P (Option.some.inj h) dX6_copy_17
  · refine lv_iload_n hx hb dX6_copy_7 rfl (lv_at hl 3 rfl) ?_
    refine z_callSb C P (As := [.int x3]) (m2_isRow) cW6_73 rfl (by decide) hl.1 rfl (Nat.le_of_ble_eq_true rfl) dX6_copy_8 ⟨Nat.zero_le _, Nat.zero_le _⟩ (fun H locs n8 P => ?_)
    refine z_if_ne (tgt := 18) hx hb dX6_copy_11 (by decide) h (fun h => ?_) (fun h => ?_)
    · refine lv_aload_n hx hb dX6_copy_18 rfl (lv_at hl 0 rfl) ?_
      refine gF6_12 C P zs0 rfl dX6_copy_19 ?_
      refine lv_iload_n hx hb dX6_copy_22 rfl (lv_at hl 1 rfl) ?_
      obtain ⟨r23, g23, h⟩ := bd1_some h
      refine z_callVb C P (As := [.int x1]) (m2_isMissing g23) cW6_94 rfl zs1 rfl (by decide) hl.1 rfl (Nat.le_of_ble_eq_true rfl) dX6_copy_23 ⟨Nat.zero_le _, Nat.zero_le _⟩ (fun H locs n23 P => ?_)
      refine z_if_ne (tgt := 40) hx hb dX6_copy_26 (by decide) h (fun h => ?_) (fun h => ?_)
      · exact w6_copy_40 C _ _ _ _ h P (lv_sub hl [0] rfl)
      · refine lv_aload_n hx hb dX6_copy_29 rfl (lv_at hl 0 rfl) ?_
        refine gF6_12 C P zs0 rfl dX6_copy_30 ?_
        refine lv_iload_n hx hb dX6_copy_33 rfl (lv_at hl 3 rfl) ?_
        obtain ⟨r34, g34, h⟩ := bd1_some h
        refine z_callVb C P (As := [.int x3]) (m2_isMissing g34) cW6_94 rfl zs1 rfl (by decide) hl.1 rfl (Nat.le_of_ble_eq_true rfl) dX6_copy_34 ⟨Nat.zero_le _, Nat.zero_le _⟩ (fun H locs n34 P => ?_)
        refine z_if_eq (tgt := 46) hx hb dX6_copy_37 (by decide) h (fun h => ?_) (fun h => ?_)
        · refine lv_aload_n hx hb dX6_copy_46 rfl (lv_at hl 0 rfl) ?_
          refine gF6_12 C P zs0 rfl dX6_copy_47 ?_
          refine lv_iload_n hx hb dX6_copy_50 rfl (lv_at hl 1 rfl) ?_
          refine lv_iload_n hx hb dX6_copy_51 rfl (lv_at hl 3 rfl) ?_
          obtain ⟨r52, g52, h⟩ := bd1_some h
          refine z_callVb C P (As := [.int x1, .int x3]) (m2_sameLane g52) cW6_105 rfl zs1 rfl (by decide) hl.1 rfl (Nat.le_of_ble_eq_true rfl) dX6_copy_52 ⟨Nat.zero_le _, Nat.zero_le _⟩ (fun H locs n52 P => ?_)
          refine z_if_ne (tgt := 64) hx hb dX6_copy_55 (by decide) h (fun h => ?_) (fun h => ?_)
          · refine lv_aload_n hx hb dX6_copy_64 rfl (lv_at hl 0 rfl) ?_
            refine gF6_12 C P zs0 rfl dX6_copy_65 ?_
            refine lv_iload_n hx hb dX6_copy_68 rfl (lv_at hl 1 rfl) ?_
            refine lv_iload_n hx hb dX6_copy_69 rfl (lv_at hl 2 rfl) ?_
            refine lv_iload hx hb dX6_copy_70 (lv_at hl 5 rfl) ?_
            obtain ⟨r72, g72, h⟩ := bd1_some h
            refine z_callVb C P (As := [.int x1, .int x2, .int x5]) (m2_has g72) cW6_97 rfl zs1 rfl (by decide) hl.1 rfl (Nat.le_of_ble_eq_true rfl) dX6_copy_72 ⟨Nat.zero_le _, Nat.zero_le _⟩ (fun H locs n72 P => ?_)
            refine z_if_eq (tgt := 93) hx hb dX6_copy_75 (by decide) h (fun h => ?_) (fun h => ?_)
            · exact w6_copy_93 C _ _ _ _ h P (lv_sub hl [0] rfl)
            · refine lv_aload_n hx hb dX6_copy_78 rfl (lv_at hl 0 rfl) ?_
              refine gF6_12 C P zs0 rfl dX6_copy_79 ?_
              refine lv_iload_n hx hb dX6_copy_82 rfl (lv_at hl 3 rfl) ?_
              refine lv_iload hx hb dX6_copy_83 (lv_at hl 4 rfl) ?_
              refine lv_iload hx hb dX6_copy_85 (lv_at hl 5 rfl) ?_
              obtain ⟨r87, g87, h⟩ := bd1_some h
              refine z_callVb C P (As := [.int x3, .int x4, .int x5]) (m2_has g87) cW6_97 rfl zs1 rfl (by decide) hl.1 rfl (Nat.le_of_ble_eq_true rfl) dX6_copy_87 ⟨Nat.zero_le _, Nat.zero_le _⟩ (fun H locs n87 P => ?_)
              refine z_if_ne (tgt := 99) hx hb dX6_copy_90 (by decide) h (fun h => ?_) (fun h => ?_)
              · refine lv_aload_n hx hb dX6_copy_99 rfl (lv_at hl 0 rfl) ?_
                refine gF6_12 C P zs0 rfl dX6_copy_100 ?_
                refine lv_iload_n hx hb dX6_copy_103 rfl (lv_at hl 1 rfl) ?_
                refine lv_iload_n hx hb dX6_copy_104 rfl (lv_at hl 2 rfl) ?_
                refine lv_iload_n hx hb dX6_copy_105 rfl (lv_at hl 3 rfl) ?_
                refine lv_iload hx hb dX6_copy_106 (lv_at hl 4 rfl) ?_
                refine lv_iload hx hb dX6_copy_108 (lv_at hl 5 rfl) ?_
                obtain ⟨S110, g110, h⟩ := bd1_some h
                refine z_callVv C P (As := [.int x1, .int x2, .int x3, .int x4, .int x5]) (m2_carry g110) cW6_109 rfl zs1 rfl (by decide) hl.1 rfl (Nat.le_of_ble_eq_true rfl) dX6_copy_110 ⟨Nat.zero_le _, Nat.zero_le _⟩ (fun H locs P => ?_)
                refine lv_aload_n hx hb dX6_copy_113 rfl (lv_at hl 0 rfl) ?_
                refine lv_iload hx hb dX6_copy_114 (lv_at hl 5 rfl) ?_
                refine lv_i2l hx hb dX6_copy_116 rfl ?_
                obtain ⟨r117, S117, g117, h⟩ := bd2_some h
                refine z_callVl C P (As := [.long x5.toInt64]) (m6_fine g117) cW6_90 rfl zs0 rfl (by decide) hl.1 rfl (Nat.le_of_ble_eq_true rfl) dX6_copy_117 ⟨Nat.zero_le _, Nat.zero_le _⟩ (fun H locs P => ?_)
                exact z_lret C P (Option.some.inj h) dX6_copy_120
              · exact w6_copy_93 C _ _ _ _ h P (lv_sub hl [0] rfl)
          · refine lv_aload_n hx hb dX6_copy_58 rfl (lv_at hl 0 rfl) ?_
            refine lv_iconst (v := 5) hx hb dX6_copy_59 (by decide) ?_
            obtain ⟨r60, S60, g60, h⟩ := bd2_some h
            refine z_callVl C P (As := [.int (5 : Int32)]) (m6_found g60) cW6_82 rfl zs0 rfl (by decide) hl.1 rfl (Nat.le_of_ble_eq_true rfl) dX6_copy_60 ⟨Nat.zero_le _, Nat.zero_le _⟩ (fun H locs P => ?_)
            exact z_lret C P (Option.some.inj h) dX6_copy_63
        · exact w6_copy_40 C _ _ _ _ h P (lv_sub hl [0] rfl)
    · refine lv_ldc2 (v := (-9000000000000000001)) hx hb C.2.2.2.1 (C.2.2.2.2.1 _ kK6_80) dX6_copy_14 ?_
      exact z_lret C P (Option.some.inj h) dX6_copy_17
theorem m2_remove {l : Launch} {D : va_G} {cA : Nat → ClassId} {ad : Nat → Nat} {x1 : Int32} {S : Zs} {z : Int32 × Zs} (h : f2_remove x1 S = some z) :
    zMi l yX2_remove cX2_remove 3 0 0 D zC ad cA S [.ref (ad 1), .int x1] z := by
  refine z_enter (Qc := fun A => zQi D zC ad cA A z) (by decide +kernel) (Nat.le_of_ble_eq_true rfl) (fun p e s m below meth c A C P ls hl => ?_)
  have hx := C.1
  have hb := C.2.1
  have hl : lv_has ls 3 [(0, .ref (ad 1)), (1, .int x1)] := hl
  unfold f2_remove at h
  refine lv_aload_n hx hb dX2_remove_0 rfl (lv_at hl 0 rfl) ?_
  refine gF2_18 C P zs1 rfl dX2_remove_1 ?_
  refine lv_iload_n hx hb dX2_remove_4 rfl (lv_at hl 1 rfl) ?_
  refine z_iald C P zs12 dX2_remove_5 h (fun h hi => ?_)
  refine z_topi h (fun v6 h => ?_)
  refine lv_istore_n (lv' := [(2, .int v6), (0, .ref (ad 1)), (1, .int x1)]) hx hb dX2_remove_6 rfl hl (by decide) rfl (fun ls hl => ?_)
  refine lv_aload_n hx hb dX2_remove_7 rfl (lv_at hl 1 rfl) ?_
  refine gF2_18 C P zs1 rfl dX2_remove_8 ?_
  refine lv_iload_n hx hb dX2_remove_11 rfl (lv_at hl 2 rfl) ?_
  refine lv_iconst (v := (-1)) hx hb dX2_remove_12 (by decide) ?_
  refine z_iast C P zs12 dX2_remove_13 h (fun S13 H locs h P => ?_)
  refine lv_iload_n hx hb dX2_remove_14 rfl (lv_at hl 0 rfl) ?_
  exact z_iret C P (Option.some.inj h) dX2_remove_15
theorem m6_drop {l : Launch} {D : va_G} {cA : Nat → ClassId} {ad : Nat → Nat} {x1 : Int32} {S : Zs} {z : Int64 × Zs} (h : f6_drop x1 S = some z) :
    zMl l yX6_drop cX6_drop 2 1 22 D zC ad cA S [.ref (ad 0), .int x1] z := by
  refine z_enter (Qc := fun A => zQl D zC ad cA A z) (by decide +kernel) (Nat.le_of_ble_eq_true rfl) (fun p e s m below meth c A C P ls hl => ?_)
  have hx := C.1
  have hb := C.2.1
  have hl : lv_has ls 2 [(0, .ref (ad 0)), (1, .int x1)] := hl
  unfold f6_drop at h
  refine lv_iload_n hx hb dX6_drop_0 rfl (lv_at hl 1 rfl) ?_
  refine z_callSb C P (As := [.int x1]) (m2_isRow) cW6_73 rfl (by decide) hl.1 rfl (Nat.le_of_ble_eq_true rfl) dX6_drop_1 ⟨Nat.zero_le _, Nat.zero_le _⟩ (fun H locs n1 P => ?_)
  refine z_if_ne (tgt := 11) hx hb dX6_drop_4 (by decide) h (fun h => ?_) (fun h => ?_)
  · refine lv_aload_n hx hb dX6_drop_11 rfl (lv_at hl 0 rfl) ?_
    refine gF6_12 C P zs0 rfl dX6_drop_12 ?_
    refine lv_iload_n hx hb dX6_drop_15 rfl (lv_at hl 1 rfl) ?_
    obtain ⟨r16, g16, h⟩ := bd1_some h
    refine z_callVb C P (As := [.int x1]) (m2_isMissing g16) cW6_94 rfl zs1 rfl (by decide) hl.1 rfl (Nat.le_of_ble_eq_true rfl) dX6_drop_16 ⟨Nat.zero_le _, Nat.zero_le _⟩ (fun H locs n16 P => ?_)
    refine z_if_eq (tgt := 28) hx hb dX6_drop_19 (by decide) h (fun h => ?_) (fun h => ?_)
    · refine lv_aload_n hx hb dX6_drop_28 rfl (lv_at hl 0 rfl) ?_
      refine lv_aload_n hx hb dX6_drop_29 rfl (lv_at hl 0 rfl) ?_
      refine gF6_12 C P zs0 rfl dX6_drop_30 ?_
      refine lv_iload_n hx hb dX6_drop_33 rfl (lv_at hl 1 rfl) ?_
      obtain ⟨r34, S34, g34, h⟩ := bd2_some h
      refine z_callVi C P (As := [.int x1]) (m2_remove g34) cW6_113 rfl zs1 rfl (by decide) hl.1 rfl (Nat.le_of_ble_eq_true rfl) dX6_drop_34 ⟨Nat.zero_le _, Nat.zero_le _⟩ (fun H locs P => ?_)
      refine lv_i2l hx hb dX6_drop_37 rfl ?_
      obtain ⟨r38, S38, g38, h⟩ := bd2_some h
      refine z_callVl C P (As := [.long r34.toInt64]) (m6_fine g38) cW6_90 rfl zs0 rfl (by decide) hl.1 rfl (Nat.le_of_ble_eq_true rfl) dX6_drop_38 ⟨Nat.zero_le _, Nat.zero_le _⟩ (fun H locs P => ?_)
      exact z_lret C P (Option.some.inj h) dX6_drop_41
    · refine lv_aload_n hx hb dX6_drop_22 rfl (lv_at hl 0 rfl) ?_
      refine lv_iconst (v := 1) hx hb dX6_drop_23 (by decide) ?_
      obtain ⟨r24, S24, g24, h⟩ := bd2_some h
      refine z_callVl C P (As := [.int (1 : Int32)]) (m6_found g24) cW6_82 rfl zs0 rfl (by decide) hl.1 rfl (Nat.le_of_ble_eq_true rfl) dX6_drop_24 ⟨Nat.zero_le _, Nat.zero_le _⟩ (fun H locs P => ?_)
      exact z_lret C P (Option.some.inj h) dX6_drop_27
  · refine lv_ldc2 (v := (-9000000000000000001)) hx hb C.2.2.2.1 (C.2.2.2.2.1 _ kK6_80) dX6_drop_7 ?_
    exact z_lret C P (Option.some.inj h) dX6_drop_10
theorem m3_hasRoom {l : Launch} {D : va_G} {cA : Nat → ClassId} {ad : Nat → Nat} {x1 : Int32} {S : Zs} :
    zMb l yX3_hasRoom cX3_hasRoom 2 0 0 D zC ad cA S [.ref (ad 13), .int x1] (f3_hasRoom S x1, S) := by
  obtain ⟨z, h⟩ : ∃ z, f3_hasRoom S x1 = z := ⟨_, rfl⟩
  rw [h]
  refine z_enter (Qc := fun A => zQb D zC ad cA A (z, S)) (by decide +kernel) (Nat.le_of_ble_eq_true rfl) (fun p e s m below meth c A C P ls hl => ?_)
  have hx := C.1
  have hb := C.2.1
  have hl : lv_has ls 2 [(0, .ref (ad 13)), (1, .int x1)] := hl
  unfold f3_hasRoom at h
  refine lv_aload_n hx hb dX3_hasRoom_0 rfl (lv_at hl 0 rfl) ?_
  refine gF3_15 C P zs13 rfl dX3_hasRoom_1 ?_
  refine lv_iload_n hx hb dX3_hasRoom_4 rfl (lv_at hl 1 rfl) ?_
  refine lv_iadd hx hb dX3_hasRoom_5 ?_
  refine lv_sipush (v := 400) hx hb dX3_hasRoom_6 (by decide) ?_
  refine z_icmp_gt (tgt := 16) hx hb dX3_hasRoom_9 (by decide) h (fun h => ?_) (fun h => ?_)
  · refine lv_iconst (v := 0) hx hb dX3_hasRoom_16 (by decide) ?_
    exact z_zret C P (by rw [h]) (by decide) dX3_hasRoom_17
  · refine lv_iconst (v := 1) hx hb dX3_hasRoom_12 (by decide) ?_
    refine lv_goto (tgt := 17) hx hb dX3_hasRoom_13 (by decide) ?_
    exact z_zret C P (by rw [h]) (by decide) dX3_hasRoom_17
theorem w3_append_54 (C : zCx p s m args meth c cX3_append 5 RX3 (some .int) D ad cA A) {z : Int32 × Zs} (S : Zs) (H : Heap) (locs : List Loc) (ls : Array Slot) (h : f3_append_54 S = some z) (P : zP D zC ad cA A S s H locs) (hl : lv_has ls 5 [(0, .ref (ad 13))]) :
    W p l e (zrm 0 0) s m args below meth c H locs 0 0 (MQ below (zQi D zC ad cA A z) args s 0 0 A) (F0 m 54 ls []) := by
  have hx := C.1
  have hb := C.2.1
  unfold f3_append_54 at h
  refine lv_aload_n hx hb dX3_append_54 rfl (lv_at hl 0 rfl) ?_
  refine gF3_15 C P zs13 rfl dX3_append_55 ?_
  exact z_iret C P (Option.some.inj h) dX3_append_58
theorem w3_append_5 (C : zCx p s m args meth c cX3_append 5 RX3 (some .int) D ad cA A) {z : Int32 × Zs} :
    ∀ (n : Nat) (x1 : Int64) (x4 : Int32) (S : Zs) (H : Heap) (locs : List Loc) (ls : Array Slot), f3_append_5 n x1 x4 S = some z → zP D zC ad cA A S s H locs → lv_has ls 5 [(0, .ref (ad 13)), (1, .long x1), (4, .int x4)] → W p l e (zrm 0 0) s m args below meth c H locs 0 0 (MQ below (zQi D zC ad cA A z) args s 0 0 A) (F0 m 5 ls []) := by
  have hx := C.1
  have hb := C.2.1
  intro n
  induction n with
  | zero =>
    intro x1 x4 S H locs ls h
    cases h
  | succ n ih =>
    intro x1 x4 S H locs ls h P hl
    unfold f3_append_5 at h
    refine lv_iload hx hb dX3_append_5 (lv_at hl 2 rfl) ?_
    refine z_if_lt (tgt := 54) hx hb dX3_append_7 (by decide) h (fun h => ?_) (fun h => ?_)
    · exact w3_append_54 C _ _ _ _ h P (lv_sub hl [0] rfl)
    · refine lv_aload_n hx hb dX3_append_10 rfl (lv_at hl 0 rfl) ?_
      refine gF3_15 C P zs13 rfl dX3_append_11 ?_
      refine lv_sipush (v := 400) hx hb dX3_append_14 (by decide) ?_
      refine z_icmp_ge (tgt := 54) hx hb dX3_append_17 (by decide) h (fun h => ?_) (fun h => ?_)
      · exact w3_append_54 C _ _ _ _ h P (lv_sub hl [0] rfl)
      · refine lv_aload_n hx hb dX3_append_20 rfl (lv_at hl 0 rfl) ?_
        refine gF3_11 C P zs13 rfl dX3_append_21 ?_
        refine lv_aload_n hx hb dX3_append_24 rfl (lv_at hl 0 rfl) ?_
        refine gF3_15 C P zs13 rfl dX3_append_25 ?_
        refine lv_lload_n hx hb dX3_append_28 rfl (lv_at hl 1 rfl) ?_
        refine lv_bipush (v := 8) hx hb dX3_append_29 (by decide) ?_
        refine lv_iload hx hb dX3_append_31 (lv_at hl 2 rfl) ?_
        refine lv_imul hx hb dX3_append_33 ?_
        refine lv_lushr hx hb dX3_append_34 rfl ?_
        refine lv_l2i hx hb dX3_append_35 rfl ?_
        refine lv_i2b hx hb dX3_append_36 rfl ?_
        refine z_bast C P zs14 dX3_append_37 h (fun S37 H locs h P => ?_)
        refine lv_aload_n hx hb dX3_append_38 rfl (lv_at hl 0 rfl) ?_
        refine lv_dup hx hb dX3_append_39 rfl ?_
        refine gF3_15 C P zs13 rfl dX3_append_40 ?_
        refine lv_iconst (v := 1) hx hb dX3_append_43 (by decide) ?_
        refine lv_iadd hx hb dX3_append_44 ?_
        refine pF3_15 C P zs13 rfl dX3_append_45 h (fun S45 H locs h P => ?_)
        obtain ⟨v48, ev48, h⟩ := z_nm h
        refine lv_iinc (v := v48) (lv' := [(4, .int v48), (0, .ref (ad 13)), (1, .long x1)]) hx hb dX3_append_48 hl (k := 2) rfl (by rw [ev48]; rfl) (by decide) rfl (fun ls hl => ?_)
        refine lv_goto (tgt := 5) hx hb dX3_append_51 (by decide) ?_
        exact ih _ _ _ _ _ _ h P (lv_sub hl [1, 2, 0] rfl)
theorem m3_append {l : Launch} {D : va_G} {cA : Nat → ClassId} {ad : Nat → Nat} {x1 : Int64} {x3 : Int32} {S : Zs} {z : Int32 × Zs} (h : f3_append x1 x3 S = some z) :
    zMi l yX3_append cX3_append 5 0 0 D zC ad cA S [.ref (ad 13), .long x1, .int x3] z := by
  refine z_enter (Qc := fun A => zQi D zC ad cA A z) (by decide +kernel) (Nat.le_of_ble_eq_true rfl) (fun p e s m below meth c A C P ls hl => ?_)
  have hx := C.1
  have hb := C.2.1
  have hl : lv_has ls 5 [(0, .ref (ad 13)), (1, .long x1), (3, .int x3)] := hl
  unfold f3_append at h
  refine lv_iload_n hx hb dX3_append_0 rfl (lv_at hl 2 rfl) ?_
  refine lv_iconst (v := 1) hx hb dX3_append_1 (by decide) ?_
  refine lv_isub hx hb dX3_append_2 ?_
  refine z_topi h (fun v3 h => ?_)
  refine lv_istore (lv' := [(4, .int v3), (0, .ref (ad 13)), (1, .long x1), (3, .int x3)]) hx hb dX3_append_3 hl (by decide) rfl (fun ls hl => ?_)
  exact w3_append_5 C _ _ _ _ _ _ _ h P (lv_sub hl [1, 2, 0] rfl)
theorem m6_feed {l : Launch} {D : va_G} {cA : Nat → ClassId} {ad : Nat → Nat} {x1 : Int64} {x3 : Int32} {S : Zs} {z : Int64 × Zs} (h : f6_feed x1 x3 S = some z) :
    zMl l yX6_feed cX6_feed 4 1 24 D zC ad cA S [.ref (ad 0), .long x1, .int x3] z := by
  refine z_enter (Qc := fun A => zQl D zC ad cA A z) (by decide +kernel) (Nat.le_of_ble_eq_true rfl) (fun p e s m below meth c A C P ls hl => ?_)
  have hx := C.1
  have hb := C.2.1
  have hl : lv_has ls 4 [(0, .ref (ad 0)), (1, .long x1), (3, .int x3)] := hl
  unfold f6_feed at h
  refine lv_iload_n hx hb dX6_feed_0 rfl (lv_at hl 2 rfl) ?_
  refine lv_iconst (v := 1) hx hb dX6_feed_1 (by decide) ?_
  refine z_icmp_lt (tgt := 11) hx hb dX6_feed_2 (by decide) h (fun h => ?_) (fun h => ?_)
  · refine lv_ldc2 (v := (-9000000000000000001)) hx hb C.2.2.2.1 (C.2.2.2.2.1 _ kK6_80) dX6_feed_11 ?_
    exact z_lret C P (Option.some.inj h) dX6_feed_14
  · refine lv_iload_n hx hb dX6_feed_5 rfl (lv_at hl 2 rfl) ?_
    refine lv_bipush (v := 8) hx hb dX6_feed_6 (by decide) ?_
    refine z_icmp_le (tgt := 15) hx hb dX6_feed_8 (by decide) h (fun h => ?_) (fun h => ?_)
    · refine lv_aload_n hx hb dX6_feed_15 rfl (lv_at hl 0 rfl) ?_
      refine gF6_19 C P zs0 rfl dX6_feed_16 ?_
      refine lv_iload_n hx hb dX6_feed_19 rfl (lv_at hl 2 rfl) ?_
      refine z_callVb C P (As := [.int x3]) (m3_hasRoom) cW6_117 rfl zs13 rfl (by decide) hl.1 rfl (Nat.le_of_ble_eq_true rfl) dX6_feed_20 ⟨Nat.zero_le _, Nat.zero_le _⟩ (fun H locs n20 P => ?_)
      refine z_if_ne (tgt := 30) hx hb dX6_feed_23 (by decide) h (fun h => ?_) (fun h => ?_)
      · refine lv_aload_n hx hb dX6_feed_30 rfl (lv_at hl 0 rfl) ?_
        refine gF6_19 C P zs0 rfl dX6_feed_31 ?_
        refine lv_lload_n hx hb dX6_feed_34 rfl (lv_at hl 1 rfl) ?_
        refine lv_iload_n hx hb dX6_feed_35 rfl (lv_at hl 2 rfl) ?_
        obtain ⟨r36, S36, g36, h⟩ := bd2_some h
        refine z_callVi C P (As := [.long x1, .int x3]) (m3_append g36) cW6_122 rfl zs13 rfl (by decide) hl.1 rfl (Nat.le_of_ble_eq_true rfl) dX6_feed_36 ⟨Nat.zero_le _, Nat.zero_le _⟩ (fun H locs P => ?_)
        refine lv_i2l hx hb dX6_feed_39 rfl ?_
        exact z_lret C P (Option.some.inj h) dX6_feed_40
      · refine lv_ldc2 (v := (-9000000000000000003)) hx hb C.2.2.2.1 (C.2.2.2.2.1 _ kK6_120) dX6_feed_26 ?_
        exact z_lret C P (Option.some.inj h) dX6_feed_29
    · refine lv_ldc2 (v := (-9000000000000000001)) hx hb C.2.2.2.1 (C.2.2.2.2.1 _ kK6_80) dX6_feed_11 ?_
      exact z_lret C P (Option.some.inj h) dX6_feed_14
theorem m3_isLetter {l : Launch} {D : va_G} {cA : Nat → ClassId} {ad : Nat → Nat} {x0 : Int32} {S : Zs} :
    zMb l yX3_isLetter cX3_isLetter 1 0 0 D zC ad cA S [.int x0] (f3_isLetter x0, S) := by
  obtain ⟨z, h⟩ : ∃ z, f3_isLetter x0 = z := ⟨_, rfl⟩
  rw [h]
  refine z_enter (Qc := fun A => zQb D zC ad cA A (z, S)) (by decide +kernel) (Nat.le_of_ble_eq_true rfl) (fun p e s m below meth c A C P ls hl => ?_)
  have hx := C.1
  have hb := C.2.1
  have hl : lv_has ls 1 [(0, .int x0)] := hl
  unfold f3_isLetter at h
  refine lv_iload_n hx hb dX3_isLetter_0 rfl (lv_at hl 0 rfl) ?_
  refine lv_bipush (v := 97) hx hb dX3_isLetter_1 (by decide) ?_
  refine z_icmp_lt (tgt := 16) hx hb dX3_isLetter_3 (by decide) h (fun h => ?_) (fun h => ?_)
  · refine lv_iconst (v := 0) hx hb dX3_isLetter_16 (by decide) ?_
    exact z_zret C P (by rw [h]) (by decide) dX3_isLetter_17
  · refine lv_iload_n hx hb dX3_isLetter_6 rfl (lv_at hl 0 rfl) ?_
    refine lv_bipush (v := 122) hx hb dX3_isLetter_7 (by decide) ?_
    refine z_icmp_gt (tgt := 16) hx hb dX3_isLetter_9 (by decide) h (fun h => ?_) (fun h => ?_)
    · refine lv_iconst (v := 0) hx hb dX3_isLetter_16 (by decide) ?_
      exact z_zret C P (by rw [h]) (by decide) dX3_isLetter_17
    · refine lv_iconst (v := 1) hx hb dX3_isLetter_12 (by decide) ?_
      refine lv_goto (tgt := 17) hx hb dX3_isLetter_13 (by decide) ?_
      exact z_zret C P (by rw [h]) (by decide) dX3_isLetter_17
theorem w3_isWord_20 (C : zCx p s m args meth c cX3_isWord 3 RX3 (some .boolean) D ad cA A) {q1 : Nat} (hq1 : zT q1) {z : Int32} {S : Zs} :
    ∀ (n : Nat) (x2 : Int32) (H : Heap) (locs : List Loc) (ls : Array Slot), f3_isWord_20 q1 S n x2 = some z → zP D zC ad cA A S s H locs → lv_has ls 3 [(0, .ref (ad 13)), (1, .ref (ad q1)), (2, .int x2)] → W p l e (zrm 4 111) s m args below meth c H locs 0 0 (MQ below (zQb D zC ad cA A (z, S)) args s 0 0 A) (F0 m 20 ls []) := by
  have hx := C.1
  have hb := C.2.1
  intro n
  induction n with
  | zero =>
    intro x2 H locs ls h
    cases h
  | succ n ih =>
    intro x2 H locs ls h P hl
    unfold f3_isWord_20 at h
    refine lv_iload_n hx hb dX3_isWord_20 rfl (lv_at hl 2 rfl) ?_
    refine lv_aload_n hx hb dX3_isWord_21 rfl (lv_at hl 1 rfl) ?_
    refine z_strlen C P hq1 zt_x98 (by decide) hl.1 (Nat.le_of_ble_eq_true rfl) dX3_isWord_22 ⟨Nat.zero_le _, Nat.zero_le _⟩ (fun H locs P => ?_)
    refine z_icmp_ge (tgt := 55) hx hb dX3_isWord_25 (by decide) h (fun h => ?_) (fun h => ?_)
    · refine lv_iconst (v := 1) hx hb dX3_isWord_55 (by decide) ?_
      exact z_zret C P (by rw [Option.some.inj h]) (by decide) dX3_isWord_56
    · refine lv_aload_n hx hb dX3_isWord_28 rfl (lv_at hl 0 rfl) ?_
      refine gF3_11 C P zs13 rfl dX3_isWord_29 ?_
      refine lv_aload_n hx hb dX3_isWord_32 rfl (lv_at hl 0 rfl) ?_
      refine gF3_25 C P zs13 rfl dX3_isWord_33 ?_
      refine lv_iload_n hx hb dX3_isWord_36 rfl (lv_at hl 2 rfl) ?_
      refine lv_iadd hx hb dX3_isWord_37 ?_
      refine z_bald C P zs14 dX3_isWord_38 h (fun h hi => ?_)
      refine lv_aload_n hx hb dX3_isWord_39 rfl (lv_at hl 1 rfl) ?_
      refine lv_iload_n hx hb dX3_isWord_40 rfl (lv_at hl 2 rfl) ?_
      refine z_strch C P hq1 zt_x103 (by decide) hl.1 (Nat.le_of_ble_eq_true rfl) dX3_isWord_41 ⟨Nat.zero_le _, Nat.zero_le _⟩ h (fun H locs h P => ?_)
      refine z_icmp_eq (tgt := 49) hx hb dX3_isWord_44 (by decide) h (fun h => ?_) (fun h => ?_)
      · obtain ⟨v49, ev49, h⟩ := z_nm h
        refine lv_iinc (v := v49) (lv' := [(2, .int v49), (0, .ref (ad 13)), (1, .ref (ad q1))]) hx hb dX3_isWord_49 hl (k := 2) rfl (by rw [ev49]; rfl) (by decide) rfl (fun ls hl => ?_)
        refine lv_goto (tgt := 20) hx hb dX3_isWord_52 (by decide) ?_
        exact ih _ _ _ _ h P (lv_sub hl [1, 2, 0] rfl)
      · refine lv_iconst (v := 0) hx hb dX3_isWord_47 (by decide) ?_
        exact z_zret C P (by rw [Option.some.inj h]) (by decide) dX3_isWord_48
theorem m3_isWord {l : Launch} {D : va_G} {cA : Nat → ClassId} {ad : Nat → Nat} {q1 : Nat} (hq1 : zT q1) {S : Zs} {z : Int32} (h : f3_isWord q1 S = some z) :
    zMb l yX3_isWord cX3_isWord 3 4 111 D zC ad cA S [.ref (ad 13), .ref (ad q1)] (z, S) := by
  refine z_enter (Qc := fun A => zQb D zC ad cA A (z, S)) (by decide +kernel) (Nat.le_of_ble_eq_true rfl) (fun p e s m below meth c A C P ls hl => ?_)
  have hx := C.1
  have hb := C.2.1
  have hl : lv_has ls 3 [(0, .ref (ad 13)), (1, .ref (ad q1))] := hl
  unfold f3_isWord at h
  refine lv_aload_n hx hb dX3_isWord_0 rfl (lv_at hl 0 rfl) ?_
  refine gF3_28 C P zs13 rfl dX3_isWord_1 ?_
  refine lv_aload_n hx hb dX3_isWord_4 rfl (lv_at hl 0 rfl) ?_
  refine gF3_25 C P zs13 rfl dX3_isWord_5 ?_
  refine lv_isub hx hb dX3_isWord_8 ?_
  refine lv_aload_n hx hb dX3_isWord_9 rfl (lv_at hl 1 rfl) ?_
  refine z_strlen C P hq1 zt_x98 (by decide) hl.1 (Nat.le_of_ble_eq_true rfl) dX3_isWord_10 ⟨Nat.zero_le _, Nat.zero_le _⟩ (fun H locs P => ?_)
  refine z_icmp_eq (tgt := 18) hx hb dX3_isWord_13 (by decide) h (fun h => ?_) (fun h => ?_)
  · refine lv_iconst (v := 0) hx hb dX3_isWord_18 (by decide) ?_
    refine lv_istore_n (lv' := [(2, .int (0 : Int32)), (0, .ref (ad 13)), (1, .ref (ad q1))]) hx hb dX3_isWord_19 rfl hl (by decide) rfl (fun ls hl => ?_)
    exact w3_isWord_20 C hq1 _ _ _ _ _ h P (lv_sub hl [1, 2, 0] rfl)
  · refine lv_iconst (v := 0) hx hb dX3_isWord_16 (by decide) ?_
    exact z_zret C P (by rw [Option.some.inj h]) (by decide) dX3_isWord_17
theorem w3_takeName_39 (C : zCx p s m args meth c cX3_takeName 1 RX3 none D ad cA A) {z : Zs} (S : Zs) (H : Heap) (locs : List Loc) (ls : Array Slot) (h : f3_takeName_39 S = some z) (P : zP D zC ad cA A S s H locs) (hl : lv_has ls 1 [(0, .ref (ad 13))]) :
    W p l e (zrm 5 133) s m args below meth c H locs 0 0 (MQ below (zQv D zC ad cA A z) args s 0 0 A) (F0 m 39 ls []) := by
  have hx := C.1
  have hb := C.2.1
  unfold f3_takeName_39 at h
  refine lv_aload_n hx hb dX3_takeName_39 rfl (lv_at hl 0 rfl) ?_
  refine lv_iconst (v := 5) hx hb dX3_takeName_40 (by decide) ?_
  refine pF3_31 C P zs13 rfl dX3_takeName_41 h (fun S41 H locs h P => ?_)
  refine lv_aload_n hx hb dX3_takeName_44 rfl (lv_at hl 0 rfl) ?_
  refine va_ldcS (own := RX3) hx hb C.2.2.2.1 C.2.2.2.2.2.2.2.2.2.2.2.2.2.2.1.2.1 dX3_takeName_45 ?_
  obtain ⟨r47, g47, h⟩ := bd1_some h
  refine z_callVb C P (As := [.ref (ad 1000)]) (m3_isWord (Or.inl rfl) g47) cW3_92 rfl zs13 rfl (by decide) hl.1 rfl (Nat.le_of_ble_eq_true rfl) dX3_takeName_47 ⟨Nat.zero_le _, Nat.zero_le _⟩ (fun H locs n47 P => ?_)
  refine z_if_eq (tgt := 61) hx hb dX3_takeName_50 (by decide) h (fun h => ?_) (fun h => ?_)
  · refine lv_aload_n hx hb dX3_takeName_61 rfl (lv_at hl 0 rfl) ?_
    refine va_ldcS (own := RX3) hx hb C.2.2.2.1 C.2.2.2.2.2.2.2.2.2.2.2.2.2.2.1.2.2 dX3_takeName_62 ?_
    obtain ⟨r64, g64, h⟩ := bd1_some h
    refine z_callVb C P (As := [.ref (ad 1001)]) (m3_isWord (Or.inr rfl) g64) cW3_92 rfl zs13 rfl (by decide) hl.1 rfl (Nat.le_of_ble_eq_true rfl) dX3_takeName_64 ⟨Nat.zero_le _, Nat.zero_le _⟩ (fun H locs n64 P => ?_)
    refine z_if_eq (tgt := 75) hx hb dX3_takeName_67 (by decide) h (fun h => ?_) (fun h => ?_)
    · exact z_vret C P (Option.some.inj h) dX3_takeName_75
    · refine lv_aload_n hx hb dX3_takeName_70 rfl (lv_at hl 0 rfl) ?_
      refine lv_iconst (v := 2) hx hb dX3_takeName_71 (by decide) ?_
      refine pF3_31 C P zs13 rfl dX3_takeName_72 h (fun S72 H locs h P => ?_)
      exact z_vret C P (Option.some.inj h) dX3_takeName_75
  · refine lv_aload_n hx hb dX3_takeName_53 rfl (lv_at hl 0 rfl) ?_
    refine lv_iconst (v := 1) hx hb dX3_takeName_54 (by decide) ?_
    refine pF3_31 C P zs13 rfl dX3_takeName_55 h (fun S55 H locs h P => ?_)
    refine lv_goto (tgt := 75) hx hb dX3_takeName_58 (by decide) ?_
    exact z_vret C P (Option.some.inj h) dX3_takeName_75
theorem w3_takeName_0 (C : zCx p s m args meth c cX3_takeName 1 RX3 none D ad cA A) {z : Zs} :
    ∀ (n : Nat) (S : Zs) (H : Heap) (locs : List Loc) (ls : Array Slot), f3_takeName_0 n S = some z → zP D zC ad cA A S s H locs → lv_has ls 1 [(0, .ref (ad 13))] → W p l e (zrm 5 133) s m args below meth c H locs 0 0 (MQ below (zQv D zC ad cA A z) args s 0 0 A) (F0 m 0 ls []) := by
  have hx := C.1
  have hb := C.2.1
  intro n
  induction n with
  | zero =>
    intro S H locs ls h
    cases h
  | succ n ih =>
    intro S H locs ls h P hl
    unfold f3_takeName_0 at h
    refine lv_aload_n hx hb dX3_takeName_0 rfl (lv_at hl 0 rfl) ?_
    refine gF3_28 C P zs13 rfl dX3_takeName_1 ?_
    refine lv_aload_n hx hb dX3_takeName_4 rfl (lv_at hl 0 rfl) ?_
    refine gF3_15 C P zs13 rfl dX3_takeName_5 ?_
    refine z_icmp_ge (tgt := 39) hx hb dX3_takeName_8 (by decide) h (fun h => ?_) (fun h => ?_)
    · exact w3_takeName_39 C _ _ _ _ h P (lv_sub hl [0] rfl)
    · refine lv_aload_n hx hb dX3_takeName_11 rfl (lv_at hl 0 rfl) ?_
      refine gF3_11 C P zs13 rfl dX3_takeName_12 ?_
      refine lv_aload_n hx hb dX3_takeName_15 rfl (lv_at hl 0 rfl) ?_
      refine gF3_28 C P zs13 rfl dX3_takeName_16 ?_
      refine z_bald C P zs14 dX3_takeName_19 h (fun h hi => ?_)
      refine z_callSb C P (As := [.int (S.1 14 (S.1 13 5).toNatClampNeg)]) (m3_isLetter) cW3_77 rfl (by decide) hl.1 rfl (Nat.le_of_ble_eq_true rfl) dX3_takeName_20 ⟨Nat.zero_le _, Nat.zero_le _⟩ (fun H locs n20 P => ?_)
      refine z_if_eq (tgt := 39) hx hb dX3_takeName_23 (by decide) h (fun h => ?_) (fun h => ?_)
      · exact w3_takeName_39 C _ _ _ _ h P (lv_sub hl [0] rfl)
      · refine lv_aload_n hx hb dX3_takeName_26 rfl (lv_at hl 0 rfl) ?_
        refine lv_dup hx hb dX3_takeName_27 rfl ?_
        refine gF3_28 C P zs13 rfl dX3_takeName_28 ?_
        refine lv_iconst (v := 1) hx hb dX3_takeName_31 (by decide) ?_
        refine lv_iadd hx hb dX3_takeName_32 ?_
        refine pF3_28 C P zs13 rfl dX3_takeName_33 h (fun S33 H locs h P => ?_)
        refine lv_goto (tgt := 0) hx hb dX3_takeName_36 (by decide) ?_
        exact ih _ _ _ _ h P (lv_sub hl [0] rfl)
theorem m3_takeName {l : Launch} {D : va_G} {cA : Nat → ClassId} {ad : Nat → Nat} {S : Zs} {z : Zs} (h : f3_takeName S = some z) :
    zMv l yX3_takeName cX3_takeName 1 5 133 D zC ad cA S [.ref (ad 13)] z := by
  refine z_enter (Qc := fun A => zQv D zC ad cA A z) (by decide +kernel) (Nat.le_of_ble_eq_true rfl) (fun p e s m below meth c A C P ls hl => ?_)
  have hx := C.1
  have hb := C.2.1
  have hl : lv_has ls 1 [(0, .ref (ad 13))] := hl
  unfold f3_takeName at h
  exact w3_takeName_0 C _ _ _ _ _ h P (lv_sub hl [0] rfl)
end ZVC0
