section ZVC1
variable {p : Program} {l : Launch} {e : Env} {s : State} {m : MethodId} {args : Array Value} {below : List Frame} {meth : Method} {c : Code} {D : va_G} {cA : Nat → ClassId} {A : Nat → Prop} {ad : Nat → Nat}
theorem w6_commonDivisor_9 (C : zCx p s m args meth c cX6_commonDivisor 11 RX6 (some .long) D ad cA A) {z : Int64} {S : Zs} :
    ∀ (n : Nat) (x4 : Int64) (x6 : Int64) (x8 : Int32) (H : Heap) (locs : List Loc) (ls : Array Slot), f6_commonDivisor_9 n x4 x6 x8 = some z → zP D zC ad cA A S s H locs → lv_has ls 11 [(4, .long x4), (6, .long x6), (8, .int x8)] → W p l e (zrm 0 0) s m args below meth c H locs 0 0 (MQ below (zQl D zC ad cA A (z, S)) args s 0 0 A) (F0 m 9 ls []) := by
  have hx := C.1
  have hb := C.2.1
  intro n
  induction n with
  | zero =>
    intro x4 x6 x8 H locs ls h
    cases h
  | succ n ih =>
    intro x4 x6 x8 H locs ls h P hl
    unfold f6_commonDivisor_9 at h
    refine lv_iload hx hb dX6_commonDivisor_9 (lv_at hl 2 rfl) ?_
    refine lv_sipush (v := 200) hx hb dX6_commonDivisor_11 (by decide) ?_
    refine z_icmp_ge (tgt := 45) hx hb dX6_commonDivisor_14 (by decide) h (fun h => ?_) (fun h => ?_)
    · refine lv_lload hx hb dX6_commonDivisor_45 (lv_at hl 0 rfl) ?_
      exact z_lret C P (by rw [Option.some.inj h]) dX6_commonDivisor_47
    · refine lv_lload hx hb dX6_commonDivisor_17 (lv_at hl 1 rfl) ?_
      refine lv_lconst (v := 0) hx hb dX6_commonDivisor_19 (by decide) ?_
      refine z_lcmp_eq (tgt := 45) hx hb dX6_commonDivisor_20 dX6_commonDivisor_21 (by decide) h (fun h => ?_) (fun h => ?_)
      · refine lv_lload hx hb dX6_commonDivisor_45 (lv_at hl 0 rfl) ?_
        exact z_lret C P (by rw [Option.some.inj h]) dX6_commonDivisor_47
      · refine lv_lload hx hb dX6_commonDivisor_24 (lv_at hl 0 rfl) ?_
        refine lv_lload hx hb dX6_commonDivisor_26 (lv_at hl 1 rfl) ?_
        refine z_lrem hx hb dX6_commonDivisor_28 h (fun h => ?_)
        refine z_topl h (fun v29 h => ?_)
        refine lv_lstore (lv' := [(9, .long v29), (4, .long x4), (6, .long x6), (8, .int x8)]) hx hb dX6_commonDivisor_29 hl (by decide) rfl (fun ls hl => ?_)
        refine lv_lload hx hb dX6_commonDivisor_31 (lv_at hl 2 rfl) ?_
        refine lv_lstore (lv' := [(4, .long x6), (9, .long v29), (6, .long x6), (8, .int x8)]) hx hb dX6_commonDivisor_33 hl (by decide) rfl (fun ls hl => ?_)
        refine lv_lload hx hb dX6_commonDivisor_35 (lv_at hl 1 rfl) ?_
        refine lv_lstore (lv' := [(6, .long v29), (4, .long x6), (9, .long v29), (8, .int x8)]) hx hb dX6_commonDivisor_37 hl (by decide) rfl (fun ls hl => ?_)
        obtain ⟨v39, ev39, h⟩ := z_nm h
        refine lv_iinc (v := v39) (lv' := [(8, .int v39), (6, .long v29), (4, .long x6), (9, .long v29)]) hx hb dX6_commonDivisor_39 hl (k := 3) rfl (by rw [ev39]; rfl) (by decide) rfl (fun ls hl => ?_)
        refine lv_goto (tgt := 9) hx hb dX6_commonDivisor_42 (by decide) ?_
        exact ih _ _ _ _ _ _ h P (lv_sub hl [2, 1, 0] rfl)
theorem m6_commonDivisor {l : Launch} {D : va_G} {cA : Nat → ClassId} {ad : Nat → Nat} {x0 : Int64} {x2 : Int64} {S : Zs} {z : Int64} (h : f6_commonDivisor x0 x2 = some z) :
    zMl l yX6_commonDivisor cX6_commonDivisor 11 0 0 D zC ad cA S [.long x0, .long x2] (z, S) := by
  refine z_enter (Qc := fun A => zQl D zC ad cA A (z, S)) (by decide +kernel) (Nat.le_of_ble_eq_true rfl) (fun p e s m below meth c A C P ls hl => ?_)
  have hx := C.1
  have hb := C.2.1
  have hl : lv_has ls 11 [(0, .long x0), (2, .long x2)] := hl
  unfold f6_commonDivisor at h
  refine lv_lload_n hx hb dX6_commonDivisor_0 rfl (lv_at hl 0 rfl) ?_
  refine lv_lstore (lv' := [(4, .long x0), (0, .long x0), (2, .long x2)]) hx hb dX6_commonDivisor_1 hl (by decide) rfl (fun ls hl => ?_)
  refine lv_lload_n hx hb dX6_commonDivisor_3 rfl (lv_at hl 2 rfl) ?_
  refine lv_lstore (lv' := [(6, .long x2), (4, .long x0), (0, .long x0), (2, .long x2)]) hx hb dX6_commonDivisor_4 hl (by decide) rfl (fun ls hl => ?_)
  refine lv_iconst (v := 0) hx hb dX6_commonDivisor_6 (by decide) ?_
  refine lv_istore (lv' := [(8, .int (0 : Int32)), (6, .long x2), (4, .long x0), (0, .long x0), (2, .long x2)]) hx hb dX6_commonDivisor_7 hl (by decide) rfl (fun ls hl => ?_)
  exact w6_commonDivisor_9 C _ _ _ _ _ _ _ h P (lv_sub hl [2, 1, 0] rfl)
theorem w6_part_17 (C : zCx p s m args meth c cX6_part 9 RX6 (some .long) D ad cA A) {z : Int64} {S : Zs} (x5 : Int64) (t0 : Int64) (H : Heap) (locs : List Loc) (ls : Array Slot) (h : f6_part_17 x5 t0 = some z) (P : zP D zC ad cA A S s H locs) (hl : lv_has ls 9 [(5, .long x5)]) :
    W p l e (zrm 1 30) s m args below meth c H locs 0 0 (MQ below (zQl D zC ad cA A (z, S)) args s 0 0 A) (F0 m 17 ls [.long t0]) := by
  have hx := C.1
  have hb := C.2.1
  unfold f6_part_17 at h
  refine lv_lstore (lv' := [(7, .long t0), (5, .long x5)]) hx hb dX6_part_17 hl (by decide) rfl (fun ls hl => ?_)
  refine lv_lload hx hb dX6_part_19 (lv_at hl 1 rfl) ?_
  refine lv_lconst (v := 1) hx hb dX6_part_21 (by decide) ?_
  refine z_lcmp_le (tgt := 34) hx hb dX6_part_22 dX6_part_23 (by decide) h (fun h => ?_) (fun h => ?_)
  · refine lv_lload hx hb dX6_part_34 (lv_at hl 0 rfl) ?_
    exact z_lret C P (by rw [Option.some.inj h]) dX6_part_36
  · refine lv_lload hx hb dX6_part_26 (lv_at hl 0 rfl) ?_
    refine lv_lload hx hb dX6_part_28 (lv_at hl 1 rfl) ?_
    refine z_ldiv hx hb dX6_part_30 h (fun h => ?_)
    refine lv_goto (tgt := 36) hx hb dX6_part_31 (by decide) ?_
    exact z_lret C P (by rw [Option.some.inj h]) dX6_part_36
theorem m6_part {l : Launch} {D : va_G} {cA : Nat → ClassId} {ad : Nat → Nat} {x0 : Int64} {x2 : Int64} {x4 : Int32} {S : Zs} {z : Int64} (h : f6_part x0 x2 x4 = some z) :
    zMl l yX6_part cX6_part 9 1 30 D zC ad cA S [.long x0, .long x2, .int x4] (z, S) := by
  refine z_enter (Qc := fun A => zQl D zC ad cA A (z, S)) (by decide +kernel) (Nat.le_of_ble_eq_true rfl) (fun p e s m below meth c A C P ls hl => ?_)
  have hx := C.1
  have hb := C.2.1
  have hl : lv_has ls 9 [(0, .long x0), (2, .long x2), (4, .int x4)] := hl
  unfold f6_part at h
  refine lv_lload_n hx hb dX6_part_0 rfl (lv_at hl 0 rfl) ?_
  refine lv_lload_n hx hb dX6_part_1 rfl (lv_at hl 1 rfl) ?_
  obtain ⟨r2, g2, h⟩ := bd1_some h
  refine z_callSl C P (As := [.long x0, .long x2]) (m6_commonDivisor g2) cW6_278 rfl (by decide) hl.1 rfl (Nat.le_of_ble_eq_true rfl) dX6_part_2 ⟨Nat.zero_le _, Nat.zero_le _⟩ (fun H locs P => ?_)
  refine lv_lstore (lv' := [(5, .long r2), (0, .long x0), (2, .long x2), (4, .int x4)]) hx hb dX6_part_5 hl (by decide) rfl (fun ls hl => ?_)
  refine lv_iload hx hb dX6_part_7 (lv_at hl 3 rfl) ?_
  refine z_if_ne (tgt := 16) hx hb dX6_part_9 (by decide) h (fun h => ?_) (fun h => ?_)
  · refine lv_lload_n hx hb dX6_part_16 rfl (lv_at hl 2 rfl) ?_
    exact w6_part_17 C _ _ _ _ _ h P (lv_sub hl [0] rfl)
  · refine lv_lload_n hx hb dX6_part_12 rfl (lv_at hl 1 rfl) ?_
    refine lv_goto (tgt := 17) hx hb dX6_part_13 (by decide) ?_
    exact w6_part_17 C _ _ _ _ _ h P (lv_sub hl [0] rfl)
theorem m6_wage {l : Launch} {D : va_G} {cA : Nat → ClassId} {ad : Nat → Nat} {x1 : Int32} {x2 : Int32} {S : Zs} {z : Int64} (h : f6_wage S x1 x2 = some z) :
    zMl l yX6_wage cX6_wage 3 2 58 D zC ad cA S [.ref (ad 0), .int x1, .int x2] (z, S) := by
  refine z_enter (Qc := fun A => zQl D zC ad cA A (z, S)) (by decide +kernel) (Nat.le_of_ble_eq_true rfl) (fun p e s m below meth c A C P ls hl => ?_)
  have hx := C.1
  have hb := C.2.1
  have hl : lv_has ls 3 [(0, .ref (ad 0)), (1, .int x1), (2, .int x2)] := hl
  unfold f6_wage at h
  refine lv_aload_n hx hb dX6_wage_0 rfl (lv_at hl 0 rfl) ?_
  refine gF6_47 C P zs0 rfl dX6_wage_1 ?_
  refine lv_iload_n hx hb dX6_wage_4 rfl (lv_at hl 1 rfl) ?_
  refine z_callVb C P (As := [.int x1]) (m5_isLand zW_37) cW6_151 rfl zW_37.1 rfl (by decide) hl.1 rfl (Nat.le_of_ble_eq_true rfl) dX6_wage_5 ⟨Nat.zero_le _, Nat.zero_le _⟩ (fun H locs n5 P => ?_)
  refine z_if_eq (tgt := 20) hx hb dX6_wage_8 (by decide) h (fun h => ?_) (fun h => ?_)
  · refine lv_ldc2 (v := (-9000000000000000001)) hx hb C.2.2.2.1 (C.2.2.2.2.1 _ kK6_80) dX6_wage_20 ?_
    exact z_lret C P (by rw [Option.some.inj h]) dX6_wage_23
  · refine lv_iload_n hx hb dX6_wage_11 rfl (lv_at hl 2 rfl) ?_
    refine z_if_lt (tgt := 20) hx hb dX6_wage_12 (by decide) h (fun h => ?_) (fun h => ?_)
    · refine lv_ldc2 (v := (-9000000000000000001)) hx hb C.2.2.2.1 (C.2.2.2.2.1 _ kK6_80) dX6_wage_20 ?_
      exact z_lret C P (by rw [Option.some.inj h]) dX6_wage_23
    · refine lv_iload_n hx hb dX6_wage_15 rfl (lv_at hl 2 rfl) ?_
      refine lv_iconst (v := 1) hx hb dX6_wage_16 (by decide) ?_
      refine z_icmp_le (tgt := 24) hx hb dX6_wage_17 (by decide) h (fun h => ?_) (fun h => ?_)
      · refine lv_aload_n hx hb dX6_wage_24 rfl (lv_at hl 0 rfl) ?_
        refine gF6_47 C P zs0 rfl dX6_wage_25 ?_
        refine gF6_167 C P zW_37.1 rfl dX6_wage_28 ?_
        refine lv_iload_n hx hb dX6_wage_31 rfl (lv_at hl 1 rfl) ?_
        refine z_lald C P zW_37.2.2.2.2.2.1 dX6_wage_32 h (fun h hi => ?_)
        refine lv_aload_n hx hb dX6_wage_33 rfl (lv_at hl 0 rfl) ?_
        refine gF6_47 C P zs0 rfl dX6_wage_34 ?_
        refine gF6_167 C P zW_37.1 rfl dX6_wage_37 ?_
        refine lv_iconst (v := 0) hx hb dX6_wage_40 (by decide) ?_
        refine z_lald C P zW_37.2.2.2.2.2.1 dX6_wage_41 h (fun h hi => ?_)
        refine lv_iload_n hx hb dX6_wage_42 rfl (lv_at hl 2 rfl) ?_
        obtain ⟨r43, g43, h⟩ := bd1_some h
        refine z_callSl C P (As := [.long (S.2 (37 + 7) x1.toNatClampNeg), .long (S.2 (37 + 7) (0 : Int32).toNatClampNeg), .int x2]) (m6_part g43) cW6_170 rfl (by decide) hl.1 rfl (Nat.le_of_ble_eq_true rfl) dX6_wage_43 ⟨Nat.zero_le _, Nat.zero_le _⟩ (fun H locs P => ?_)
        exact z_lret C P (by rw [Option.some.inj h]) dX6_wage_46
      · refine lv_ldc2 (v := (-9000000000000000001)) hx hb C.2.2.2.1 (C.2.2.2.2.1 _ kK6_80) dX6_wage_20 ?_
        exact z_lret C P (by rw [Option.some.inj h]) dX6_wage_23
theorem m5_cost {l : Launch} {D : va_G} {cA : Nat → ClassId} {ad : Nat → Nat} {o : Nat} (ho : zW o) {q1 : Nat} (hq1 : zC[q1]? = some (.inr (1, 3, []))) {x2 : Int32} {x3 : Int32} {S : Zs} {z : Int64} (h : f5_cost o q1 S x2 x3 = some z) :
    zMl l yX5_cost cX5_cost 4 0 0 D zC ad cA S [.ref (ad o), .ref (ad q1), .int x2, .int x3] (z, S) := by
  refine z_enter (Qc := fun A => zQl D zC ad cA A (z, S)) (by decide +kernel) (Nat.le_of_ble_eq_true rfl) (fun p e s m below meth c A C P ls hl => ?_)
  have hx := C.1
  have hb := C.2.1
  have hl : lv_has ls 4 [(0, .ref (ad o)), (1, .ref (ad q1)), (2, .int x2), (3, .int x3)] := hl
  unfold f5_cost at h
  refine lv_aload_n hx hb dX5_cost_0 rfl (lv_at hl 1 rfl) ?_
  refine lv_iload_n hx hb dX5_cost_1 rfl (lv_at hl 2 rfl) ?_
  refine z_lald C P hq1 dX5_cost_2 h (fun h hi => ?_)
  refine lv_aload_n hx hb dX5_cost_3 rfl (lv_at hl 0 rfl) ?_
  refine gF5_27 C P ho.1 rfl dX5_cost_4 ?_
  refine lv_iload_n hx hb dX5_cost_7 rfl (lv_at hl 2 rfl) ?_
  refine z_aald C P ho.2.2.2.1 (zrs3 o) ho.2.2.2.2.1 dX5_cost_8 h (fun h hg8 => ?_)
  refine lv_iload_n hx hb dX5_cost_9 rfl (lv_at hl 3 rfl) ?_
  refine z_iald C P hg8 dX5_cost_10 h (fun h hi => ?_)
  refine lv_i2l hx hb dX5_cost_11 rfl ?_
  refine lv_lmul hx hb dX5_cost_12 ?_
  exact z_lret C P (by rw [Option.some.inj h]) dX5_cost_13
theorem w5_makersBy_62 (C : zCx p s m args meth c cX5_makersBy 9 RX5 (some .int) D ad cA A) {o : Nat} (ho : zW o) {q1 : Nat} (hq1 : zC[q1]? = some (.inr (1, 3, []))) {z : Int32} {S : Zs} {k14 : Int32 → Int64 → Int32 → Int32 → Option Int32} (hk14 : ∀ (x2 : Int32) (x3 : Int64) (x5 : Int32) (x6 : Int32) (H : Heap) (locs : List Loc) (ls : Array Slot), k14 x2 x3 x5 x6 = some z → zP D zC ad cA A S s H locs → lv_has ls 9 [(0, .ref (ad o)), (1, .ref (ad q1)), (2, .int x2), (3, .long x3), (5, .int x5), (6, .int x6)] → W p l e (zrm 1 23) s m args below meth c H locs 0 0 (MQ below (zQi D zC ad cA A (z, S)) args s 0 0 A) (F0 m 14 ls [])) (x2 : Int32) (x3 : Int64) (x5 : Int32) (x6 : Int32) (H : Heap) (locs : List Loc) (ls : Array Slot) (h : f5_makersBy_62 o q1 S k14 x2 x3 x5 x6 = some z) (P : zP D zC ad cA A S s H locs) (hl : lv_has ls 9 [(0, .ref (ad o)), (1, .ref (ad q1)), (2, .int x2), (3, .long x3), (5, .int x5), (6, .int x6)]) :
    W p l e (zrm 1 23) s m args below meth c H locs 0 0 (MQ below (zQi D zC ad cA A (z, S)) args s 0 0 A) (F0 m 62 ls []) := by
  have hx := C.1
  have hb := C.2.1
  unfold f5_makersBy_62 at h
  obtain ⟨v62, ev62, h⟩ := z_nm h
  refine lv_iinc (v := v62) (lv' := [(6, .int v62), (0, .ref (ad o)), (1, .ref (ad q1)), (2, .int x2), (3, .long x3), (5, .int x5)]) hx hb dX5_makersBy_62 hl (k := 5) rfl (by rw [ev62]; rfl) (by decide) rfl (fun ls hl => ?_)
  refine lv_goto (tgt := 14) hx hb dX5_makersBy_65 (by decide) ?_
  exact hk14 _ _ _ _ _ _ _ h P (lv_sub hl [1, 2, 3, 4, 5, 0] rfl)
theorem w5_makersBy_46 (C : zCx p s m args meth c cX5_makersBy 9 RX5 (some .int) D ad cA A) {o : Nat} (ho : zW o) {q1 : Nat} (hq1 : zC[q1]? = some (.inr (1, 3, []))) {z : Int32} {S : Zs} {k14 : Int32 → Int64 → Int32 → Int32 → Option Int32} (hk14 : ∀ (x2 : Int32) (x3 : Int64) (x5 : Int32) (x6 : Int32) (H : Heap) (locs : List Loc) (ls : Array Slot), k14 x2 x3 x5 x6 = some z → zP D zC ad cA A S s H locs → lv_has ls 9 [(0, .ref (ad o)), (1, .ref (ad q1)), (2, .int x2), (3, .long x3), (5, .int x5), (6, .int x6)] → W p l e (zrm 1 23) s m args below meth c H locs 0 0 (MQ below (zQi D zC ad cA A (z, S)) args s 0 0 A) (F0 m 14 ls [])) (x2 : Int32) (x3 : Int64) (x5 : Int32) (x6 : Int32) (x7 : Int64) (H : Heap) (locs : List Loc) (ls : Array Slot) (h : f5_makersBy_46 o q1 S k14 x2 x3 x5 x6 x7 = some z) (P : zP D zC ad cA A S s H locs) (hl : lv_has ls 9 [(0, .ref (ad o)), (1, .ref (ad q1)), (2, .int x2), (3, .long x3), (5, .int x5), (6, .int x6), (7, .long x7)]) :
    W p l e (zrm 1 23) s m args below meth c H locs 0 0 (MQ below (zQi D zC ad cA A (z, S)) args s 0 0 A) (F0 m 46 ls []) := by
  have hx := C.1
  have hb := C.2.1
  unfold f5_makersBy_46 at h
  refine lv_lload hx hb dX5_makersBy_46 (lv_at hl 6 rfl) ?_
  refine lv_lload_n hx hb dX5_makersBy_48 rfl (lv_at hl 3 rfl) ?_
  refine z_lcmp_ne (tgt := 62) hx hb dX5_makersBy_49 dX5_makersBy_50 (by decide) h (fun h => ?_) (fun h => ?_)
  · exact w5_makersBy_62 C ho hq1 hk14 _ _ _ _ _ _ _ h P (lv_sub hl [0, 1, 2, 3, 4, 5] rfl)
  · refine lv_iload hx hb dX5_makersBy_53 (lv_at hl 4 rfl) ?_
    refine lv_iconst (v := 1) hx hb dX5_makersBy_55 (by decide) ?_
    refine lv_iload hx hb dX5_makersBy_56 (lv_at hl 5 rfl) ?_
    refine lv_ishl hx hb dX5_makersBy_58 ?_
    refine lv_ior hx hb dX5_makersBy_59 ?_
    refine z_topi h (fun v60 h => ?_)
    refine lv_istore (lv' := [(5, .int v60), (0, .ref (ad o)), (1, .ref (ad q1)), (2, .int x2), (3, .long x3), (6, .int x6), (7, .long x7)]) hx hb dX5_makersBy_60 hl (by decide) rfl (fun ls hl => ?_)
    exact w5_makersBy_62 C ho hq1 hk14 _ _ _ _ _ _ _ h P (lv_sub hl [1, 2, 3, 4, 0, 5] rfl)
theorem w5_makersBy_14 (C : zCx p s m args meth c cX5_makersBy 9 RX5 (some .int) D ad cA A) {o : Nat} (ho : zW o) {q1 : Nat} (hq1 : zC[q1]? = some (.inr (1, 3, []))) {z : Int32} {S : Zs} :
    ∀ (n : Nat) (x2 : Int32) (x3 : Int64) (x5 : Int32) (x6 : Int32) (H : Heap) (locs : List Loc) (ls : Array Slot), f5_makersBy_14 o q1 S n x2 x3 x5 x6 = some z → zP D zC ad cA A S s H locs → lv_has ls 9 [(0, .ref (ad o)), (1, .ref (ad q1)), (2, .int x2), (3, .long x3), (5, .int x5), (6, .int x6)] → W p l e (zrm 1 23) s m args below meth c H locs 0 0 (MQ below (zQi D zC ad cA A (z, S)) args s 0 0 A) (F0 m 14 ls []) := by
  have hx := C.1
  have hb := C.2.1
  intro n
  induction n with
  | zero =>
    intro x2 x3 x5 x6 H locs ls h
    cases h
  | succ n ih =>
    intro x2 x3 x5 x6 H locs ls h P hl
    unfold f5_makersBy_14 at h
    refine lv_iload hx hb dX5_makersBy_14 (lv_at hl 5 rfl) ?_
    refine lv_aload_n hx hb dX5_makersBy_16 rfl (lv_at hl 0 rfl) ?_
    refine gF5_9 C P ho.1 rfl dX5_makersBy_17 ?_
    refine z_icmp_ge (tgt := 68) hx hb dX5_makersBy_20 (by decide) h (fun h => ?_) (fun h => ?_)
    · refine lv_iload hx hb dX5_makersBy_68 (lv_at hl 4 rfl) ?_
      exact z_iret C P (by rw [Option.some.inj h]) dX5_makersBy_70
    · refine lv_aload_n hx hb dX5_makersBy_23 rfl (lv_at hl 0 rfl) ?_
      refine lv_aload_n hx hb dX5_makersBy_24 rfl (lv_at hl 1 rfl) ?_
      refine lv_iload hx hb dX5_makersBy_25 (lv_at hl 5 rfl) ?_
      refine lv_iload_n hx hb dX5_makersBy_27 rfl (lv_at hl 2 rfl) ?_
      obtain ⟨r28, g28, h⟩ := bd1_some h
      refine z_callVl C P (As := [.ref (ad q1), .int x6, .int x2]) (m5_cost ho hq1 g28) cW5_43 rfl ho.1 rfl (by decide) hl.1 rfl (Nat.le_of_ble_eq_true rfl) dX5_makersBy_28 ⟨Nat.zero_le _, Nat.zero_le _⟩ (fun H locs P => ?_)
      refine lv_lstore (lv' := [(7, .long r28), (0, .ref (ad o)), (1, .ref (ad q1)), (2, .int x2), (3, .long x3), (5, .int x5), (6, .int x6)]) hx hb dX5_makersBy_31 hl (by decide) rfl (fun ls hl => ?_)
      refine lv_lload hx hb dX5_makersBy_33 (lv_at hl 0 rfl) ?_
      refine lv_lload_n hx hb dX5_makersBy_35 rfl (lv_at hl 4 rfl) ?_
      refine z_lcmp_ge (tgt := 46) hx hb dX5_makersBy_36 dX5_makersBy_37 (by decide) h (fun h => ?_) (fun h => ?_)
      · exact w5_makersBy_46 C ho hq1 ih _ _ _ _ _ _ _ _ h P (lv_sub hl [1, 2, 3, 4, 5, 6, 0] rfl)
      · refine lv_lload hx hb dX5_makersBy_40 (lv_at hl 0 rfl) ?_
        refine lv_lstore_n (lv' := [(3, .long r28), (7, .long r28), (0, .ref (ad o)), (1, .ref (ad q1)), (2, .int x2), (5, .int x5), (6, .int x6)]) hx hb dX5_makersBy_42 rfl hl (by decide) rfl (fun ls hl => ?_)
        refine lv_iconst (v := 0) hx hb dX5_makersBy_43 (by decide) ?_
        refine lv_istore (lv' := [(5, .int (0 : Int32)), (3, .long r28), (7, .long r28), (0, .ref (ad o)), (1, .ref (ad q1)), (2, .int x2), (6, .int x6)]) hx hb dX5_makersBy_44 hl (by decide) rfl (fun ls hl => ?_)
        exact w5_makersBy_46 C ho hq1 ih _ _ _ _ _ _ _ _ h P (lv_sub hl [3, 4, 5, 1, 0, 6, 2] rfl)
theorem m5_makersBy {l : Launch} {D : va_G} {cA : Nat → ClassId} {ad : Nat → Nat} {o : Nat} (ho : zW o) {q1 : Nat} (hq1 : zC[q1]? = some (.inr (1, 3, []))) {x2 : Int32} {S : Zs} {z : Int32} (h : f5_makersBy o q1 S x2 = some z) :
    zMi l yX5_makersBy cX5_makersBy 9 1 23 D zC ad cA S [.ref (ad o), .ref (ad q1), .int x2] (z, S) := by
  refine z_enter (Qc := fun A => zQi D zC ad cA A (z, S)) (by decide +kernel) (Nat.le_of_ble_eq_true rfl) (fun p e s m below meth c A C P ls hl => ?_)
  have hx := C.1
  have hb := C.2.1
  have hl : lv_has ls 9 [(0, .ref (ad o)), (1, .ref (ad q1)), (2, .int x2)] := hl
  unfold f5_makersBy at h
  refine lv_aload_n hx hb dX5_makersBy_0 rfl (lv_at hl 0 rfl) ?_
  refine lv_aload_n hx hb dX5_makersBy_1 rfl (lv_at hl 1 rfl) ?_
  refine lv_iconst (v := 0) hx hb dX5_makersBy_2 (by decide) ?_
  refine lv_iload_n hx hb dX5_makersBy_3 rfl (lv_at hl 2 rfl) ?_
  obtain ⟨r4, g4, h⟩ := bd1_some h
  refine z_callVl C P (As := [.ref (ad q1), .int (0 : Int32), .int x2]) (m5_cost ho hq1 g4) cW5_43 rfl ho.1 rfl (by decide) hl.1 rfl (Nat.le_of_ble_eq_true rfl) dX5_makersBy_4 ⟨Nat.zero_le _, Nat.zero_le _⟩ (fun H locs P => ?_)
  refine lv_lstore_n (lv' := [(3, .long r4), (0, .ref (ad o)), (1, .ref (ad q1)), (2, .int x2)]) hx hb dX5_makersBy_7 rfl hl (by decide) rfl (fun ls hl => ?_)
  refine lv_iconst (v := 1) hx hb dX5_makersBy_8 (by decide) ?_
  refine lv_istore (lv' := [(5, .int (1 : Int32)), (3, .long r4), (0, .ref (ad o)), (1, .ref (ad q1)), (2, .int x2)]) hx hb dX5_makersBy_9 hl (by decide) rfl (fun ls hl => ?_)
  refine lv_iconst (v := 1) hx hb dX5_makersBy_11 (by decide) ?_
  refine lv_istore (lv' := [(6, .int (1 : Int32)), (5, .int (1 : Int32)), (3, .long r4), (0, .ref (ad o)), (1, .ref (ad q1)), (2, .int x2)]) hx hb dX5_makersBy_12 hl (by decide) rfl (fun ls hl => ?_)
  exact w5_makersBy_14 C ho hq1 _ _ _ _ _ _ _ _ h P (lv_sub hl [3, 4, 5, 2, 1, 0] rfl)
theorem w5_leastCost_11 (C : zCx p s m args meth c cX5_leastCost 6 RX5 (some .long) D ad cA A) {o : Nat} (ho : zW o) {q1 : Nat} (hq1 : zC[q1]? = some (.inr (1, 3, []))) {z : Int64} {S : Zs} :
    ∀ (n : Nat) (x2 : Int32) (x3 : Int64) (x5 : Int32) (H : Heap) (locs : List Loc) (ls : Array Slot), f5_leastCost_11 o q1 S n x2 x3 x5 = some z → zP D zC ad cA A S s H locs → lv_has ls 6 [(0, .ref (ad o)), (1, .ref (ad q1)), (2, .int x2), (3, .long x3), (5, .int x5)] → W p l e (zrm 1 23) s m args below meth c H locs 0 0 (MQ below (zQl D zC ad cA A (z, S)) args s 0 0 A) (F0 m 11 ls []) := by
  have hx := C.1
  have hb := C.2.1
  intro n
  induction n with
  | zero =>
    intro x2 x3 x5 H locs ls h
    cases h
  | succ n ih =>
    intro x2 x3 x5 H locs ls h P hl
    unfold f5_leastCost_11 at h
    refine lv_iload hx hb dX5_leastCost_11 (lv_at hl 4 rfl) ?_
    refine lv_aload_n hx hb dX5_leastCost_13 rfl (lv_at hl 0 rfl) ?_
    refine gF5_9 C P ho.1 rfl dX5_leastCost_14 ?_
    refine z_icmp_ge (tgt := 39) hx hb dX5_leastCost_17 (by decide) h (fun h => ?_) (fun h => ?_)
    · refine lv_lload_n hx hb dX5_leastCost_39 rfl (lv_at hl 3 rfl) ?_
      exact z_lret C P (by rw [Option.some.inj h]) dX5_leastCost_40
    · refine lv_lload_n hx hb dX5_leastCost_20 rfl (lv_at hl 3 rfl) ?_
      refine lv_aload_n hx hb dX5_leastCost_21 rfl (lv_at hl 0 rfl) ?_
      refine lv_aload_n hx hb dX5_leastCost_22 rfl (lv_at hl 1 rfl) ?_
      refine lv_iload hx hb dX5_leastCost_23 (lv_at hl 4 rfl) ?_
      refine lv_iload_n hx hb dX5_leastCost_25 rfl (lv_at hl 2 rfl) ?_
      obtain ⟨r26, g26, h⟩ := bd1_some h
      refine z_callVl C P (As := [.ref (ad q1), .int x5, .int x2]) (m5_cost ho hq1 g26) cW5_43 rfl ho.1 rfl (by decide) hl.1 rfl (Nat.le_of_ble_eq_true rfl) dX5_leastCost_26 ⟨Nat.zero_le _, Nat.zero_le _⟩ (fun H locs P => ?_)
      refine z_minL C zmin5_47 (by decide) hl.1 (Nat.le_of_ble_eq_true rfl) dX5_leastCost_29 ⟨Nat.zero_le _, Nat.zero_le _⟩ ?_
      refine z_topl h (fun v32 h => ?_)
      refine lv_lstore_n (lv' := [(3, .long v32), (0, .ref (ad o)), (1, .ref (ad q1)), (2, .int x2), (5, .int x5)]) hx hb dX5_leastCost_32 rfl hl (by decide) rfl (fun ls hl => ?_)
      obtain ⟨v33, ev33, h⟩ := z_nm h
      refine lv_iinc (v := v33) (lv' := [(5, .int v33), (3, .long v32), (0, .ref (ad o)), (1, .ref (ad q1)), (2, .int x2)]) hx hb dX5_leastCost_33 hl (k := 4) rfl (by rw [ev33]; rfl) (by decide) rfl (fun ls hl => ?_)
      refine lv_goto (tgt := 11) hx hb dX5_leastCost_36 (by decide) ?_
      exact ih _ _ _ _ _ _ h P (lv_sub hl [2, 3, 4, 1, 0] rfl)
theorem m5_leastCost {l : Launch} {D : va_G} {cA : Nat → ClassId} {ad : Nat → Nat} {o : Nat} (ho : zW o) {q1 : Nat} (hq1 : zC[q1]? = some (.inr (1, 3, []))) {x2 : Int32} {S : Zs} {z : Int64} (h : f5_leastCost o q1 S x2 = some z) :
    zMl l yX5_leastCost cX5_leastCost 6 1 23 D zC ad cA S [.ref (ad o), .ref (ad q1), .int x2] (z, S) := by
  refine z_enter (Qc := fun A => zQl D zC ad cA A (z, S)) (by decide +kernel) (Nat.le_of_ble_eq_true rfl) (fun p e s m below meth c A C P ls hl => ?_)
  have hx := C.1
  have hb := C.2.1
  have hl : lv_has ls 6 [(0, .ref (ad o)), (1, .ref (ad q1)), (2, .int x2)] := hl
  unfold f5_leastCost at h
  refine lv_aload_n hx hb dX5_leastCost_0 rfl (lv_at hl 0 rfl) ?_
  refine lv_aload_n hx hb dX5_leastCost_1 rfl (lv_at hl 1 rfl) ?_
  refine lv_iconst (v := 0) hx hb dX5_leastCost_2 (by decide) ?_
  refine lv_iload_n hx hb dX5_leastCost_3 rfl (lv_at hl 2 rfl) ?_
  obtain ⟨r4, g4, h⟩ := bd1_some h
  refine z_callVl C P (As := [.ref (ad q1), .int (0 : Int32), .int x2]) (m5_cost ho hq1 g4) cW5_43 rfl ho.1 rfl (by decide) hl.1 rfl (Nat.le_of_ble_eq_true rfl) dX5_leastCost_4 ⟨Nat.zero_le _, Nat.zero_le _⟩ (fun H locs P => ?_)
  refine lv_lstore_n (lv' := [(3, .long r4), (0, .ref (ad o)), (1, .ref (ad q1)), (2, .int x2)]) hx hb dX5_leastCost_7 rfl hl (by decide) rfl (fun ls hl => ?_)
  refine lv_iconst (v := 1) hx hb dX5_leastCost_8 (by decide) ?_
  refine lv_istore (lv' := [(5, .int (1 : Int32)), (3, .long r4), (0, .ref (ad o)), (1, .ref (ad q1)), (2, .int x2)]) hx hb dX5_leastCost_9 hl (by decide) rfl (fun ls hl => ?_)
  exact w5_leastCost_11 C ho hq1 _ _ _ _ _ _ _ h P (lv_sub hl [2, 3, 4, 1, 0] rfl)
theorem m6_price {l : Launch} {D : va_G} {cA : Nat → ClassId} {ad : Nat → Nat} {x1 : Int32} {x2 : Int32} {S : Zs} {z : Int64} (h : f6_price S x1 x2 = some z) :
    zMl l yX6_price cX6_price 3 2 58 D zC ad cA S [.ref (ad 0), .int x1, .int x2] (z, S) := by
  refine z_enter (Qc := fun A => zQl D zC ad cA A (z, S)) (by decide +kernel) (Nat.le_of_ble_eq_true rfl) (fun p e s m below meth c A C P ls hl => ?_)
  have hx := C.1
  have hb := C.2.1
  have hl : lv_has ls 3 [(0, .ref (ad 0)), (1, .int x1), (2, .int x2)] := hl
  unfold f6_price at h
  refine lv_aload_n hx hb dX6_price_0 rfl (lv_at hl 0 rfl) ?_
  refine gF6_47 C P zs0 rfl dX6_price_1 ?_
  refine lv_iload_n hx hb dX6_price_4 rfl (lv_at hl 1 rfl) ?_
  refine z_callVb C P (As := [.int x1]) (m5_isGood zW_37) cW6_154 rfl zW_37.1 rfl (by decide) hl.1 rfl (Nat.le_of_ble_eq_true rfl) dX6_price_5 ⟨Nat.zero_le _, Nat.zero_le _⟩ (fun H locs n5 P => ?_)
  refine z_if_eq (tgt := 20) hx hb dX6_price_8 (by decide) h (fun h => ?_) (fun h => ?_)
  · refine lv_ldc2 (v := (-9000000000000000001)) hx hb C.2.2.2.1 (C.2.2.2.2.1 _ kK6_80) dX6_price_20 ?_
    exact z_lret C P (by rw [Option.some.inj h]) dX6_price_23
  · refine lv_iload_n hx hb dX6_price_11 rfl (lv_at hl 2 rfl) ?_
    refine z_if_lt (tgt := 20) hx hb dX6_price_12 (by decide) h (fun h => ?_) (fun h => ?_)
    · refine lv_ldc2 (v := (-9000000000000000001)) hx hb C.2.2.2.1 (C.2.2.2.2.1 _ kK6_80) dX6_price_20 ?_
      exact z_lret C P (by rw [Option.some.inj h]) dX6_price_23
    · refine lv_iload_n hx hb dX6_price_15 rfl (lv_at hl 2 rfl) ?_
      refine lv_iconst (v := 2) hx hb dX6_price_16 (by decide) ?_
      refine z_icmp_le (tgt := 24) hx hb dX6_price_17 (by decide) h (fun h => ?_) (fun h => ?_)
      · refine lv_iload_n hx hb dX6_price_24 rfl (lv_at hl 2 rfl) ?_
        refine lv_iconst (v := 2) hx hb dX6_price_25 (by decide) ?_
        refine z_icmp_ne (tgt := 46) hx hb dX6_price_26 (by decide) h (fun h => ?_) (fun h => ?_)
        · refine lv_aload_n hx hb dX6_price_46 rfl (lv_at hl 0 rfl) ?_
          refine gF6_47 C P zs0 rfl dX6_price_47 ?_
          refine lv_aload_n hx hb dX6_price_50 rfl (lv_at hl 0 rfl) ?_
          refine gF6_47 C P zs0 rfl dX6_price_51 ?_
          refine gF6_167 C P zW_37.1 rfl dX6_price_54 ?_
          refine lv_iload_n hx hb dX6_price_57 rfl (lv_at hl 1 rfl) ?_
          obtain ⟨r58, g58, h⟩ := bd1_some h
          refine z_callVl C P (As := [.ref (ad (37 + 7)), .int x1]) (m5_leastCost zW_37 zW_37.2.2.2.2.2.1 g58) cW6_178 rfl zW_37.1 rfl (by decide) hl.1 rfl (Nat.le_of_ble_eq_true rfl) dX6_price_58 ⟨Nat.zero_le _, Nat.zero_le _⟩ (fun H locs P => ?_)
          refine lv_aload_n hx hb dX6_price_61 rfl (lv_at hl 0 rfl) ?_
          refine gF6_47 C P zs0 rfl dX6_price_62 ?_
          refine gF6_167 C P zW_37.1 rfl dX6_price_65 ?_
          refine lv_iconst (v := 0) hx hb dX6_price_68 (by decide) ?_
          refine z_lald C P zW_37.2.2.2.2.2.1 dX6_price_69 h (fun h hi => ?_)
          refine lv_iload_n hx hb dX6_price_70 rfl (lv_at hl 2 rfl) ?_
          obtain ⟨r71, g71, h⟩ := bd1_some h
          refine z_callSl C P (As := [.long r58, .long (S.2 (37 + 7) (0 : Int32).toNatClampNeg), .int x2]) (m6_part g71) cW6_170 rfl (by decide) hl.1 rfl (Nat.le_of_ble_eq_true rfl) dX6_price_71 ⟨Nat.zero_le _, Nat.zero_le _⟩ (fun H locs P => ?_)
          exact z_lret C P (by rw [Option.some.inj h]) dX6_price_74
        · refine lv_aload_n hx hb dX6_price_29 rfl (lv_at hl 0 rfl) ?_
          refine gF6_47 C P zs0 rfl dX6_price_30 ?_
          refine lv_aload_n hx hb dX6_price_33 rfl (lv_at hl 0 rfl) ?_
          refine gF6_47 C P zs0 rfl dX6_price_34 ?_
          refine gF6_167 C P zW_37.1 rfl dX6_price_37 ?_
          refine lv_iload_n hx hb dX6_price_40 rfl (lv_at hl 1 rfl) ?_
          obtain ⟨r41, g41, h⟩ := bd1_some h
          refine z_callVi C P (As := [.ref (ad (37 + 7)), .int x1]) (m5_makersBy zW_37 zW_37.2.2.2.2.2.1 g41) cW6_174 rfl zW_37.1 rfl (by decide) hl.1 rfl (Nat.le_of_ble_eq_true rfl) dX6_price_41 ⟨Nat.zero_le _, Nat.zero_le _⟩ (fun H locs P => ?_)
          refine lv_i2l hx hb dX6_price_44 rfl ?_
          exact z_lret C P (by rw [Option.some.inj h]) dX6_price_45
      · refine lv_ldc2 (v := (-9000000000000000001)) hx hb C.2.2.2.1 (C.2.2.2.2.1 _ kK6_80) dX6_price_20 ?_
        exact z_lret C P (by rw [Option.some.inj h]) dX6_price_23
theorem m6_gain {l : Launch} {D : va_G} {cA : Nat → ClassId} {ad : Nat → Nat} {x1 : Int32} {x2 : Int32} {x3 : Int32} {S : Zs} {z : Int64} (h : f6_gain S x1 x2 x3 = some z) :
    zMl l yX6_gain cX6_gain 4 2 58 D zC ad cA S [.ref (ad 0), .int x1, .int x2, .int x3] (z, S) := by
  refine z_enter (Qc := fun A => zQl D zC ad cA A (z, S)) (by decide +kernel) (Nat.le_of_ble_eq_true rfl) (fun p e s m below meth c A C P ls hl => ?_)
  have hx := C.1
  have hb := C.2.1
  have hl : lv_has ls 4 [(0, .ref (ad 0)), (1, .int x1), (2, .int x2), (3, .int x3)] := hl
  unfold f6_gain at h
  refine lv_aload_n hx hb dX6_gain_0 rfl (lv_at hl 0 rfl) ?_
  refine gF6_47 C P zs0 rfl dX6_gain_1 ?_
  refine lv_iload_n hx hb dX6_gain_4 rfl (lv_at hl 1 rfl) ?_
  refine z_callVb C P (As := [.int x1]) (m5_isLand zW_37) cW6_151 rfl zW_37.1 rfl (by decide) hl.1 rfl (Nat.le_of_ble_eq_true rfl) dX6_gain_5 ⟨Nat.zero_le _, Nat.zero_le _⟩ (fun H locs n5 P => ?_)
  refine z_if_eq (tgt := 31) hx hb dX6_gain_8 (by decide) h (fun h => ?_) (fun h => ?_)
  · refine lv_ldc2 (v := (-9000000000000000001)) hx hb C.2.2.2.1 (C.2.2.2.2.1 _ kK6_80) dX6_gain_31 ?_
    exact z_lret C P (by rw [Option.some.inj h]) dX6_gain_34
  · refine lv_aload_n hx hb dX6_gain_11 rfl (lv_at hl 0 rfl) ?_
    refine gF6_47 C P zs0 rfl dX6_gain_12 ?_
    refine lv_iload_n hx hb dX6_gain_15 rfl (lv_at hl 2 rfl) ?_
    refine z_callVb C P (As := [.int x2]) (m5_isGood zW_37) cW6_154 rfl zW_37.1 rfl (by decide) hl.1 rfl (Nat.le_of_ble_eq_true rfl) dX6_gain_16 ⟨Nat.zero_le _, Nat.zero_le _⟩ (fun H locs n16 P => ?_)
    refine z_if_eq (tgt := 31) hx hb dX6_gain_19 (by decide) h (fun h => ?_) (fun h => ?_)
    · refine lv_ldc2 (v := (-9000000000000000001)) hx hb C.2.2.2.1 (C.2.2.2.2.1 _ kK6_80) dX6_gain_31 ?_
      exact z_lret C P (by rw [Option.some.inj h]) dX6_gain_34
    · refine lv_iload_n hx hb dX6_gain_22 rfl (lv_at hl 3 rfl) ?_
      refine z_if_lt (tgt := 31) hx hb dX6_gain_23 (by decide) h (fun h => ?_) (fun h => ?_)
      · refine lv_ldc2 (v := (-9000000000000000001)) hx hb C.2.2.2.1 (C.2.2.2.2.1 _ kK6_80) dX6_gain_31 ?_
        exact z_lret C P (by rw [Option.some.inj h]) dX6_gain_34
      · refine lv_iload_n hx hb dX6_gain_26 rfl (lv_at hl 3 rfl) ?_
        refine lv_iconst (v := 1) hx hb dX6_gain_27 (by decide) ?_
        refine z_icmp_le (tgt := 35) hx hb dX6_gain_28 (by decide) h (fun h => ?_) (fun h => ?_)
        · refine lv_aload_n hx hb dX6_gain_35 rfl (lv_at hl 0 rfl) ?_
          refine gF6_47 C P zs0 rfl dX6_gain_36 ?_
          refine lv_aload_n hx hb dX6_gain_39 rfl (lv_at hl 0 rfl) ?_
          refine gF6_47 C P zs0 rfl dX6_gain_40 ?_
          refine gF6_167 C P zW_37.1 rfl dX6_gain_43 ?_
          refine lv_iload_n hx hb dX6_gain_46 rfl (lv_at hl 1 rfl) ?_
          refine lv_iload_n hx hb dX6_gain_47 rfl (lv_at hl 2 rfl) ?_
          obtain ⟨r48, g48, h⟩ := bd1_some h
          refine z_callVl C P (As := [.ref (ad (37 + 7)), .int x1, .int x2]) (m5_cost zW_37 zW_37.2.2.2.2.2.1 g48) cW6_182 rfl zW_37.1 rfl (by decide) hl.1 rfl (Nat.le_of_ble_eq_true rfl) dX6_gain_48 ⟨Nat.zero_le _, Nat.zero_le _⟩ (fun H locs P => ?_)
          refine lv_aload_n hx hb dX6_gain_51 rfl (lv_at hl 0 rfl) ?_
          refine gF6_47 C P zs0 rfl dX6_gain_52 ?_
          refine lv_aload_n hx hb dX6_gain_55 rfl (lv_at hl 0 rfl) ?_
          refine gF6_47 C P zs0 rfl dX6_gain_56 ?_
          refine gF6_167 C P zW_37.1 rfl dX6_gain_59 ?_
          refine lv_iload_n hx hb dX6_gain_62 rfl (lv_at hl 2 rfl) ?_
          obtain ⟨r63, g63, h⟩ := bd1_some h
          refine z_callVl C P (As := [.ref (ad (37 + 7)), .int x2]) (m5_leastCost zW_37 zW_37.2.2.2.2.2.1 g63) cW6_178 rfl zW_37.1 rfl (by decide) hl.1 rfl (Nat.le_of_ble_eq_true rfl) dX6_gain_63 ⟨Nat.zero_le _, Nat.zero_le _⟩ (fun H locs P => ?_)
          refine lv_iload_n hx hb dX6_gain_66 rfl (lv_at hl 3 rfl) ?_
          obtain ⟨r67, g67, h⟩ := bd1_some h
          refine z_callSl C P (As := [.long r48, .long r63, .int x3]) (m6_part g67) cW6_170 rfl (by decide) hl.1 rfl (Nat.le_of_ble_eq_true rfl) dX6_gain_67 ⟨Nat.zero_le _, Nat.zero_le _⟩ (fun H locs P => ?_)
          exact z_lret C P (by rw [Option.some.inj h]) dX6_gain_70
        · refine lv_ldc2 (v := (-9000000000000000001)) hx hb C.2.2.2.1 (C.2.2.2.2.1 _ kK6_80) dX6_gain_31 ?_
          exact z_lret C P (by rw [Option.some.inj h]) dX6_gain_34
theorem m5_isThere {l : Launch} {D : va_G} {cA : Nat → ClassId} {ad : Nat → Nat} {o : Nat} (ho : zW o) {S : Zs} :
    zMb l yX5_isThere cX5_isThere 1 0 0 D zC ad cA S [.ref (ad o)] (f5_isThere o S, S) := by
  obtain ⟨z, h⟩ : ∃ z, f5_isThere o S = z := ⟨_, rfl⟩
  rw [h]
  refine z_enter (Qc := fun A => zQb D zC ad cA A (z, S)) (by decide +kernel) (Nat.le_of_ble_eq_true rfl) (fun p e s m below meth c A C P ls hl => ?_)
  have hx := C.1
  have hb := C.2.1
  have hl : lv_has ls 1 [(0, .ref (ad o))] := hl
  unfold f5_isThere at h
  refine lv_aload_n hx hb dX5_isThere_0 rfl (lv_at hl 0 rfl) ?_
  refine gF5_9 C P ho.1 rfl dX5_isThere_1 ?_
  refine z_if_le (tgt := 11) hx hb dX5_isThere_4 (by decide) h (fun h => ?_) (fun h => ?_)
  · refine lv_iconst (v := 0) hx hb dX5_isThere_11 (by decide) ?_
    exact z_zret C P (by rw [h]) (by decide) dX5_isThere_12
  · refine lv_iconst (v := 1) hx hb dX5_isThere_7 (by decide) ?_
    refine lv_goto (tgt := 12) hx hb dX5_isThere_8 (by decide) ?_
    exact z_zret C P (by rw [h]) (by decide) dX5_isThere_12
theorem m6_findingAt {l : Launch} {D : va_G} {cA : Nat → ClassId} {ad : Nat → Nat} {x1 : Int32} {x2 : Int32} {x3 : Int32} {S : Zs} {z : Int32} (h : f6_findingAt S x1 x2 x3 = some z) :
    zMi l yX6_findingAt cX6_findingAt 4 1 23 D zC ad cA S [.ref (ad 0), .int x1, .int x2, .int x3] (z, S) := by
  refine z_enter (Qc := fun A => zQi D zC ad cA A (z, S)) (by decide +kernel) (Nat.le_of_ble_eq_true rfl) (fun p e s m below meth c A C P ls hl => ?_)
  have hx := C.1
  have hb := C.2.1
  have hl : lv_has ls 4 [(0, .ref (ad 0)), (1, .int x1), (2, .int x2), (3, .int x3)] := hl
  unfold f6_findingAt at h
  refine lv_aload_n hx hb dX6_findingAt_0 rfl (lv_at hl 0 rfl) ?_
  refine gF6_12 C P zs0 rfl dX6_findingAt_1 ?_
  refine lv_iload_n hx hb dX6_findingAt_4 rfl (lv_at hl 1 rfl) ?_
  obtain ⟨r5, g5, h⟩ := bd1_some h
  refine z_callVb C P (As := [.int x1]) (m2_isMissing g5) cW6_94 rfl zs1 rfl (by decide) hl.1 rfl (Nat.le_of_ble_eq_true rfl) dX6_findingAt_5 ⟨Nat.zero_le _, Nat.zero_le _⟩ (fun H locs n5 P => ?_)
  refine z_if_eq (tgt := 13) hx hb dX6_findingAt_8 (by decide) h (fun h => ?_) (fun h => ?_)
  · refine lv_aload_n hx hb dX6_findingAt_13 rfl (lv_at hl 0 rfl) ?_
    refine gF6_12 C P zs0 rfl dX6_findingAt_14 ?_
    refine lv_iload_n hx hb dX6_findingAt_17 rfl (lv_at hl 1 rfl) ?_
    refine lv_iload_n hx hb dX6_findingAt_18 rfl (lv_at hl 2 rfl) ?_
    refine lv_iload_n hx hb dX6_findingAt_19 rfl (lv_at hl 3 rfl) ?_
    obtain ⟨r20, g20, h⟩ := bd1_some h
    refine z_callVb C P (As := [.int x1, .int x2, .int x3]) (m2_has g20) cW6_97 rfl zs1 rfl (by decide) hl.1 rfl (Nat.le_of_ble_eq_true rfl) dX6_findingAt_20 ⟨Nat.zero_le _, Nat.zero_le _⟩ (fun H locs n20 P => ?_)
    refine z_if_eq (tgt := 30) hx hb dX6_findingAt_23 (by decide) h (fun h => ?_) (fun h => ?_)
    · refine lv_iconst (v := 2) hx hb dX6_findingAt_30 (by decide) ?_
      exact z_iret C P (by rw [Option.some.inj h]) dX6_findingAt_31
    · refine lv_iconst (v := 0) hx hb dX6_findingAt_26 (by decide) ?_
      refine lv_goto (tgt := 31) hx hb dX6_findingAt_27 (by decide) ?_
      exact z_iret C P (by rw [Option.some.inj h]) dX6_findingAt_31
  · refine lv_iconst (v := 1) hx hb dX6_findingAt_11 (by decide) ?_
    exact z_iret C P (by rw [Option.some.inj h]) dX6_findingAt_12
theorem m2_item {l : Launch} {D : va_G} {cA : Nat → ClassId} {ad : Nat → Nat} {x1 : Int32} {x2 : Int32} {S : Zs} {z : Int32} (h : f2_item S x1 x2 = some z) :
    zMi l yX2_item cX2_item 3 0 0 D zC ad cA S [.ref (ad 1), .int x1, .int x2] (z, S) := by
  refine z_enter (Qc := fun A => zQi D zC ad cA A (z, S)) (by decide +kernel) (Nat.le_of_ble_eq_true rfl) (fun p e s m below meth c A C P ls hl => ?_)
  have hx := C.1
  have hb := C.2.1
  have hl : lv_has ls 3 [(0, .ref (ad 1)), (1, .int x1), (2, .int x2)] := hl
  unfold f2_item at h
  refine lv_aload_n hx hb dX2_item_0 rfl (lv_at hl 0 rfl) ?_
  refine gF2_11 C P zs1 rfl dX2_item_1 ?_
  refine lv_iload_n hx hb dX2_item_4 rfl (lv_at hl 1 rfl) ?_
  refine z_aald C P zs2 zs2r zs2g dX2_item_5 h (fun h hg5 => ?_)
  refine lv_iload_n hx hb dX2_item_6 rfl (lv_at hl 2 rfl) ?_
  refine z_iald C P hg5 dX2_item_7 h (fun h hi => ?_)
  exact z_iret C P (by rw [Option.some.inj h]) dX2_item_8
theorem w5_allShares_4 (C : zCx p s m args meth c cX5_allShares 3 RX5 (some .int) D ad cA A) {o : Nat} (ho : zW o) {z : Int32} {S : Zs} :
    ∀ (n : Nat) (x1 : Int32) (x2 : Int32) (H : Heap) (locs : List Loc) (ls : Array Slot), f5_allShares_4 o S n x1 x2 = some z → zP D zC ad cA A S s H locs → lv_has ls 3 [(0, .ref (ad o)), (1, .int x1), (2, .int x2)] → W p l e (zrm 0 0) s m args below meth c H locs 0 0 (MQ below (zQi D zC ad cA A (z, S)) args s 0 0 A) (F0 m 4 ls []) := by
  have hx := C.1
  have hb := C.2.1
  intro n
  induction n with
  | zero =>
    intro x1 x2 H locs ls h
    cases h
  | succ n ih =>
    intro x1 x2 H locs ls h P hl
    unfold f5_allShares_4 at h
    refine lv_iload_n hx hb dX5_allShares_4 rfl (lv_at hl 2 rfl) ?_
    refine lv_aload_n hx hb dX5_allShares_5 rfl (lv_at hl 0 rfl) ?_
    refine gF5_15 C P ho.1 rfl dX5_allShares_6 ?_
    refine z_icmp_ge (tgt := 27) hx hb dX5_allShares_9 (by decide) h (fun h => ?_) (fun h => ?_)
    · refine lv_iload_n hx hb dX5_allShares_27 rfl (lv_at hl 1 rfl) ?_
      exact z_iret C P (by rw [Option.some.inj h]) dX5_allShares_28
    · refine lv_iload_n hx hb dX5_allShares_12 rfl (lv_at hl 1 rfl) ?_
      refine lv_aload_n hx hb dX5_allShares_13 rfl (lv_at hl 0 rfl) ?_
      refine gF5_18 C P ho.1 rfl dX5_allShares_14 ?_
      refine lv_iload_n hx hb dX5_allShares_17 rfl (lv_at hl 2 rfl) ?_
      refine z_iald C P ho.2.1 dX5_allShares_18 h (fun h hi => ?_)
      refine lv_iadd hx hb dX5_allShares_19 ?_
      refine z_topi h (fun v20 h => ?_)
      refine lv_istore_n (lv' := [(1, .int v20), (0, .ref (ad o)), (2, .int x2)]) hx hb dX5_allShares_20 rfl hl (by decide) rfl (fun ls hl => ?_)
      obtain ⟨v21, ev21, h⟩ := z_nm h
      refine lv_iinc (v := v21) (lv' := [(2, .int v21), (1, .int v20), (0, .ref (ad o))]) hx hb dX5_allShares_21 hl (k := 2) rfl (by rw [ev21]; rfl) (by decide) rfl (fun ls hl => ?_)
      refine lv_goto (tgt := 4) hx hb dX5_allShares_24 (by decide) ?_
      exact ih _ _ _ _ _ h P (lv_sub hl [2, 1, 0] rfl)
theorem m5_allShares {l : Launch} {D : va_G} {cA : Nat → ClassId} {ad : Nat → Nat} {o : Nat} (ho : zW o) {S : Zs} {z : Int32} (h : f5_allShares o S = some z) :
    zMi l yX5_allShares cX5_allShares 3 0 0 D zC ad cA S [.ref (ad o)] (z, S) := by
  refine z_enter (Qc := fun A => zQi D zC ad cA A (z, S)) (by decide +kernel) (Nat.le_of_ble_eq_true rfl) (fun p e s m below meth c A C P ls hl => ?_)
  have hx := C.1
  have hb := C.2.1
  have hl : lv_has ls 3 [(0, .ref (ad o))] := hl
  unfold f5_allShares at h
  refine lv_iconst (v := 0) hx hb dX5_allShares_0 (by decide) ?_
  refine lv_istore_n (lv' := [(1, .int (0 : Int32)), (0, .ref (ad o))]) hx hb dX5_allShares_1 rfl hl (by decide) rfl (fun ls hl => ?_)
  refine lv_iconst (v := 0) hx hb dX5_allShares_2 (by decide) ?_
  refine lv_istore_n (lv' := [(2, .int (0 : Int32)), (1, .int (0 : Int32)), (0, .ref (ad o))]) hx hb dX5_allShares_3 rfl hl (by decide) rfl (fun ls hl => ?_)
  exact w5_allShares_4 C ho _ _ _ _ _ _ h P (lv_sub hl [2, 1, 0] rfl)
theorem m5_allLands {l : Launch} {D : va_G} {cA : Nat → ClassId} {ad : Nat → Nat} {o : Nat} (ho : zW o) {S : Zs} :
    zMi l yX5_allLands cX5_allLands 1 0 0 D zC ad cA S [.ref (ad o)] (f5_allLands o S, S) := by
  obtain ⟨z, h⟩ : ∃ z, f5_allLands o S = z := ⟨_, rfl⟩
  rw [h]
  refine z_enter (Qc := fun A => zQi D zC ad cA A (z, S)) (by decide +kernel) (Nat.le_of_ble_eq_true rfl) (fun p e s m below meth c A C P ls hl => ?_)
  have hx := C.1
  have hb := C.2.1
  have hl : lv_has ls 1 [(0, .ref (ad o))] := hl
  unfold f5_allLands at h
  refine lv_iconst (v := 1) hx hb dX5_allLands_0 (by decide) ?_
  refine lv_aload_n hx hb dX5_allLands_1 rfl (lv_at hl 0 rfl) ?_
  refine gF5_9 C P ho.1 rfl dX5_allLands_2 ?_
  refine lv_ishl hx hb dX5_allLands_5 ?_
  refine lv_iconst (v := 1) hx hb dX5_allLands_6 (by decide) ?_
  refine lv_isub hx hb dX5_allLands_7 ?_
  exact z_iret C P (by rw [h]) dX5_allLands_8
theorem w5_incomeOf_39 (C : zCx p s m args meth c cX5_incomeOf 6 RX5 (some .long) D ad cA A) {o : Nat} (ho : zW o) {q1 : Nat} (hq1 : zC[q1]? = some (.inr (1, 3, []))) {z : Int64} {S : Zs} {k5 : Int32 → Int64 → Int32 → Option Int64} (hk5 : ∀ (x2 : Int32) (x3 : Int64) (x5 : Int32) (H : Heap) (locs : List Loc) (ls : Array Slot), k5 x2 x3 x5 = some z → zP D zC ad cA A S s H locs → lv_has ls 6 [(0, .ref (ad o)), (1, .ref (ad q1)), (2, .int x2), (3, .long x3), (5, .int x5)] → W p l e (zrm 0 0) s m args below meth c H locs 0 0 (MQ below (zQl D zC ad cA A (z, S)) args s 0 0 A) (F0 m 5 ls [])) (x2 : Int32) (x3 : Int64) (x5 : Int32) (H : Heap) (locs : List Loc) (ls : Array Slot) (h : f5_incomeOf_39 o q1 S k5 x2 x3 x5 = some z) (P : zP D zC ad cA A S s H locs) (hl : lv_has ls 6 [(0, .ref (ad o)), (1, .ref (ad q1)), (2, .int x2), (3, .long x3), (5, .int x5)]) :
    W p l e (zrm 0 0) s m args below meth c H locs 0 0 (MQ below (zQl D zC ad cA A (z, S)) args s 0 0 A) (F0 m 39 ls []) := by
  have hx := C.1
  have hb := C.2.1
  unfold f5_incomeOf_39 at h
  obtain ⟨v39, ev39, h⟩ := z_nm h
  refine lv_iinc (v := v39) (lv' := [(5, .int v39), (0, .ref (ad o)), (1, .ref (ad q1)), (2, .int x2), (3, .long x3)]) hx hb dX5_incomeOf_39 hl (k := 4) rfl (by rw [ev39]; rfl) (by decide) rfl (fun ls hl => ?_)
  refine lv_goto (tgt := 5) hx hb dX5_incomeOf_42 (by decide) ?_
  exact hk5 _ _ _ _ _ _ h P (lv_sub hl [1, 2, 3, 4, 0] rfl)
theorem w5_incomeOf_5 (C : zCx p s m args meth c cX5_incomeOf 6 RX5 (some .long) D ad cA A) {o : Nat} (ho : zW o) {q1 : Nat} (hq1 : zC[q1]? = some (.inr (1, 3, []))) {z : Int64} {S : Zs} :
    ∀ (n : Nat) (x2 : Int32) (x3 : Int64) (x5 : Int32) (H : Heap) (locs : List Loc) (ls : Array Slot), f5_incomeOf_5 o q1 S n x2 x3 x5 = some z → zP D zC ad cA A S s H locs → lv_has ls 6 [(0, .ref (ad o)), (1, .ref (ad q1)), (2, .int x2), (3, .long x3), (5, .int x5)] → W p l e (zrm 0 0) s m args below meth c H locs 0 0 (MQ below (zQl D zC ad cA A (z, S)) args s 0 0 A) (F0 m 5 ls []) := by
  have hx := C.1
  have hb := C.2.1
  intro n
  induction n with
  | zero =>
    intro x2 x3 x5 H locs ls h
    cases h
  | succ n ih =>
    intro x2 x3 x5 H locs ls h P hl
    unfold f5_incomeOf_5 at h
    refine lv_iload hx hb dX5_incomeOf_5 (lv_at hl 4 rfl) ?_
    refine lv_aload_n hx hb dX5_incomeOf_7 rfl (lv_at hl 0 rfl) ?_
    refine gF5_9 C P ho.1 rfl dX5_incomeOf_8 ?_
    refine z_icmp_ge (tgt := 45) hx hb dX5_incomeOf_11 (by decide) h (fun h => ?_) (fun h => ?_)
    · refine lv_lload_n hx hb dX5_incomeOf_45 rfl (lv_at hl 3 rfl) ?_
      exact z_lret C P (by rw [Option.some.inj h]) dX5_incomeOf_46
    · refine lv_iload_n hx hb dX5_incomeOf_14 rfl (lv_at hl 2 rfl) ?_
      refine lv_iload hx hb dX5_incomeOf_15 (lv_at hl 4 rfl) ?_
      refine lv_ishr hx hb dX5_incomeOf_17 ?_
      refine lv_iconst (v := 1) hx hb dX5_incomeOf_18 (by decide) ?_
      refine lv_iand hx hb dX5_incomeOf_19 ?_
      refine z_if_eq (tgt := 39) hx hb dX5_incomeOf_20 (by decide) h (fun h => ?_) (fun h => ?_)
      · exact w5_incomeOf_39 C ho hq1 ih _ _ _ _ _ _ h P (lv_sub hl [0, 1, 2, 3, 4] rfl)
      · refine lv_lload_n hx hb dX5_incomeOf_23 rfl (lv_at hl 3 rfl) ?_
        refine lv_aload_n hx hb dX5_incomeOf_24 rfl (lv_at hl 0 rfl) ?_
        refine gF5_22 C P ho.1 rfl dX5_incomeOf_25 ?_
        refine lv_iload hx hb dX5_incomeOf_28 (lv_at hl 4 rfl) ?_
        refine z_iald C P ho.2.2.1 dX5_incomeOf_30 h (fun h hi => ?_)
        refine lv_i2l hx hb dX5_incomeOf_31 rfl ?_
        refine lv_aload_n hx hb dX5_incomeOf_32 rfl (lv_at hl 1 rfl) ?_
        refine lv_iload hx hb dX5_incomeOf_33 (lv_at hl 4 rfl) ?_
        refine z_lald C P hq1 dX5_incomeOf_35 h (fun h hi => ?_)
        refine lv_lmul hx hb dX5_incomeOf_36 ?_
        refine lv_ladd hx hb dX5_incomeOf_37 ?_
        refine z_topl h (fun v38 h => ?_)
        refine lv_lstore_n (lv' := [(3, .long v38), (0, .ref (ad o)), (1, .ref (ad q1)), (2, .int x2), (5, .int x5)]) hx hb dX5_incomeOf_38 rfl hl (by decide) rfl (fun ls hl => ?_)
        exact w5_incomeOf_39 C ho hq1 ih _ _ _ _ _ _ h P (lv_sub hl [1, 2, 3, 0, 4] rfl)
theorem m5_incomeOf {l : Launch} {D : va_G} {cA : Nat → ClassId} {ad : Nat → Nat} {o : Nat} (ho : zW o) {q1 : Nat} (hq1 : zC[q1]? = some (.inr (1, 3, []))) {x2 : Int32} {S : Zs} {z : Int64} (h : f5_incomeOf o q1 S x2 = some z) :
    zMl l yX5_incomeOf cX5_incomeOf 6 0 0 D zC ad cA S [.ref (ad o), .ref (ad q1), .int x2] (z, S) := by
  refine z_enter (Qc := fun A => zQl D zC ad cA A (z, S)) (by decide +kernel) (Nat.le_of_ble_eq_true rfl) (fun p e s m below meth c A C P ls hl => ?_)
  have hx := C.1
  have hb := C.2.1
  have hl : lv_has ls 6 [(0, .ref (ad o)), (1, .ref (ad q1)), (2, .int x2)] := hl
  unfold f5_incomeOf at h
  refine lv_lconst (v := 0) hx hb dX5_incomeOf_0 (by decide) ?_
  refine lv_lstore_n (lv' := [(3, .long (0 : Int64)), (0, .ref (ad o)), (1, .ref (ad q1)), (2, .int x2)]) hx hb dX5_incomeOf_1 rfl hl (by decide) rfl (fun ls hl => ?_)
  refine lv_iconst (v := 0) hx hb dX5_incomeOf_2 (by decide) ?_
  refine lv_istore (lv' := [(5, .int (0 : Int32)), (3, .long (0 : Int64)), (0, .ref (ad o)), (1, .ref (ad q1)), (2, .int x2)]) hx hb dX5_incomeOf_3 hl (by decide) rfl (fun ls hl => ?_)
  exact w5_incomeOf_5 C ho hq1 _ _ _ _ _ _ _ h P (lv_sub hl [2, 3, 4, 1, 0] rfl)
theorem w5_sharesFor_37 (C : zCx p s m args meth c cX5_sharesFor 5 RX5 (some .long) D ad cA A) {o : Nat} (ho : zW o) {z : Int64} {S : Zs} {k5 : Int32 → Int64 → Int32 → Option Int64} (hk5 : ∀ (x1 : Int32) (x2 : Int64) (x4 : Int32) (H : Heap) (locs : List Loc) (ls : Array Slot), k5 x1 x2 x4 = some z → zP D zC ad cA A S s H locs → lv_has ls 5 [(0, .ref (ad o)), (1, .int x1), (2, .long x2), (4, .int x4)] → W p l e (zrm 0 0) s m args below meth c H locs 0 0 (MQ below (zQl D zC ad cA A (z, S)) args s 0 0 A) (F0 m 5 ls [])) (x1 : Int32) (x2 : Int64) (x4 : Int32) (H : Heap) (locs : List Loc) (ls : Array Slot) (h : f5_sharesFor_37 o S k5 x1 x2 x4 = some z) (P : zP D zC ad cA A S s H locs) (hl : lv_has ls 5 [(0, .ref (ad o)), (1, .int x1), (2, .long x2), (4, .int x4)]) :
    W p l e (zrm 0 0) s m args below meth c H locs 0 0 (MQ below (zQl D zC ad cA A (z, S)) args s 0 0 A) (F0 m 37 ls []) := by
  have hx := C.1
  have hb := C.2.1
  unfold f5_sharesFor_37 at h
  obtain ⟨v37, ev37, h⟩ := z_nm h
  refine lv_iinc (v := v37) (lv' := [(4, .int v37), (0, .ref (ad o)), (1, .int x1), (2, .long x2)]) hx hb dX5_sharesFor_37 hl (k := 3) rfl (by rw [ev37]; rfl) (by decide) rfl (fun ls hl => ?_)
  refine lv_goto (tgt := 5) hx hb dX5_sharesFor_40 (by decide) ?_
  exact hk5 _ _ _ _ _ _ h P (lv_sub hl [1, 2, 3, 0] rfl)
theorem w5_sharesFor_5 (C : zCx p s m args meth c cX5_sharesFor 5 RX5 (some .long) D ad cA A) {o : Nat} (ho : zW o) {z : Int64} {S : Zs} :
    ∀ (n : Nat) (x1 : Int32) (x2 : Int64) (x4 : Int32) (H : Heap) (locs : List Loc) (ls : Array Slot), f5_sharesFor_5 o S n x1 x2 x4 = some z → zP D zC ad cA A S s H locs → lv_has ls 5 [(0, .ref (ad o)), (1, .int x1), (2, .long x2), (4, .int x4)] → W p l e (zrm 0 0) s m args below meth c H locs 0 0 (MQ below (zQl D zC ad cA A (z, S)) args s 0 0 A) (F0 m 5 ls []) := by
  have hx := C.1
  have hb := C.2.1
  intro n
  induction n with
  | zero =>
    intro x1 x2 x4 H locs ls h
    cases h
  | succ n ih =>
    intro x1 x2 x4 H locs ls h P hl
    unfold f5_sharesFor_5 at h
    refine lv_iload hx hb dX5_sharesFor_5 (lv_at hl 3 rfl) ?_
    refine lv_aload_n hx hb dX5_sharesFor_7 rfl (lv_at hl 0 rfl) ?_
    refine gF5_15 C P ho.1 rfl dX5_sharesFor_8 ?_
    refine z_icmp_ge (tgt := 43) hx hb dX5_sharesFor_11 (by decide) h (fun h => ?_) (fun h => ?_)
    · refine lv_lload_n hx hb dX5_sharesFor_43 rfl (lv_at hl 2 rfl) ?_
      exact z_lret C P (by rw [Option.some.inj h]) dX5_sharesFor_44
    · refine lv_aload_n hx hb dX5_sharesFor_14 rfl (lv_at hl 0 rfl) ?_
      refine gF5_34 C P ho.1 rfl dX5_sharesFor_15 ?_
      refine lv_iload hx hb dX5_sharesFor_18 (lv_at hl 3 rfl) ?_
      refine z_iald C P ho.2.2.2.2.2.2 dX5_sharesFor_20 h (fun h hi => ?_)
      refine lv_iload_n hx hb dX5_sharesFor_21 rfl (lv_at hl 1 rfl) ?_
      refine lv_iand hx hb dX5_sharesFor_22 ?_
      refine z_if_eq (tgt := 37) hx hb dX5_sharesFor_23 (by decide) h (fun h => ?_) (fun h => ?_)
      · exact w5_sharesFor_37 C ho ih _ _ _ _ _ _ h P (lv_sub hl [0, 1, 2, 3] rfl)
      · refine lv_lload_n hx hb dX5_sharesFor_26 rfl (lv_at hl 2 rfl) ?_
        refine lv_aload_n hx hb dX5_sharesFor_27 rfl (lv_at hl 0 rfl) ?_
        refine gF5_18 C P ho.1 rfl dX5_sharesFor_28 ?_
        refine lv_iload hx hb dX5_sharesFor_31 (lv_at hl 3 rfl) ?_
        refine z_iald C P ho.2.1 dX5_sharesFor_33 h (fun h hi => ?_)
        refine lv_i2l hx hb dX5_sharesFor_34 rfl ?_
        refine lv_ladd hx hb dX5_sharesFor_35 ?_
        refine z_topl h (fun v36 h => ?_)
        refine lv_lstore_n (lv' := [(2, .long v36), (0, .ref (ad o)), (1, .int x1), (4, .int x4)]) hx hb dX5_sharesFor_36 rfl hl (by decide) rfl (fun ls hl => ?_)
        exact w5_sharesFor_37 C ho ih _ _ _ _ _ _ h P (lv_sub hl [1, 2, 0, 3] rfl)
theorem m5_sharesFor {l : Launch} {D : va_G} {cA : Nat → ClassId} {ad : Nat → Nat} {o : Nat} (ho : zW o) {x1 : Int32} {S : Zs} {z : Int64} (h : f5_sharesFor o S x1 = some z) :
    zMl l yX5_sharesFor cX5_sharesFor 5 0 0 D zC ad cA S [.ref (ad o), .int x1] (z, S) := by
  refine z_enter (Qc := fun A => zQl D zC ad cA A (z, S)) (by decide +kernel) (Nat.le_of_ble_eq_true rfl) (fun p e s m below meth c A C P ls hl => ?_)
  have hx := C.1
  have hb := C.2.1
  have hl : lv_has ls 5 [(0, .ref (ad o)), (1, .int x1)] := hl
  unfold f5_sharesFor at h
  refine lv_lconst (v := 0) hx hb dX5_sharesFor_0 (by decide) ?_
  refine lv_lstore_n (lv' := [(2, .long (0 : Int64)), (0, .ref (ad o)), (1, .int x1)]) hx hb dX5_sharesFor_1 rfl hl (by decide) rfl (fun ls hl => ?_)
  refine lv_iconst (v := 0) hx hb dX5_sharesFor_2 (by decide) ?_
  refine lv_istore (lv' := [(4, .int (0 : Int32)), (2, .long (0 : Int64)), (0, .ref (ad o)), (1, .int x1)]) hx hb dX5_sharesFor_3 hl (by decide) rfl (fun ls hl => ?_)
  exact w5_sharesFor_5 C ho _ _ _ _ _ _ _ h P (lv_sub hl [2, 3, 1, 0] rfl)
theorem w5_idleBy_48 (C : zCx p s m args meth c cX5_idleBy 7 RX5 (some .int) D ad cA A) {o : Nat} (ho : zW o) {q1 : Nat} (hq1 : zC[q1]? = some (.inr (1, 3, []))) {z : Int32 × Zs} :
    ∀ (n : Nat) (x2 : Int64) (x4 : Int64) (x6 : Int32) (S : Zs) (H : Heap) (locs : List Loc) (ls : Array Slot), f5_idleBy_48 o q1 n x2 x4 x6 S = some z → zP D zC ad cA A S s H locs → lv_has ls 7 [(0, .ref (ad o)), (1, .ref (ad q1)), (2, .long x2), (4, .long x4), (6, .int x6)] → W p l e (zrm 2 51) s m args below meth c H locs 0 0 (MQ below (zQi D zC ad cA A z) args s 0 0 A) (F0 m 48 ls []) := by
  have hx := C.1
  have hb := C.2.1
  intro n
  induction n with
  | zero =>
    intro x2 x4 x6 S H locs ls h
    cases h
  | succ n ih =>
    intro x2 x4 x6 S H locs ls h P hl
    unfold f5_idleBy_48 at h
    refine lv_iload hx hb dX5_idleBy_48 (lv_at hl 4 rfl) ?_
    refine lv_aload_n hx hb dX5_idleBy_50 rfl (lv_at hl 0 rfl) ?_
    refine z_callVi C P (As := []) (m5_allLands ho) cW5_61 rfl ho.1 rfl (by decide) hl.1 rfl (Nat.le_of_ble_eq_true rfl) dX5_idleBy_51 ⟨Nat.zero_le _, Nat.zero_le _⟩ (fun H locs P => ?_)
    refine z_icmp_gt (tgt := 88) hx hb dX5_idleBy_54 (by decide) h (fun h => ?_) (fun h => ?_)
    · refine lv_iconst (v := 0) hx hb dX5_idleBy_88 (by decide) ?_
      exact z_iret C P (Option.some.inj h) dX5_idleBy_89
    · refine lv_aload_n hx hb dX5_idleBy_57 rfl (lv_at hl 0 rfl) ?_
      refine lv_aload_n hx hb dX5_idleBy_58 rfl (lv_at hl 1 rfl) ?_
      refine lv_iload hx hb dX5_idleBy_59 (lv_at hl 4 rfl) ?_
      obtain ⟨r61, g61, h⟩ := bd1_some h
      refine z_callVl C P (As := [.ref (ad q1), .int x6]) (m5_incomeOf ho hq1 g61) cW5_64 rfl ho.1 rfl (by decide) hl.1 rfl (Nat.le_of_ble_eq_true rfl) dX5_idleBy_61 ⟨Nat.zero_le _, Nat.zero_le _⟩ (fun H locs P => ?_)
      refine lv_lload_n hx hb dX5_idleBy_64 rfl (lv_at hl 2 rfl) ?_
      refine lv_lmul hx hb dX5_idleBy_65 ?_
      refine lv_lload hx hb dX5_idleBy_66 (lv_at hl 3 rfl) ?_
      refine lv_aload_n hx hb dX5_idleBy_68 rfl (lv_at hl 0 rfl) ?_
      refine lv_iload hx hb dX5_idleBy_69 (lv_at hl 4 rfl) ?_
      obtain ⟨r71, g71, h⟩ := bd1_some h
      refine z_callVl C P (As := [.int x6]) (m5_sharesFor ho g71) cW5_68 rfl ho.1 rfl (by decide) hl.1 rfl (Nat.le_of_ble_eq_true rfl) dX5_idleBy_71 ⟨Nat.zero_le _, Nat.zero_le _⟩ (fun H locs P => ?_)
      refine lv_lmul hx hb dX5_idleBy_74 ?_
      refine z_lcmp_le (tgt := 82) hx hb dX5_idleBy_75 dX5_idleBy_76 (by decide) h (fun h => ?_) (fun h => ?_)
      · obtain ⟨v82, ev82, h⟩ := z_nm h
        refine lv_iinc (v := v82) (lv' := [(6, .int v82), (0, .ref (ad o)), (1, .ref (ad q1)), (2, .long x2), (4, .long x4)]) hx hb dX5_idleBy_82 hl (k := 4) rfl (by rw [ev82]; rfl) (by decide) rfl (fun ls hl => ?_)
        refine lv_goto (tgt := 48) hx hb dX5_idleBy_85 (by decide) ?_
        exact ih _ _ _ _ _ _ _ h P (lv_sub hl [1, 2, 3, 4, 0] rfl)
      · refine lv_iload hx hb dX5_idleBy_79 (lv_at hl 4 rfl) ?_
        exact z_iret C P (Option.some.inj h) dX5_idleBy_81
theorem w5_idleBy_2 (C : zCx p s m args meth c cX5_idleBy 7 RX5 (some .int) D ad cA A) {o : Nat} (ho : zW o) {q1 : Nat} (hq1 : zC[q1]? = some (.inr (1, 3, []))) {z : Int32 × Zs} :
    ∀ (n : Nat) (x2 : Int32) (S : Zs) (H : Heap) (locs : List Loc) (ls : Array Slot), f5_idleBy_2 o q1 n x2 S = some z → zP D zC ad cA A S s H locs → lv_has ls 7 [(0, .ref (ad o)), (1, .ref (ad q1)), (2, .int x2)] → W p l e (zrm 2 51) s m args below meth c H locs 0 0 (MQ below (zQi D zC ad cA A z) args s 0 0 A) (F0 m 2 ls []) := by
  have hx := C.1
  have hb := C.2.1
  intro n
  induction n with
  | zero =>
    intro x2 S H locs ls h
    cases h
  | succ n ih =>
    intro x2 S H locs ls h P hl
    unfold f5_idleBy_2 at h
    refine lv_iload_n hx hb dX5_idleBy_2 rfl (lv_at hl 2 rfl) ?_
    refine lv_aload_n hx hb dX5_idleBy_3 rfl (lv_at hl 0 rfl) ?_
    refine gF5_15 C P ho.1 rfl dX5_idleBy_4 ?_
    refine z_icmp_ge (tgt := 28) hx hb dX5_idleBy_7 (by decide) h (fun h => ?_) (fun h => ?_)
    · refine lv_aload_n hx hb dX5_idleBy_28 rfl (lv_at hl 0 rfl) ?_
      obtain ⟨r29, g29, h⟩ := bd1_some h
      refine z_callVi C P (As := []) (m5_allShares ho g29) cW5_57 rfl ho.1 rfl (by decide) hl.1 rfl (Nat.le_of_ble_eq_true rfl) dX5_idleBy_29 ⟨Nat.zero_le _, Nat.zero_le _⟩ (fun H locs P => ?_)
      refine lv_i2l hx hb dX5_idleBy_32 rfl ?_
      refine z_topl h (fun v33 h => ?_)
      refine lv_lstore_n (lv' := [(2, .long v33), (0, .ref (ad o)), (1, .ref (ad q1))]) hx hb dX5_idleBy_33 rfl hl (by decide) rfl (fun ls hl => ?_)
      refine lv_aload_n hx hb dX5_idleBy_34 rfl (lv_at hl 1 rfl) ?_
      refine lv_aload_n hx hb dX5_idleBy_35 rfl (lv_at hl 2 rfl) ?_
      refine lv_aload_n hx hb dX5_idleBy_36 rfl (lv_at hl 1 rfl) ?_
      refine z_callVi C P (As := []) (m5_allLands ho) cW5_61 rfl ho.1 rfl (by decide) hl.1 rfl (Nat.le_of_ble_eq_true rfl) dX5_idleBy_37 ⟨Nat.zero_le _, Nat.zero_le _⟩ (fun H locs P => ?_)
      obtain ⟨r40, g40, h⟩ := bd1_some h
      refine z_callVl C P (As := [.ref (ad q1), .int (f5_allLands o S)]) (m5_incomeOf ho hq1 g40) cW5_64 rfl ho.1 rfl (by decide) hl.1 rfl (Nat.le_of_ble_eq_true rfl) dX5_idleBy_40 ⟨Nat.zero_le _, Nat.zero_le _⟩ (fun H locs P => ?_)
      refine lv_lstore (lv' := [(4, .long r40), (2, .long v33), (0, .ref (ad o)), (1, .ref (ad q1))]) hx hb dX5_idleBy_43 hl (by decide) rfl (fun ls hl => ?_)
      refine lv_iconst (v := 1) hx hb dX5_idleBy_45 (by decide) ?_
      refine lv_istore (lv' := [(6, .int (1 : Int32)), (4, .long r40), (2, .long v33), (0, .ref (ad o)), (1, .ref (ad q1))]) hx hb dX5_idleBy_46 hl (by decide) rfl (fun ls hl => ?_)
      exact w5_idleBy_48 C ho hq1 _ _ _ _ _ _ _ _ h P (lv_sub hl [3, 4, 2, 1, 0] rfl)
    · refine lv_aload_n hx hb dX5_idleBy_10 rfl (lv_at hl 0 rfl) ?_
      refine gF5_34 C P ho.1 rfl dX5_idleBy_11 ?_
      refine lv_iload_n hx hb dX5_idleBy_14 rfl (lv_at hl 2 rfl) ?_
      refine lv_aload_n hx hb dX5_idleBy_15 rfl (lv_at hl 0 rfl) ?_
      refine lv_aload_n hx hb dX5_idleBy_16 rfl (lv_at hl 1 rfl) ?_
      refine lv_iload_n hx hb dX5_idleBy_17 rfl (lv_at hl 2 rfl) ?_
      obtain ⟨r18, g18, h⟩ := bd1_some h
      refine z_callVi C P (As := [.ref (ad q1), .int x2]) (m5_makersBy ho hq1 g18) cW5_53 rfl ho.1 rfl (by decide) hl.1 rfl (Nat.le_of_ble_eq_true rfl) dX5_idleBy_18 ⟨Nat.zero_le _, Nat.zero_le _⟩ (fun H locs P => ?_)
      refine z_iast C P ho.2.2.2.2.2.2 dX5_idleBy_21 h (fun S21 H locs h P => ?_)
      obtain ⟨v22, ev22, h⟩ := z_nm h
      refine lv_iinc (v := v22) (lv' := [(2, .int v22), (0, .ref (ad o)), (1, .ref (ad q1))]) hx hb dX5_idleBy_22 hl (k := 2) rfl (by rw [ev22]; rfl) (by decide) rfl (fun ls hl => ?_)
      refine lv_goto (tgt := 2) hx hb dX5_idleBy_25 (by decide) ?_
      exact ih _ _ _ _ _ h P (lv_sub hl [1, 2, 0] rfl)
theorem m5_idleBy {l : Launch} {D : va_G} {cA : Nat → ClassId} {ad : Nat → Nat} {o : Nat} (ho : zW o) {q1 : Nat} (hq1 : zC[q1]? = some (.inr (1, 3, []))) {S : Zs} {z : Int32 × Zs} (h : f5_idleBy o q1 S = some z) :
    zMi l yX5_idleBy cX5_idleBy 7 2 51 D zC ad cA S [.ref (ad o), .ref (ad q1)] z := by
  refine z_enter (Qc := fun A => zQi D zC ad cA A z) (by decide +kernel) (Nat.le_of_ble_eq_true rfl) (fun p e s m below meth c A C P ls hl => ?_)
  have hx := C.1
  have hb := C.2.1
  have hl : lv_has ls 7 [(0, .ref (ad o)), (1, .ref (ad q1))] := hl
  unfold f5_idleBy at h
  refine lv_iconst (v := 0) hx hb dX5_idleBy_0 (by decide) ?_
  refine lv_istore_n (lv' := [(2, .int (0 : Int32)), (0, .ref (ad o)), (1, .ref (ad q1))]) hx hb dX5_idleBy_1 rfl hl (by decide) rfl (fun ls hl => ?_)
  exact w5_idleBy_2 C ho hq1 _ _ _ _ _ _ h P (lv_sub hl [1, 2, 0] rfl)
end ZVC1
