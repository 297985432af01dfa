section ZVC4
variable {p : Program} {l : Launch} {e : Env} {s : State} {m : MethodId} {args : Array Value} {below : List Frame} {meth : Method} {c : Code} {D : va_G} {cA : Nat → ClassId} {A : Nat → Prop} {ad : Nat → Nat}
theorem m6_world {l : Launch} {D : va_G} {cA : Nat → ClassId} {ad : Nat → Nat} {S : Zs} {z : Int64 × Zs} (h : f6_world S = some z) :
    zMl l yX6_world cX6_world 2 10 238 D zC ad cA S [.ref (ad 0)] z := by
  refine z_enter (Qc := fun A => zQl D zC ad cA A z) (by decide +kernel) (Nat.le_of_ble_eq_true rfl) (fun p e s m below meth c A C P ls hl => ?_)
  have hx := C.1
  have hb := C.2.1
  have hl : lv_has ls 2 [(0, .ref (ad 0))] := hl
  unfold f6_world at h
  refine lv_aload_n hx hb dX6_world_0 rfl (lv_at hl 0 rfl) ?_
  refine gF6_19 C P zs0 rfl dX6_world_1 ?_
  refine lv_aload_n hx hb dX6_world_4 rfl (lv_at hl 0 rfl) ?_
  refine gF6_54 C P zs0 rfl dX6_world_5 ?_
  obtain ⟨r8, S8, g8, h⟩ := bd2_some h
  refine z_callVb C P (As := [.ref (ad 55)]) (m3_readInto zW_55 g8) cW6_126 rfl zs13 rfl (by decide) hl.1 rfl (Nat.le_of_ble_eq_true rfl) dX6_world_8 ⟨Nat.zero_le _, Nat.zero_le _⟩ (fun H locs n8 P => ?_)
  refine lv_istore_n (lv' := [(1, .int r8), (0, .ref (ad 0))]) hx hb dX6_world_11 rfl hl (by decide) rfl (fun ls hl => ?_)
  refine lv_aload_n hx hb dX6_world_12 rfl (lv_at hl 1 rfl) ?_
  refine gF6_19 C P zs0 rfl dX6_world_13 ?_
  obtain ⟨S16, g16, h⟩ := bd1_some h
  refine z_callVv C P (As := []) (m3_empty g16) cW6_130 rfl zs13 rfl (by decide) hl.1 rfl (Nat.le_of_ble_eq_true rfl) dX6_world_16 ⟨Nat.zero_le _, Nat.zero_le _⟩ (fun H locs P => ?_)
  refine lv_iload_n hx hb dX6_world_19 rfl (lv_at hl 0 rfl) ?_
  refine z_if_ne (tgt := 36) hx hb dX6_world_20 (by decide) h (fun h => ?_) (fun h => ?_)
  · refine lv_aload_n hx hb dX6_world_36 rfl (lv_at hl 1 rfl) ?_
    refine gF6_33 C P zs0 rfl dX6_world_37 ?_
    refine lv_aload_n hx hb dX6_world_40 rfl (lv_at hl 1 rfl) ?_
    refine gF6_54 C P zs0 rfl dX6_world_41 ?_
    obtain ⟨S44, g44, h⟩ := bd1_some h
    refine z_callVv C P (As := [.ref (ad 55)]) (m1_settle zW_55 g44) cW6_138 rfl zs17 rfl (by decide) hl.1 rfl (Nat.le_of_ble_eq_true rfl) dX6_world_44 ⟨Nat.zero_le _, Nat.zero_le _⟩ (fun H locs P => ?_)
    refine lv_aload_n hx hb dX6_world_47 rfl (lv_at hl 1 rfl) ?_
    refine gF6_47 C P zs0 rfl dX6_world_48 ?_
    refine lv_aload_n hx hb dX6_world_51 rfl (lv_at hl 1 rfl) ?_
    refine gF6_54 C P zs0 rfl dX6_world_52 ?_
    obtain ⟨S55, g55, h⟩ := bd1_some h
    refine z_callVv C P (As := [.ref (ad 55)]) (m5_take zW_37 zW_55 g55) cW6_142 rfl zW_37.1 rfl (by decide) hl.1 rfl (Nat.le_of_ble_eq_true rfl) dX6_world_55 ⟨Nat.zero_le _, Nat.zero_le _⟩ (fun H locs P => ?_)
    refine lv_aload_n hx hb dX6_world_58 rfl (lv_at hl 1 rfl) ?_
    refine lv_iconst (v := 0) hx hb dX6_world_59 (by decide) ?_
    refine pF6_65 C P zs0 rfl dX6_world_60 (by decide) (by decide) h (fun S60 H locs h P => ?_)
    refine lv_aload_n hx hb dX6_world_63 rfl (lv_at hl 1 rfl) ?_
    refine gF6_47 C P zs0 rfl dX6_world_64 ?_
    refine gF6_145 C P zW_37.1 rfl dX6_world_67 ?_
    refine lv_i2l hx hb dX6_world_70 rfl ?_
    exact z_lret C P (Option.some.inj h) dX6_world_71
  · refine lv_ldc2 (v := (-9000000000000000100)) hx hb C.2.2.2.1 (C.2.2.2.2.1 _ kK6_133) dX6_world_23 ?_
    refine lv_aload_n hx hb dX6_world_26 rfl (lv_at hl 1 rfl) ?_
    refine gF6_19 C P zs0 rfl dX6_world_27 ?_
    refine gF6_135 C P zs13 rfl dX6_world_30 ?_
    refine lv_i2l hx hb dX6_world_33 rfl ?_
    refine lv_lsub hx hb dX6_world_34 ?_
    exact z_lret C P (Option.some.inj h) dX6_world_35
theorem m6_fault {l : Launch} {D : va_G} {cA : Nat → ClassId} {ad : Nat → Nat} {S : Zs} :
    zMi l yX6_fault cX6_fault 1 0 0 D zC ad cA S [.ref (ad 0)] (f6_fault S, S) := by
  obtain ⟨z, h⟩ : ∃ z, f6_fault S = z := ⟨_, rfl⟩
  rw [h]
  refine z_enter (Qc := fun A => zQi D zC ad cA A (z, S)) (by decide +kernel) (Nat.le_of_ble_eq_true rfl) (fun p e s m below meth c A C P ls hl => ?_)
  have hx := C.1
  have hb := C.2.1
  have hl : lv_has ls 1 [(0, .ref (ad 0))] := hl
  unfold f6_fault at h
  refine lv_aload_n hx hb dX6_fault_0 rfl (lv_at hl 0 rfl) ?_
  refine gF6_19 C P zs0 rfl dX6_fault_1 ?_
  refine gF6_148 C P zs13 rfl dX6_fault_4 ?_
  exact z_iret C P (by rw [h]) dX6_fault_7
theorem m5_isLand {l : Launch} {D : va_G} {cA : Nat → ClassId} {ad : Nat → Nat} {o : Nat} (ho : zW o) {x1 : Int32} {S : Zs} :
    zMb l yX5_isLand cX5_isLand 2 0 0 D zC ad cA S [.ref (ad o), .int x1] (f5_isLand o S x1, S) := by
  obtain ⟨z, h⟩ : ∃ z, f5_isLand o S x1 = z := ⟨_, rfl⟩
  rw [h]
  refine z_enter (Qc := fun A => zQb D zC ad cA A (z, S)) (by decide +kernel) (Nat.le_of_ble_eq_true rfl) (fun p e s m below meth c A C P ls hl => ?_)
  have hx := C.1
  have hb := C.2.1
  have hl : lv_has ls 2 [(0, .ref (ad o)), (1, .int x1)] := hl
  unfold f5_isLand at h
  refine lv_iload_n hx hb dX5_isLand_0 rfl (lv_at hl 1 rfl) ?_
  refine z_if_lt (tgt := 16) hx hb dX5_isLand_1 (by decide) h (fun h => ?_) (fun h => ?_)
  · refine lv_iconst (v := 0) hx hb dX5_isLand_16 (by decide) ?_
    exact z_zret C P (by rw [h]) (by decide) dX5_isLand_17
  · refine lv_iload_n hx hb dX5_isLand_4 rfl (lv_at hl 1 rfl) ?_
    refine lv_aload_n hx hb dX5_isLand_5 rfl (lv_at hl 0 rfl) ?_
    refine gF5_9 C P ho.1 rfl dX5_isLand_6 ?_
    refine z_icmp_ge (tgt := 16) hx hb dX5_isLand_9 (by decide) h (fun h => ?_) (fun h => ?_)
    · refine lv_iconst (v := 0) hx hb dX5_isLand_16 (by decide) ?_
      exact z_zret C P (by rw [h]) (by decide) dX5_isLand_17
    · refine lv_iconst (v := 1) hx hb dX5_isLand_12 (by decide) ?_
      refine lv_goto (tgt := 17) hx hb dX5_isLand_13 (by decide) ?_
      exact z_zret C P (by rw [h]) (by decide) dX5_isLand_17
theorem m5_isGood {l : Launch} {D : va_G} {cA : Nat → ClassId} {ad : Nat → Nat} {o : Nat} (ho : zW o) {x1 : Int32} {S : Zs} :
    zMb l yX5_isGood cX5_isGood 2 0 0 D zC ad cA S [.ref (ad o), .int x1] (f5_isGood o S x1, S) := by
  obtain ⟨z, h⟩ : ∃ z, f5_isGood o S x1 = z := ⟨_, rfl⟩
  rw [h]
  refine z_enter (Qc := fun A => zQb D zC ad cA A (z, S)) (by decide +kernel) (Nat.le_of_ble_eq_true rfl) (fun p e s m below meth c A C P ls hl => ?_)
  have hx := C.1
  have hb := C.2.1
  have hl : lv_has ls 2 [(0, .ref (ad o)), (1, .int x1)] := hl
  unfold f5_isGood at h
  refine lv_iload_n hx hb dX5_isGood_0 rfl (lv_at hl 1 rfl) ?_
  refine z_if_lt (tgt := 16) hx hb dX5_isGood_1 (by decide) h (fun h => ?_) (fun h => ?_)
  · refine lv_iconst (v := 0) hx hb dX5_isGood_16 (by decide) ?_
    exact z_zret C P (by rw [h]) (by decide) dX5_isGood_17
  · refine lv_iload_n hx hb dX5_isGood_4 rfl (lv_at hl 1 rfl) ?_
    refine lv_aload_n hx hb dX5_isGood_5 rfl (lv_at hl 0 rfl) ?_
    refine gF5_15 C P ho.1 rfl dX5_isGood_6 ?_
    refine z_icmp_ge (tgt := 16) hx hb dX5_isGood_9 (by decide) h (fun h => ?_) (fun h => ?_)
    · refine lv_iconst (v := 0) hx hb dX5_isGood_16 (by decide) ?_
      exact z_zret C P (by rw [h]) (by decide) dX5_isGood_17
    · refine lv_iconst (v := 1) hx hb dX5_isGood_12 (by decide) ?_
      refine lv_goto (tgt := 17) hx hb dX5_isGood_13 (by decide) ?_
      exact z_zret C P (by rw [h]) (by decide) dX5_isGood_17
theorem m6_told {l : Launch} {D : va_G} {cA : Nat → ClassId} {ad : Nat → Nat} {x1 : Int32} {x2 : Int32} {x3 : Int32} {S : Zs} {z : Int64} (h : f6_told S x1 x2 x3 = some z) :
    zMl l yX6_told cX6_told 4 1 21 D zC ad cA S [.ref (ad 0), .int x1, .int x2, .int x3] (z, S) := by
  refine z_enter (Qc := fun A => zQl D zC ad cA A (z, S)) (by decide +kernel) (Nat.le_of_ble_eq_true rfl) (fun p e s m below meth c A C P ls hl => ?_)
  have hx := C.1
  have hb := C.2.1
  have hl : lv_has ls 4 [(0, .ref (ad 0)), (1, .int x1), (2, .int x2), (3, .int x3)] := hl
  unfold f6_told at h
  refine lv_aload_n hx hb dX6_told_0 rfl (lv_at hl 0 rfl) ?_
  refine gF6_47 C P zs0 rfl dX6_told_1 ?_
  refine lv_iload_n hx hb dX6_told_4 rfl (lv_at hl 1 rfl) ?_
  refine z_callVb C P (As := [.int x1]) (m5_isLand zW_37) cW6_151 rfl zW_37.1 rfl (by decide) hl.1 rfl (Nat.le_of_ble_eq_true rfl) dX6_told_5 ⟨Nat.zero_le _, Nat.zero_le _⟩ (fun H locs n5 P => ?_)
  refine z_if_eq (tgt := 22) hx hb dX6_told_8 (by decide) h (fun h => ?_) (fun h => ?_)
  · refine lv_ldc2 (v := (-9000000000000000001)) hx hb C.2.2.2.1 (C.2.2.2.2.1 _ kK6_80) dX6_told_22 ?_
    exact z_lret C P (by rw [Option.some.inj h]) dX6_told_25
  · refine lv_aload_n hx hb dX6_told_11 rfl (lv_at hl 0 rfl) ?_
    refine gF6_47 C P zs0 rfl dX6_told_12 ?_
    refine lv_iload_n hx hb dX6_told_15 rfl (lv_at hl 2 rfl) ?_
    refine z_callVb C P (As := [.int x2]) (m5_isGood zW_37) cW6_154 rfl zW_37.1 rfl (by decide) hl.1 rfl (Nat.le_of_ble_eq_true rfl) dX6_told_16 ⟨Nat.zero_le _, Nat.zero_le _⟩ (fun H locs n16 P => ?_)
    refine z_if_ne (tgt := 26) hx hb dX6_told_19 (by decide) h (fun h => ?_) (fun h => ?_)
    · refine lv_iload_n hx hb dX6_told_26 rfl (lv_at hl 3 rfl) ?_
      by_cases c0 : x3 = 0
      · rw [if_pos c0] at h
        refine lv_tableIn (off := 25) (tgt := 52) hx hb dX6_told_27 (by rw [c0]; decide) (by rw [c0]; decide) (by rw [c0]; decide) (by decide) ?_
        refine lv_aload_n hx hb dX6_told_52 rfl (lv_at hl 0 rfl) ?_
        refine gF6_47 C P zs0 rfl dX6_told_53 ?_
        refine gF6_157 C P zW_37.1 rfl dX6_told_56 ?_
        refine lv_iload_n hx hb dX6_told_59 rfl (lv_at hl 1 rfl) ?_
        refine z_aald C P zW_37.2.2.2.1 (zrs3 37) zW_37.2.2.2.2.1 dX6_told_60 h (fun h hg60 => ?_)
        refine lv_iload_n hx hb dX6_told_61 rfl (lv_at hl 2 rfl) ?_
        refine z_iald C P hg60 dX6_told_62 h (fun h hi => ?_)
        refine lv_i2l hx hb dX6_told_63 rfl ?_
        exact z_lret C P (by rw [Option.some.inj h]) dX6_told_64
      rw [if_neg c0] at h
      by_cases c1 : x3 = 1
      · rw [if_pos c1] at h
        refine lv_tableIn (off := 38) (tgt := 65) hx hb dX6_told_27 (by rw [c1]; decide) (by rw [c1]; decide) (by rw [c1]; decide) (by decide) ?_
        refine lv_aload_n hx hb dX6_told_65 rfl (lv_at hl 0 rfl) ?_
        refine gF6_47 C P zs0 rfl dX6_told_66 ?_
        refine gF6_161 C P zW_37.1 rfl dX6_told_69 ?_
        refine lv_iload_n hx hb dX6_told_72 rfl (lv_at hl 1 rfl) ?_
        refine z_iald C P zW_37.2.2.1 dX6_told_73 h (fun h hi => ?_)
        refine lv_i2l hx hb dX6_told_74 rfl ?_
        exact z_lret C P (by rw [Option.some.inj h]) dX6_told_75
      rw [if_neg c1] at h
      by_cases c2 : x3 = 2
      · rw [if_pos c2] at h
        refine lv_tableIn (off := 49) (tgt := 76) hx hb dX6_told_27 (by rw [c2]; decide) (by rw [c2]; decide) (by rw [c2]; decide) (by decide) ?_
        refine lv_aload_n hx hb dX6_told_76 rfl (lv_at hl 0 rfl) ?_
        refine gF6_47 C P zs0 rfl dX6_told_77 ?_
        refine gF6_164 C P zW_37.1 rfl dX6_told_80 ?_
        refine lv_iload_n hx hb dX6_told_83 rfl (lv_at hl 2 rfl) ?_
        refine z_iald C P zW_37.2.1 dX6_told_84 h (fun h hi => ?_)
        refine lv_i2l hx hb dX6_told_85 rfl ?_
        exact z_lret C P (by rw [Option.some.inj h]) dX6_told_86
      rw [if_neg c2] at h
      have q0 : ¬ x3.toInt = 0 := zne c0 (by decide)
      have q1 : ¬ x3.toInt = 1 := zne c1 (by decide)
      have q2 : ¬ x3.toInt = 2 := zne c2 (by decide)
      refine lv_tableOut (tgt := 87) hx hb dX6_told_27 (show x3.toInt < 0 ∨ 2 < x3.toInt by omega) (by decide) ?_
      refine lv_ldc2 (v := (-9000000000000000001)) hx hb C.2.2.2.1 (C.2.2.2.2.1 _ kK6_80) dX6_told_87 ?_
      exact z_lret C P (by rw [Option.some.inj h]) dX6_told_90
    · refine lv_ldc2 (v := (-9000000000000000001)) hx hb C.2.2.2.1 (C.2.2.2.2.1 _ kK6_80) dX6_told_22 ?_
      exact z_lret C P (by rw [Option.some.inj h]) dX6_told_25
theorem w6_part_17 (C : zCx p s m args meth c cX6_part 9 RX6 (some .long) D ad cA A) {z : Int64} {S : Zs} (x5 : Int64) (t0 : Int64) (H : Heap) (locs : List Loc) (ls : Array Slot) (h : f6_part_17 x5 t0 = some z) (P : zP D zC ad cA A S s H locs) (hl : lv_has ls 9 [(5, .long x5)]) :
    W p l e (zrm 1 30) s m args below meth c H locs 0 0 (MQ below (zQl D zC ad cA A (z, S)) args s 0 0 A) (F0 m 17 ls [.long t0]) := by
  have hx := C.1
  have hb := C.2.1
  unfold f6_part_17 at h
  refine lv_lstore (lv' := [(7, .long t0), (5, .long x5)]) hx hb dX6_part_17 hl (by decide) rfl (fun ls hl => ?_)
  refine lv_lload hx hb dX6_part_19 (lv_at hl 1 rfl) ?_
  refine lv_lconst (v := 1) hx hb dX6_part_21 (by decide) ?_
  refine z_lcmp_le (tgt := 34) hx hb dX6_part_22 dX6_part_23 (by decide) h (fun h => ?_) (fun h => ?_)
  · refine lv_lload hx hb dX6_part_34 (lv_at hl 0 rfl) ?_
    exact z_lret C P (by rw [Option.some.inj h]) dX6_part_36
  · refine lv_lload hx hb dX6_part_26 (lv_at hl 0 rfl) ?_
    refine lv_lload hx hb dX6_part_28 (lv_at hl 1 rfl) ?_
    refine z_ldiv hx hb dX6_part_30 h (fun h => ?_)
    refine lv_goto (tgt := 36) hx hb dX6_part_31 (by decide) ?_
    exact z_lret C P (by rw [Option.some.inj h]) dX6_part_36
theorem m6_part {l : Launch} {D : va_G} {cA : Nat → ClassId} {ad : Nat → Nat} {x0 : Int64} {x2 : Int64} {x4 : Int32} {S : Zs} {z : Int64} (h : f6_part x0 x2 x4 = some z) :
    zMl l yX6_part cX6_part 9 1 30 D zC ad cA S [.long x0, .long x2, .int x4] (z, S) := by
  refine z_enter (Qc := fun A => zQl D zC ad cA A (z, S)) (by decide +kernel) (Nat.le_of_ble_eq_true rfl) (fun p e s m below meth c A C P ls hl => ?_)
  have hx := C.1
  have hb := C.2.1
  have hl : lv_has ls 9 [(0, .long x0), (2, .long x2), (4, .int x4)] := hl
  unfold f6_part at h
  refine lv_lload_n hx hb dX6_part_0 rfl (lv_at hl 0 rfl) ?_
  refine lv_lload_n hx hb dX6_part_1 rfl (lv_at hl 1 rfl) ?_
  obtain ⟨r2, g2, h⟩ := bd1_some h
  refine z_callSl C P (As := [.long x0, .long x2]) (m6_commonDivisor g2) cW6_278 rfl (by decide) hl.1 rfl (Nat.le_of_ble_eq_true rfl) dX6_part_2 ⟨Nat.zero_le _, Nat.zero_le _⟩ (fun H locs P => ?_)
  refine lv_lstore (lv' := [(5, .long r2), (0, .long x0), (2, .long x2), (4, .int x4)]) hx hb dX6_part_5 hl (by decide) rfl (fun ls hl => ?_)
  refine lv_iload hx hb dX6_part_7 (lv_at hl 3 rfl) ?_
  refine z_if_ne (tgt := 16) hx hb dX6_part_9 (by decide) h (fun h => ?_) (fun h => ?_)
  · refine lv_lload_n hx hb dX6_part_16 rfl (lv_at hl 2 rfl) ?_
    exact w6_part_17 C _ _ _ _ _ h P (lv_sub hl [0] rfl)
  · refine lv_lload_n hx hb dX6_part_12 rfl (lv_at hl 1 rfl) ?_
    refine lv_goto (tgt := 17) hx hb dX6_part_13 (by decide) ?_
    exact w6_part_17 C _ _ _ _ _ h P (lv_sub hl [0] rfl)
theorem m6_wage {l : Launch} {D : va_G} {cA : Nat → ClassId} {ad : Nat → Nat} {x1 : Int32} {x2 : Int32} {S : Zs} {z : Int64} (h : f6_wage S x1 x2 = some z) :
    zMl l yX6_wage cX6_wage 3 2 58 D zC ad cA S [.ref (ad 0), .int x1, .int x2] (z, S) := by
  refine z_enter (Qc := fun A => zQl D zC ad cA A (z, S)) (by decide +kernel) (Nat.le_of_ble_eq_true rfl) (fun p e s m below meth c A C P ls hl => ?_)
  have hx := C.1
  have hb := C.2.1
  have hl : lv_has ls 3 [(0, .ref (ad 0)), (1, .int x1), (2, .int x2)] := hl
  unfold f6_wage at h
  refine lv_aload_n hx hb dX6_wage_0 rfl (lv_at hl 0 rfl) ?_
  refine gF6_47 C P zs0 rfl dX6_wage_1 ?_
  refine lv_iload_n hx hb dX6_wage_4 rfl (lv_at hl 1 rfl) ?_
  refine z_callVb C P (As := [.int x1]) (m5_isLand zW_37) cW6_151 rfl zW_37.1 rfl (by decide) hl.1 rfl (Nat.le_of_ble_eq_true rfl) dX6_wage_5 ⟨Nat.zero_le _, Nat.zero_le _⟩ (fun H locs n5 P => ?_)
  refine z_if_eq (tgt := 20) hx hb dX6_wage_8 (by decide) h (fun h => ?_) (fun h => ?_)
  · refine lv_ldc2 (v := (-9000000000000000001)) hx hb C.2.2.2.1 (C.2.2.2.2.1 _ kK6_80) dX6_wage_20 ?_
    exact z_lret C P (by rw [Option.some.inj h]) dX6_wage_23
  · refine lv_iload_n hx hb dX6_wage_11 rfl (lv_at hl 2 rfl) ?_
    refine z_if_lt (tgt := 20) hx hb dX6_wage_12 (by decide) h (fun h => ?_) (fun h => ?_)
    · refine lv_ldc2 (v := (-9000000000000000001)) hx hb C.2.2.2.1 (C.2.2.2.2.1 _ kK6_80) dX6_wage_20 ?_
      exact z_lret C P (by rw [Option.some.inj h]) dX6_wage_23
    · refine lv_iload_n hx hb dX6_wage_15 rfl (lv_at hl 2 rfl) ?_
      refine lv_iconst (v := 1) hx hb dX6_wage_16 (by decide) ?_
      refine z_icmp_le (tgt := 24) hx hb dX6_wage_17 (by decide) h (fun h => ?_) (fun h => ?_)
      · refine lv_aload_n hx hb dX6_wage_24 rfl (lv_at hl 0 rfl) ?_
        refine gF6_47 C P zs0 rfl dX6_wage_25 ?_
        refine gF6_167 C P zW_37.1 rfl dX6_wage_28 ?_
        refine lv_iload_n hx hb dX6_wage_31 rfl (lv_at hl 1 rfl) ?_
        refine z_lald C P zW_37.2.2.2.2.2.1 dX6_wage_32 h (fun h hi => ?_)
        refine lv_aload_n hx hb dX6_wage_33 rfl (lv_at hl 0 rfl) ?_
        refine gF6_47 C P zs0 rfl dX6_wage_34 ?_
        refine gF6_167 C P zW_37.1 rfl dX6_wage_37 ?_
        refine lv_iconst (v := 0) hx hb dX6_wage_40 (by decide) ?_
        refine z_lald C P zW_37.2.2.2.2.2.1 dX6_wage_41 h (fun h hi => ?_)
        refine lv_iload_n hx hb dX6_wage_42 rfl (lv_at hl 2 rfl) ?_
        obtain ⟨r43, g43, h⟩ := bd1_some h
        refine z_callSl C P (As := [.long (S.2 (37 + 7) x1.toNatClampNeg), .long (S.2 (37 + 7) (0 : Int32).toNatClampNeg), .int x2]) (m6_part g43) cW6_170 rfl (by decide) hl.1 rfl (Nat.le_of_ble_eq_true rfl) dX6_wage_43 ⟨Nat.zero_le _, Nat.zero_le _⟩ (fun H locs P => ?_)
        exact z_lret C P (by rw [Option.some.inj h]) dX6_wage_46
      · refine lv_ldc2 (v := (-9000000000000000001)) hx hb C.2.2.2.1 (C.2.2.2.2.1 _ kK6_80) dX6_wage_20 ?_
        exact z_lret C P (by rw [Option.some.inj h]) dX6_wage_23
theorem w5_leastCost_11 (C : zCx p s m args meth c cX5_leastCost 6 RX5 (some .long) D ad cA A) {o : Nat} (ho : zW o) {q1 : Nat} (hq1 : zC[q1]? = some (.inr (1, 3, []))) {z : Int64} {S : Zs} :
    ∀ (n : Nat) (x2 : Int32) (x3 : Int64) (x5 : Int32) (H : Heap) (locs : List Loc) (ls : Array Slot), f5_leastCost_11 o q1 S n x2 x3 x5 = some z → zP D zC ad cA A S s H locs → lv_has ls 6 [(0, .ref (ad o)), (1, .ref (ad q1)), (2, .int x2), (3, .long x3), (5, .int x5)] → W p l e (zrm 1 23) s m args below meth c H locs 0 0 (MQ below (zQl D zC ad cA A (z, S)) args s 0 0 A) (F0 m 11 ls []) := by
  have hx := C.1
  have hb := C.2.1
  intro n
  induction n with
  | zero =>
    intro x2 x3 x5 H locs ls h
    cases h
  | succ n ih =>
    intro x2 x3 x5 H locs ls h P hl
    unfold f5_leastCost_11 at h
    refine lv_iload hx hb dX5_leastCost_11 (lv_at hl 4 rfl) ?_
    refine lv_aload_n hx hb dX5_leastCost_13 rfl (lv_at hl 0 rfl) ?_
    refine gF5_9 C P ho.1 rfl dX5_leastCost_14 ?_
    refine z_icmp_ge (tgt := 39) hx hb dX5_leastCost_17 (by decide) h (fun h => ?_) (fun h => ?_)
    · refine lv_lload_n hx hb dX5_leastCost_39 rfl (lv_at hl 3 rfl) ?_
      exact z_lret C P (by rw [Option.some.inj h]) dX5_leastCost_40
    · refine lv_lload_n hx hb dX5_leastCost_20 rfl (lv_at hl 3 rfl) ?_
      refine lv_aload_n hx hb dX5_leastCost_21 rfl (lv_at hl 0 rfl) ?_
      refine lv_aload_n hx hb dX5_leastCost_22 rfl (lv_at hl 1 rfl) ?_
      refine lv_iload hx hb dX5_leastCost_23 (lv_at hl 4 rfl) ?_
      refine lv_iload_n hx hb dX5_leastCost_25 rfl (lv_at hl 2 rfl) ?_
      obtain ⟨r26, g26, h⟩ := bd1_some h
      refine z_callVl C P (As := [.ref (ad q1), .int x5, .int x2]) (m5_cost ho hq1 g26) cW5_43 rfl ho.1 rfl (by decide) hl.1 rfl (Nat.le_of_ble_eq_true rfl) dX5_leastCost_26 ⟨Nat.zero_le _, Nat.zero_le _⟩ (fun H locs P => ?_)
      refine z_minL C zmin5_47 (by decide) hl.1 (Nat.le_of_ble_eq_true rfl) dX5_leastCost_29 ⟨Nat.zero_le _, Nat.zero_le _⟩ ?_
      refine z_topl h (fun v32 h => ?_)
      refine lv_lstore_n (lv' := [(3, .long v32), (0, .ref (ad o)), (1, .ref (ad q1)), (2, .int x2), (5, .int x5)]) hx hb dX5_leastCost_32 rfl hl (by decide) rfl (fun ls hl => ?_)
      obtain ⟨v33, ev33, h⟩ := z_nm h
      refine lv_iinc (v := v33) (lv' := [(5, .int v33), (3, .long v32), (0, .ref (ad o)), (1, .ref (ad q1)), (2, .int x2)]) hx hb dX5_leastCost_33 hl (k := 4) rfl (by rw [ev33]; rfl) (by decide) rfl (fun ls hl => ?_)
      refine lv_goto (tgt := 11) hx hb dX5_leastCost_36 (by decide) ?_
      exact ih _ _ _ _ _ _ h P (lv_sub hl [2, 3, 4, 1, 0] rfl)
theorem m5_leastCost {l : Launch} {D : va_G} {cA : Nat → ClassId} {ad : Nat → Nat} {o : Nat} (ho : zW o) {q1 : Nat} (hq1 : zC[q1]? = some (.inr (1, 3, []))) {x2 : Int32} {S : Zs} {z : Int64} (h : f5_leastCost o q1 S x2 = some z) :
    zMl l yX5_leastCost cX5_leastCost 6 1 23 D zC ad cA S [.ref (ad o), .ref (ad q1), .int x2] (z, S) := by
  refine z_enter (Qc := fun A => zQl D zC ad cA A (z, S)) (by decide +kernel) (Nat.le_of_ble_eq_true rfl) (fun p e s m below meth c A C P ls hl => ?_)
  have hx := C.1
  have hb := C.2.1
  have hl : lv_has ls 6 [(0, .ref (ad o)), (1, .ref (ad q1)), (2, .int x2)] := hl
  unfold f5_leastCost at h
  refine lv_aload_n hx hb dX5_leastCost_0 rfl (lv_at hl 0 rfl) ?_
  refine lv_aload_n hx hb dX5_leastCost_1 rfl (lv_at hl 1 rfl) ?_
  refine lv_iconst (v := 0) hx hb dX5_leastCost_2 (by decide) ?_
  refine lv_iload_n hx hb dX5_leastCost_3 rfl (lv_at hl 2 rfl) ?_
  obtain ⟨r4, g4, h⟩ := bd1_some h
  refine z_callVl C P (As := [.ref (ad q1), .int (0 : Int32), .int x2]) (m5_cost ho hq1 g4) cW5_43 rfl ho.1 rfl (by decide) hl.1 rfl (Nat.le_of_ble_eq_true rfl) dX5_leastCost_4 ⟨Nat.zero_le _, Nat.zero_le _⟩ (fun H locs P => ?_)
  refine lv_lstore_n (lv' := [(3, .long r4), (0, .ref (ad o)), (1, .ref (ad q1)), (2, .int x2)]) hx hb dX5_leastCost_7 rfl hl (by decide) rfl (fun ls hl => ?_)
  refine lv_iconst (v := 1) hx hb dX5_leastCost_8 (by decide) ?_
  refine lv_istore (lv' := [(5, .int (1 : Int32)), (3, .long r4), (0, .ref (ad o)), (1, .ref (ad q1)), (2, .int x2)]) hx hb dX5_leastCost_9 hl (by decide) rfl (fun ls hl => ?_)
  exact w5_leastCost_11 C ho hq1 _ _ _ _ _ _ _ h P (lv_sub hl [2, 3, 4, 1, 0] rfl)
theorem m6_price {l : Launch} {D : va_G} {cA : Nat → ClassId} {ad : Nat → Nat} {x1 : Int32} {x2 : Int32} {S : Zs} {z : Int64} (h : f6_price S x1 x2 = some z) :
    zMl l yX6_price cX6_price 3 2 58 D zC ad cA S [.ref (ad 0), .int x1, .int x2] (z, S) := by
  refine z_enter (Qc := fun A => zQl D zC ad cA A (z, S)) (by decide +kernel) (Nat.le_of_ble_eq_true rfl) (fun p e s m below meth c A C P ls hl => ?_)
  have hx := C.1
  have hb := C.2.1
  have hl : lv_has ls 3 [(0, .ref (ad 0)), (1, .int x1), (2, .int x2)] := hl
  unfold f6_price at h
  refine lv_aload_n hx hb dX6_price_0 rfl (lv_at hl 0 rfl) ?_
  refine gF6_47 C P zs0 rfl dX6_price_1 ?_
  refine lv_iload_n hx hb dX6_price_4 rfl (lv_at hl 1 rfl) ?_
  refine z_callVb C P (As := [.int x1]) (m5_isGood zW_37) cW6_154 rfl zW_37.1 rfl (by decide) hl.1 rfl (Nat.le_of_ble_eq_true rfl) dX6_price_5 ⟨Nat.zero_le _, Nat.zero_le _⟩ (fun H locs n5 P => ?_)
  refine z_if_eq (tgt := 20) hx hb dX6_price_8 (by decide) h (fun h => ?_) (fun h => ?_)
  · refine lv_ldc2 (v := (-9000000000000000001)) hx hb C.2.2.2.1 (C.2.2.2.2.1 _ kK6_80) dX6_price_20 ?_
    exact z_lret C P (by rw [Option.some.inj h]) dX6_price_23
  · refine lv_iload_n hx hb dX6_price_11 rfl (lv_at hl 2 rfl) ?_
    refine z_if_lt (tgt := 20) hx hb dX6_price_12 (by decide) h (fun h => ?_) (fun h => ?_)
    · refine lv_ldc2 (v := (-9000000000000000001)) hx hb C.2.2.2.1 (C.2.2.2.2.1 _ kK6_80) dX6_price_20 ?_
      exact z_lret C P (by rw [Option.some.inj h]) dX6_price_23
    · refine lv_iload_n hx hb dX6_price_15 rfl (lv_at hl 2 rfl) ?_
      refine lv_iconst (v := 2) hx hb dX6_price_16 (by decide) ?_
      refine z_icmp_le (tgt := 24) hx hb dX6_price_17 (by decide) h (fun h => ?_) (fun h => ?_)
      · refine lv_iload_n hx hb dX6_price_24 rfl (lv_at hl 2 rfl) ?_
        refine lv_iconst (v := 2) hx hb dX6_price_25 (by decide) ?_
        refine z_icmp_ne (tgt := 46) hx hb dX6_price_26 (by decide) h (fun h => ?_) (fun h => ?_)
        · refine lv_aload_n hx hb dX6_price_46 rfl (lv_at hl 0 rfl) ?_
          refine gF6_47 C P zs0 rfl dX6_price_47 ?_
          refine lv_aload_n hx hb dX6_price_50 rfl (lv_at hl 0 rfl) ?_
          refine gF6_47 C P zs0 rfl dX6_price_51 ?_
          refine gF6_167 C P zW_37.1 rfl dX6_price_54 ?_
          refine lv_iload_n hx hb dX6_price_57 rfl (lv_at hl 1 rfl) ?_
          obtain ⟨r58, g58, h⟩ := bd1_some h
          refine z_callVl C P (As := [.ref (ad (37 + 7)), .int x1]) (m5_leastCost zW_37 zW_37.2.2.2.2.2.1 g58) cW6_178 rfl zW_37.1 rfl (by decide) hl.1 rfl (Nat.le_of_ble_eq_true rfl) dX6_price_58 ⟨Nat.zero_le _, Nat.zero_le _⟩ (fun H locs P => ?_)
          refine lv_aload_n hx hb dX6_price_61 rfl (lv_at hl 0 rfl) ?_
          refine gF6_47 C P zs0 rfl dX6_price_62 ?_
          refine gF6_167 C P zW_37.1 rfl dX6_price_65 ?_
          refine lv_iconst (v := 0) hx hb dX6_price_68 (by decide) ?_
          refine z_lald C P zW_37.2.2.2.2.2.1 dX6_price_69 h (fun h hi => ?_)
          refine lv_iload_n hx hb dX6_price_70 rfl (lv_at hl 2 rfl) ?_
          obtain ⟨r71, g71, h⟩ := bd1_some h
          refine z_callSl C P (As := [.long r58, .long (S.2 (37 + 7) (0 : Int32).toNatClampNeg), .int x2]) (m6_part g71) cW6_170 rfl (by decide) hl.1 rfl (Nat.le_of_ble_eq_true rfl) dX6_price_71 ⟨Nat.zero_le _, Nat.zero_le _⟩ (fun H locs P => ?_)
          exact z_lret C P (by rw [Option.some.inj h]) dX6_price_74
        · refine lv_aload_n hx hb dX6_price_29 rfl (lv_at hl 0 rfl) ?_
          refine gF6_47 C P zs0 rfl dX6_price_30 ?_
          refine lv_aload_n hx hb dX6_price_33 rfl (lv_at hl 0 rfl) ?_
          refine gF6_47 C P zs0 rfl dX6_price_34 ?_
          refine gF6_167 C P zW_37.1 rfl dX6_price_37 ?_
          refine lv_iload_n hx hb dX6_price_40 rfl (lv_at hl 1 rfl) ?_
          obtain ⟨r41, g41, h⟩ := bd1_some h
          refine z_callVi C P (As := [.ref (ad (37 + 7)), .int x1]) (m5_makersBy zW_37 zW_37.2.2.2.2.2.1 g41) cW6_174 rfl zW_37.1 rfl (by decide) hl.1 rfl (Nat.le_of_ble_eq_true rfl) dX6_price_41 ⟨Nat.zero_le _, Nat.zero_le _⟩ (fun H locs P => ?_)
          refine lv_i2l hx hb dX6_price_44 rfl ?_
          exact z_lret C P (by rw [Option.some.inj h]) dX6_price_45
      · refine lv_ldc2 (v := (-9000000000000000001)) hx hb C.2.2.2.1 (C.2.2.2.2.1 _ kK6_80) dX6_price_20 ?_
        exact z_lret C P (by rw [Option.some.inj h]) dX6_price_23
theorem m6_gain {l : Launch} {D : va_G} {cA : Nat → ClassId} {ad : Nat → Nat} {x1 : Int32} {x2 : Int32} {x3 : Int32} {S : Zs} {z : Int64} (h : f6_gain S x1 x2 x3 = some z) :
    zMl l yX6_gain cX6_gain 4 2 58 D zC ad cA S [.ref (ad 0), .int x1, .int x2, .int x3] (z, S) := by
  refine z_enter (Qc := fun A => zQl D zC ad cA A (z, S)) (by decide +kernel) (Nat.le_of_ble_eq_true rfl) (fun p e s m below meth c A C P ls hl => ?_)
  have hx := C.1
  have hb := C.2.1
  have hl : lv_has ls 4 [(0, .ref (ad 0)), (1, .int x1), (2, .int x2), (3, .int x3)] := hl
  unfold f6_gain at h
  refine lv_aload_n hx hb dX6_gain_0 rfl (lv_at hl 0 rfl) ?_
  refine gF6_47 C P zs0 rfl dX6_gain_1 ?_
  refine lv_iload_n hx hb dX6_gain_4 rfl (lv_at hl 1 rfl) ?_
  refine z_callVb C P (As := [.int x1]) (m5_isLand zW_37) cW6_151 rfl zW_37.1 rfl (by decide) hl.1 rfl (Nat.le_of_ble_eq_true rfl) dX6_gain_5 ⟨Nat.zero_le _, Nat.zero_le _⟩ (fun H locs n5 P => ?_)
  refine z_if_eq (tgt := 31) hx hb dX6_gain_8 (by decide) h (fun h => ?_) (fun h => ?_)
  · refine lv_ldc2 (v := (-9000000000000000001)) hx hb C.2.2.2.1 (C.2.2.2.2.1 _ kK6_80) dX6_gain_31 ?_
    exact z_lret C P (by rw [Option.some.inj h]) dX6_gain_34
  · refine lv_aload_n hx hb dX6_gain_11 rfl (lv_at hl 0 rfl) ?_
    refine gF6_47 C P zs0 rfl dX6_gain_12 ?_
    refine lv_iload_n hx hb dX6_gain_15 rfl (lv_at hl 2 rfl) ?_
    refine z_callVb C P (As := [.int x2]) (m5_isGood zW_37) cW6_154 rfl zW_37.1 rfl (by decide) hl.1 rfl (Nat.le_of_ble_eq_true rfl) dX6_gain_16 ⟨Nat.zero_le _, Nat.zero_le _⟩ (fun H locs n16 P => ?_)
    refine z_if_eq (tgt := 31) hx hb dX6_gain_19 (by decide) h (fun h => ?_) (fun h => ?_)
    · refine lv_ldc2 (v := (-9000000000000000001)) hx hb C.2.2.2.1 (C.2.2.2.2.1 _ kK6_80) dX6_gain_31 ?_
      exact z_lret C P (by rw [Option.some.inj h]) dX6_gain_34
    · refine lv_iload_n hx hb dX6_gain_22 rfl (lv_at hl 3 rfl) ?_
      refine z_if_lt (tgt := 31) hx hb dX6_gain_23 (by decide) h (fun h => ?_) (fun h => ?_)
      · refine lv_ldc2 (v := (-9000000000000000001)) hx hb C.2.2.2.1 (C.2.2.2.2.1 _ kK6_80) dX6_gain_31 ?_
        exact z_lret C P (by rw [Option.some.inj h]) dX6_gain_34
      · refine lv_iload_n hx hb dX6_gain_26 rfl (lv_at hl 3 rfl) ?_
        refine lv_iconst (v := 1) hx hb dX6_gain_27 (by decide) ?_
        refine z_icmp_le (tgt := 35) hx hb dX6_gain_28 (by decide) h (fun h => ?_) (fun h => ?_)
        · refine lv_aload_n hx hb dX6_gain_35 rfl (lv_at hl 0 rfl) ?_
          refine gF6_47 C P zs0 rfl dX6_gain_36 ?_
          refine lv_aload_n hx hb dX6_gain_39 rfl (lv_at hl 0 rfl) ?_
          refine gF6_47 C P zs0 rfl dX6_gain_40 ?_
          refine gF6_167 C P zW_37.1 rfl dX6_gain_43 ?_
          refine lv_iload_n hx hb dX6_gain_46 rfl (lv_at hl 1 rfl) ?_
          refine lv_iload_n hx hb dX6_gain_47 rfl (lv_at hl 2 rfl) ?_
          obtain ⟨r48, g48, h⟩ := bd1_some h
          refine z_callVl C P (As := [.ref (ad (37 + 7)), .int x1, .int x2]) (m5_cost zW_37 zW_37.2.2.2.2.2.1 g48) cW6_182 rfl zW_37.1 rfl (by decide) hl.1 rfl (Nat.le_of_ble_eq_true rfl) dX6_gain_48 ⟨Nat.zero_le _, Nat.zero_le _⟩ (fun H locs P => ?_)
          refine lv_aload_n hx hb dX6_gain_51 rfl (lv_at hl 0 rfl) ?_
          refine gF6_47 C P zs0 rfl dX6_gain_52 ?_
          refine lv_aload_n hx hb dX6_gain_55 rfl (lv_at hl 0 rfl) ?_
          refine gF6_47 C P zs0 rfl dX6_gain_56 ?_
          refine gF6_167 C P zW_37.1 rfl dX6_gain_59 ?_
          refine lv_iload_n hx hb dX6_gain_62 rfl (lv_at hl 2 rfl) ?_
          obtain ⟨r63, g63, h⟩ := bd1_some h
          refine z_callVl C P (As := [.ref (ad (37 + 7)), .int x2]) (m5_leastCost zW_37 zW_37.2.2.2.2.2.1 g63) cW6_178 rfl zW_37.1 rfl (by decide) hl.1 rfl (Nat.le_of_ble_eq_true rfl) dX6_gain_63 ⟨Nat.zero_le _, Nat.zero_le _⟩ (fun H locs P => ?_)
          refine lv_iload_n hx hb dX6_gain_66 rfl (lv_at hl 3 rfl) ?_
          obtain ⟨r67, g67, h⟩ := bd1_some h
          refine z_callSl C P (As := [.long r48, .long r63, .int x3]) (m6_part g67) cW6_170 rfl (by decide) hl.1 rfl (Nat.le_of_ble_eq_true rfl) dX6_gain_67 ⟨Nat.zero_le _, Nat.zero_le _⟩ (fun H locs P => ?_)
          exact z_lret C P (by rw [Option.some.inj h]) dX6_gain_70
        · refine lv_ldc2 (v := (-9000000000000000001)) hx hb C.2.2.2.1 (C.2.2.2.2.1 _ kK6_80) dX6_gain_31 ?_
          exact z_lret C P (by rw [Option.some.inj h]) dX6_gain_34
theorem m5_isThere {l : Launch} {D : va_G} {cA : Nat → ClassId} {ad : Nat → Nat} {o : Nat} (ho : zW o) {S : Zs} :
    zMb l yX5_isThere cX5_isThere 1 0 0 D zC ad cA S [.ref (ad o)] (f5_isThere o S, S) := by
  obtain ⟨z, h⟩ : ∃ z, f5_isThere o S = z := ⟨_, rfl⟩
  rw [h]
  refine z_enter (Qc := fun A => zQb D zC ad cA A (z, S)) (by decide +kernel) (Nat.le_of_ble_eq_true rfl) (fun p e s m below meth c A C P ls hl => ?_)
  have hx := C.1
  have hb := C.2.1
  have hl : lv_has ls 1 [(0, .ref (ad o))] := hl
  unfold f5_isThere at h
  refine lv_aload_n hx hb dX5_isThere_0 rfl (lv_at hl 0 rfl) ?_
  refine gF5_9 C P ho.1 rfl dX5_isThere_1 ?_
  refine z_if_le (tgt := 11) hx hb dX5_isThere_4 (by decide) h (fun h => ?_) (fun h => ?_)
  · refine lv_iconst (v := 0) hx hb dX5_isThere_11 (by decide) ?_
    exact z_zret C P (by rw [h]) (by decide) dX5_isThere_12
  · refine lv_iconst (v := 1) hx hb dX5_isThere_7 (by decide) ?_
    refine lv_goto (tgt := 12) hx hb dX5_isThere_8 (by decide) ?_
    exact z_zret C P (by rw [h]) (by decide) dX5_isThere_12
theorem m6_findingAt {l : Launch} {D : va_G} {cA : Nat → ClassId} {ad : Nat → Nat} {x1 : Int32} {x2 : Int32} {x3 : Int32} {S : Zs} {z : Int32} (h : f6_findingAt S x1 x2 x3 = some z) :
    zMi l yX6_findingAt cX6_findingAt 4 1 23 D zC ad cA S [.ref (ad 0), .int x1, .int x2, .int x3] (z, S) := by
  refine z_enter (Qc := fun A => zQi D zC ad cA A (z, S)) (by decide +kernel) (Nat.le_of_ble_eq_true rfl) (fun p e s m below meth c A C P ls hl => ?_)
  have hx := C.1
  have hb := C.2.1
  have hl : lv_has ls 4 [(0, .ref (ad 0)), (1, .int x1), (2, .int x2), (3, .int x3)] := hl
  unfold f6_findingAt at h
  refine lv_aload_n hx hb dX6_findingAt_0 rfl (lv_at hl 0 rfl) ?_
  refine gF6_12 C P zs0 rfl dX6_findingAt_1 ?_
  refine lv_iload_n hx hb dX6_findingAt_4 rfl (lv_at hl 1 rfl) ?_
  obtain ⟨r5, g5, h⟩ := bd1_some h
  refine z_callVb C P (As := [.int x1]) (m2_isMissing g5) cW6_94 rfl zs1 rfl (by decide) hl.1 rfl (Nat.le_of_ble_eq_true rfl) dX6_findingAt_5 ⟨Nat.zero_le _, Nat.zero_le _⟩ (fun H locs n5 P => ?_)
  refine z_if_eq (tgt := 13) hx hb dX6_findingAt_8 (by decide) h (fun h => ?_) (fun h => ?_)
  · refine lv_aload_n hx hb dX6_findingAt_13 rfl (lv_at hl 0 rfl) ?_
    refine gF6_12 C P zs0 rfl dX6_findingAt_14 ?_
    refine lv_iload_n hx hb dX6_findingAt_17 rfl (lv_at hl 1 rfl) ?_
    refine lv_iload_n hx hb dX6_findingAt_18 rfl (lv_at hl 2 rfl) ?_
    refine lv_iload_n hx hb dX6_findingAt_19 rfl (lv_at hl 3 rfl) ?_
    obtain ⟨r20, g20, h⟩ := bd1_some h
    refine z_callVb C P (As := [.int x1, .int x2, .int x3]) (m2_has g20) cW6_97 rfl zs1 rfl (by decide) hl.1 rfl (Nat.le_of_ble_eq_true rfl) dX6_findingAt_20 ⟨Nat.zero_le _, Nat.zero_le _⟩ (fun H locs n20 P => ?_)
    refine z_if_eq (tgt := 30) hx hb dX6_findingAt_23 (by decide) h (fun h => ?_) (fun h => ?_)
    · refine lv_iconst (v := 2) hx hb dX6_findingAt_30 (by decide) ?_
      exact z_iret C P (by rw [Option.some.inj h]) dX6_findingAt_31
    · refine lv_iconst (v := 0) hx hb dX6_findingAt_26 (by decide) ?_
      refine lv_goto (tgt := 31) hx hb dX6_findingAt_27 (by decide) ?_
      exact z_iret C P (by rw [Option.some.inj h]) dX6_findingAt_31
  · refine lv_iconst (v := 1) hx hb dX6_findingAt_11 (by decide) ?_
    exact z_iret C P (by rw [Option.some.inj h]) dX6_findingAt_12
theorem m2_item {l : Launch} {D : va_G} {cA : Nat → ClassId} {ad : Nat → Nat} {x1 : Int32} {x2 : Int32} {S : Zs} {z : Int32} (h : f2_item S x1 x2 = some z) :
    zMi l yX2_item cX2_item 3 0 0 D zC ad cA S [.ref (ad 1), .int x1, .int x2] (z, S) := by
  refine z_enter (Qc := fun A => zQi D zC ad cA A (z, S)) (by decide +kernel) (Nat.le_of_ble_eq_true rfl) (fun p e s m below meth c A C P ls hl => ?_)
  have hx := C.1
  have hb := C.2.1
  have hl : lv_has ls 3 [(0, .ref (ad 1)), (1, .int x1), (2, .int x2)] := hl
  unfold f2_item at h
  refine lv_aload_n hx hb dX2_item_0 rfl (lv_at hl 0 rfl) ?_
  refine gF2_11 C P zs1 rfl dX2_item_1 ?_
  refine lv_iload_n hx hb dX2_item_4 rfl (lv_at hl 1 rfl) ?_
  refine z_aald C P zs2 zs2r zs2g dX2_item_5 h (fun h hg5 => ?_)
  refine lv_iload_n hx hb dX2_item_6 rfl (lv_at hl 2 rfl) ?_
  refine z_iald C P hg5 dX2_item_7 h (fun h hi => ?_)
  exact z_iret C P (by rw [Option.some.inj h]) dX2_item_8
theorem w6_judge_52 (C : zCx p s m args meth c cX6_judge 6 RX6 (some .long) D ad cA A) {z : Int64 × Zs} :
    ∀ (n : Nat) (x1 : Int32) (x2 : Int32) (x4 : Int32) (S : Zs) (H : Heap) (locs : List Loc) (ls : Array Slot), f6_judge_52 n x1 x2 x4 S = some z → zP D zC ad cA A S s H locs → lv_has ls 6 [(0, .ref (ad 0)), (1, .int x1), (2, .int x2), (4, .int x4)] → W p l e (zrm 3 77) s m args below meth c H locs 0 0 (MQ below (zQl D zC ad cA A z) args s 0 0 A) (F0 m 52 ls []) := by
  have hx := C.1
  have hb := C.2.1
  intro n
  induction n with
  | zero =>
    intro x1 x2 x4 S H locs ls h
    cases h
  | succ n ih =>
    intro x1 x2 x4 S H locs ls h P hl
    unfold f6_judge_52 at h
    refine lv_iload hx hb dX6_judge_52 (lv_at hl 3 rfl) ?_
    refine lv_aload_n hx hb dX6_judge_54 rfl (lv_at hl 0 rfl) ?_
    refine gF6_47 C P zs0 rfl dX6_judge_55 ?_
    refine gF6_145 C P zW_37.1 rfl dX6_judge_58 ?_
    refine z_icmp_ge (tgt := 112) hx hb dX6_judge_61 (by decide) h (fun h => ?_) (fun h => ?_)
    · refine lv_aload_n hx hb dX6_judge_112 rfl (lv_at hl 0 rfl) ?_
      refine lv_aload_n hx hb dX6_judge_113 rfl (lv_at hl 0 rfl) ?_
      refine gF6_47 C P zs0 rfl dX6_judge_114 ?_
      refine lv_aload_n hx hb dX6_judge_117 rfl (lv_at hl 0 rfl) ?_
      refine gF6_57 C P zs0 rfl dX6_judge_118 ?_
      obtain ⟨r121, S121, g121, h⟩ := bd2_some h
      refine z_callVi C P (As := [.ref (ad 64)]) (m5_idleBy zW_37 zs64 g121) cW6_199 rfl zW_37.1 rfl (by decide) hl.1 rfl (Nat.le_of_ble_eq_true rfl) dX6_judge_121 ⟨Nat.zero_le _, Nat.zero_le _⟩ (fun H locs P => ?_)
      refine lv_i2l hx hb dX6_judge_124 rfl ?_
      obtain ⟨r125, S125, g125, h⟩ := bd2_some h
      refine z_callVl C P (As := [.long r121.toInt64]) (m6_fine g125) cW6_90 rfl zs0 rfl (by decide) hl.1 rfl (Nat.le_of_ble_eq_true rfl) dX6_judge_125 ⟨Nat.zero_le _, Nat.zero_le _⟩ (fun H locs P => ?_)
      exact z_lret C P (Option.some.inj h) dX6_judge_128
    · refine lv_aload_n hx hb dX6_judge_64 rfl (lv_at hl 0 rfl) ?_
      refine gF6_12 C P zs0 rfl dX6_judge_65 ?_
      refine lv_iload_n hx hb dX6_judge_68 rfl (lv_at hl 1 rfl) ?_
      refine lv_iload_n hx hb dX6_judge_69 rfl (lv_at hl 2 rfl) ?_
      refine lv_iload hx hb dX6_judge_70 (lv_at hl 3 rfl) ?_
      refine lv_iadd hx hb dX6_judge_72 ?_
      obtain ⟨r73, g73, h⟩ := bd1_some h
      refine z_callVi C P (As := [.int x1, .int (x2 + x4)]) (m2_item g73) cW6_195 rfl zs1 rfl (by decide) hl.1 rfl (Nat.le_of_ble_eq_true rfl) dX6_judge_73 ⟨Nat.zero_le _, Nat.zero_le _⟩ (fun H locs P => ?_)
      refine lv_istore (lv' := [(5, .int r73), (0, .ref (ad 0)), (1, .int x1), (2, .int x2), (4, .int x4)]) hx hb dX6_judge_76 hl (by decide) rfl (fun ls hl => ?_)
      refine lv_iload hx hb dX6_judge_78 (lv_at hl 0 rfl) ?_
      refine lv_iconst (v := 1) hx hb dX6_judge_80 (by decide) ?_
      refine z_icmp_lt (tgt := 92) hx hb dX6_judge_81 (by decide) h (fun h => ?_) (fun h => ?_)
      · refine lv_ldc2 (v := (-9000000000000000001)) hx hb C.2.2.2.1 (C.2.2.2.2.1 _ kK6_80) dX6_judge_92 ?_
        exact z_lret C P (Option.some.inj h) dX6_judge_95
      · refine lv_iload hx hb dX6_judge_84 (lv_at hl 0 rfl) ?_
        refine lv_sipush (v := 999) hx hb dX6_judge_86 (by decide) ?_
        refine z_icmp_le (tgt := 96) hx hb dX6_judge_89 (by decide) h (fun h => ?_) (fun h => ?_)
        · refine lv_aload_n hx hb dX6_judge_96 rfl (lv_at hl 1 rfl) ?_
          refine gF6_57 C P zs0 rfl dX6_judge_97 ?_
          refine lv_iload hx hb dX6_judge_100 (lv_at hl 4 rfl) ?_
          refine lv_iload hx hb dX6_judge_102 (lv_at hl 0 rfl) ?_
          refine lv_i2l hx hb dX6_judge_104 rfl ?_
          refine z_last C P zs64 dX6_judge_105 h (fun S105 H locs h P => ?_)
          obtain ⟨v106, ev106, h⟩ := z_nm h
          refine lv_iinc (v := v106) (lv' := [(4, .int v106), (5, .int r73), (0, .ref (ad 0)), (1, .int x1), (2, .int x2)]) hx hb dX6_judge_106 hl (k := 4) rfl (by rw [ev106]; rfl) (by decide) rfl (fun ls hl => ?_)
          refine lv_goto (tgt := 52) hx hb dX6_judge_109 (by decide) ?_
          exact ih _ _ _ _ _ _ _ h P (lv_sub hl [2, 3, 4, 0] rfl)
        · refine lv_ldc2 (v := (-9000000000000000001)) hx hb C.2.2.2.1 (C.2.2.2.2.1 _ kK6_80) dX6_judge_92 ?_
          exact z_lret C P (Option.some.inj h) dX6_judge_95
theorem m6_judge {l : Launch} {D : va_G} {cA : Nat → ClassId} {ad : Nat → Nat} {x1 : Int32} {x2 : Int32} {S : Zs} {z : Int64 × Zs} (h : f6_judge x1 x2 S = some z) :
    zMl l yX6_judge cX6_judge 6 3 77 D zC ad cA S [.ref (ad 0), .int x1, .int x2] z := by
  refine z_enter (Qc := fun A => zQl D zC ad cA A z) (by decide +kernel) (Nat.le_of_ble_eq_true rfl) (fun p e s m below meth c A C P ls hl => ?_)
  have hx := C.1
  have hb := C.2.1
  have hl : lv_has ls 6 [(0, .ref (ad 0)), (1, .int x1), (2, .int x2)] := hl
  unfold f6_judge at h
  refine lv_iload_n hx hb dX6_judge_0 rfl (lv_at hl 1 rfl) ?_
  refine z_callSb C P (As := [.int x1]) (m2_isRow) cW6_73 rfl (by decide) hl.1 rfl (Nat.le_of_ble_eq_true rfl) dX6_judge_1 ⟨Nat.zero_le _, Nat.zero_le _⟩ (fun H locs n1 P => ?_)
  refine z_if_ne (tgt := 11) hx hb dX6_judge_4 (by decide) h (fun h => ?_) (fun h => ?_)
  · refine lv_aload_n hx hb dX6_judge_11 rfl (lv_at hl 0 rfl) ?_
    refine gF6_47 C P zs0 rfl dX6_judge_12 ?_
    refine z_callVb C P (As := []) (m5_isThere zW_37) cW6_186 rfl zW_37.1 rfl (by decide) hl.1 rfl (Nat.le_of_ble_eq_true rfl) dX6_judge_15 ⟨Nat.zero_le _, Nat.zero_le _⟩ (fun H locs n15 P => ?_)
    refine z_if_ne (tgt := 25) hx hb dX6_judge_18 (by decide) h (fun h => ?_) (fun h => ?_)
    · refine lv_aload_n hx hb dX6_judge_25 rfl (lv_at hl 0 rfl) ?_
      refine lv_iload_n hx hb dX6_judge_26 rfl (lv_at hl 1 rfl) ?_
      refine lv_iload_n hx hb dX6_judge_27 rfl (lv_at hl 2 rfl) ?_
      refine lv_aload_n hx hb dX6_judge_28 rfl (lv_at hl 0 rfl) ?_
      refine gF6_47 C P zs0 rfl dX6_judge_29 ?_
      refine gF6_145 C P zW_37.1 rfl dX6_judge_32 ?_
      obtain ⟨r35, g35, h⟩ := bd1_some h
      refine z_callVi C P (As := [.int x1, .int x2, .int (S.1 37 0)]) (m6_findingAt g35) cW6_192 rfl zs0 rfl (by decide) hl.1 rfl (Nat.le_of_ble_eq_true rfl) dX6_judge_35 ⟨Nat.zero_le _, Nat.zero_le _⟩ (fun H locs P => ?_)
      refine lv_istore_n (lv' := [(3, .int r35), (0, .ref (ad 0)), (1, .int x1), (2, .int x2)]) hx hb dX6_judge_38 rfl hl (by decide) rfl (fun ls hl => ?_)
      refine lv_iload_n hx hb dX6_judge_39 rfl (lv_at hl 0 rfl) ?_
      refine z_if_eq (tgt := 49) hx hb dX6_judge_40 (by decide) h (fun h => ?_) (fun h => ?_)
      · refine lv_iconst (v := 0) hx hb dX6_judge_49 (by decide) ?_
        refine lv_istore (lv' := [(4, .int (0 : Int32)), (3, .int r35), (0, .ref (ad 0)), (1, .int x1), (2, .int x2)]) hx hb dX6_judge_50 hl (by decide) rfl (fun ls hl => ?_)
        exact w6_judge_52 C _ _ _ _ _ _ _ _ h P (lv_sub hl [2, 3, 4, 0] rfl)
      · refine lv_aload_n hx hb dX6_judge_43 rfl (lv_at hl 1 rfl) ?_
        refine lv_iload_n hx hb dX6_judge_44 rfl (lv_at hl 0 rfl) ?_
        obtain ⟨r45, S45, g45, h⟩ := bd2_some h
        refine z_callVl C P (As := [.int r35]) (m6_found g45) cW6_82 rfl zs0 rfl (by decide) hl.1 rfl (Nat.le_of_ble_eq_true rfl) dX6_judge_45 ⟨Nat.zero_le _, Nat.zero_le _⟩ (fun H locs P => ?_)
        exact z_lret C P (Option.some.inj h) dX6_judge_48
    · refine lv_ldc2 (v := (-9000000000000000002)) hx hb C.2.2.2.1 (C.2.2.2.2.1 _ kK6_190) dX6_judge_21 ?_
      exact z_lret C P (Option.some.inj h) dX6_judge_24
  · refine lv_ldc2 (v := (-9000000000000000001)) hx hb C.2.2.2.1 (C.2.2.2.2.1 _ kK6_80) dX6_judge_7 ?_
    exact z_lret C P (Option.some.inj h) dX6_judge_10
theorem w0_cut_64 (C : zCx p s m args meth c cX0_cut 8 RX0 (some .int) D ad cA A) {o : Nat} (ho : zPr o) {z : Int32} {S : Zs} {k6 : Int32 → Int32 → Int32 → Option Int32} (hk6 : ∀ (x1 : Int32) (x2 : Int32) (x3 : Int32) (H : Heap) (locs : List Loc) (ls : Array Slot), k6 x1 x2 x3 = some z → zP D zC ad cA A S s H locs → lv_has ls 8 [(0, .ref (ad o)), (1, .int x1), (2, .int x2), (3, .int x3)] → W p l e (zrm 0 0) s m args below meth c H locs 0 0 (MQ below (zQi D zC ad cA A (z, S)) args s 0 0 A) (F0 m 6 ls [])) (x1 : Int32) (x2 : Int32) (x3 : Int32) (H : Heap) (locs : List Loc) (ls : Array Slot) (h : f0_cut_64 o S k6 x1 x2 x3 = some z) (P : zP D zC ad cA A S s H locs) (hl : lv_has ls 8 [(0, .ref (ad o)), (1, .int x1), (2, .int x2), (3, .int x3)]) :
    W p l e (zrm 0 0) s m args below meth c H locs 0 0 (MQ below (zQi D zC ad cA A (z, S)) args s 0 0 A) (F0 m 64 ls []) := by
  have hx := C.1
  have hb := C.2.1
  unfold f0_cut_64 at h
  obtain ⟨v64, ev64, h⟩ := z_nm h
  refine lv_iinc (v := v64) (lv' := [(3, .int v64), (0, .ref (ad o)), (1, .int x1), (2, .int x2)]) hx hb dX0_cut_64 hl (k := 3) rfl (by rw [ev64]; rfl) (by decide) rfl (fun ls hl => ?_)
  refine lv_goto (tgt := 6) hx hb dX0_cut_67 (by decide) ?_
  exact hk6 _ _ _ _ _ _ h P (lv_sub hl [1, 2, 3, 0] rfl)
theorem w0_cut_6 (C : zCx p s m args meth c cX0_cut 8 RX0 (some .int) D ad cA A) {o : Nat} (ho : zPr o) {z : Int32} {S : Zs} :
    ∀ (n : Nat) (x1 : Int32) (x2 : Int32) (x3 : Int32) (H : Heap) (locs : List Loc) (ls : Array Slot), f0_cut_6 o S n x1 x2 x3 = some z → zP D zC ad cA A S s H locs → lv_has ls 8 [(0, .ref (ad o)), (1, .int x1), (2, .int x2), (3, .int x3)] → W p l e (zrm 0 0) s m args below meth c H locs 0 0 (MQ below (zQi D zC ad cA A (z, S)) args s 0 0 A) (F0 m 6 ls []) := by
  have hx := C.1
  have hb := C.2.1
  intro n
  induction n with
  | zero =>
    intro x1 x2 x3 H locs ls h
    cases h
  | succ n ih =>
    intro x1 x2 x3 H locs ls h P hl
    unfold f0_cut_6 at h
    refine lv_iload_n hx hb dX0_cut_6 rfl (lv_at hl 3 rfl) ?_
    refine lv_aload_n hx hb dX0_cut_7 rfl (lv_at hl 0 rfl) ?_
    refine gF0_9 C P ho.1 rfl dX0_cut_8 ?_
    refine z_icmp_ge (tgt := 70) hx hb dX0_cut_11 (by decide) h (fun h => ?_) (fun h => ?_)
    · refine lv_iconst (v := 2) hx hb dX0_cut_70 (by decide) ?_
      refine lv_iload_n hx hb dX0_cut_71 rfl (lv_at hl 1 rfl) ?_
      refine lv_imul hx hb dX0_cut_72 ?_
      refine lv_iload_n hx hb dX0_cut_73 rfl (lv_at hl 2 rfl) ?_
      refine lv_iadd hx hb dX0_cut_74 ?_
      exact z_iret C P (by rw [Option.some.inj h]) dX0_cut_75
    · refine lv_aload_n hx hb dX0_cut_14 rfl (lv_at hl 0 rfl) ?_
      refine gF0_19 C P ho.1 rfl dX0_cut_15 ?_
      refine lv_iload_n hx hb dX0_cut_18 rfl (lv_at hl 3 rfl) ?_
      refine z_lald C P ho.2.2.1 dX0_cut_19 h (fun h hi => ?_)
      refine lv_aload_n hx hb dX0_cut_20 rfl (lv_at hl 0 rfl) ?_
      refine gF0_36 C P ho.1 rfl dX0_cut_21 ?_
      refine lv_lmul hx hb dX0_cut_24 ?_
      refine z_topl h (fun v25 h => ?_)
      refine lv_lstore (lv' := [(4, .long v25), (0, .ref (ad o)), (1, .int x1), (2, .int x2), (3, .int x3)]) hx hb dX0_cut_25 hl (by decide) rfl (fun ls hl => ?_)
      refine lv_aload_n hx hb dX0_cut_27 rfl (lv_at hl 1 rfl) ?_
      refine gF0_23 C P ho.1 rfl dX0_cut_28 ?_
      refine lv_iload_n hx hb dX0_cut_31 rfl (lv_at hl 4 rfl) ?_
      refine z_lald C P ho.2.2.2.1 dX0_cut_32 h (fun h hi => ?_)
      refine lv_aload_n hx hb dX0_cut_33 rfl (lv_at hl 1 rfl) ?_
      refine gF0_39 C P ho.1 rfl dX0_cut_34 ?_
      refine lv_lmul hx hb dX0_cut_37 ?_
      refine z_topl h (fun v38 h => ?_)
      refine lv_lstore (lv' := [(6, .long v38), (4, .long v25), (0, .ref (ad o)), (1, .int x1), (2, .int x2), (3, .int x3)]) hx hb dX0_cut_38 hl (by decide) rfl (fun ls hl => ?_)
      refine lv_lload hx hb dX0_cut_40 (lv_at hl 1 rfl) ?_
      refine lv_lload hx hb dX0_cut_42 (lv_at hl 0 rfl) ?_
      refine z_lcmp_ge (tgt := 54) hx hb dX0_cut_44 dX0_cut_45 (by decide) h (fun h => ?_) (fun h => ?_)
      · refine lv_lload hx hb dX0_cut_54 (lv_at hl 1 rfl) ?_
        refine lv_lload hx hb dX0_cut_56 (lv_at hl 0 rfl) ?_
        refine z_lcmp_ne (tgt := 64) hx hb dX0_cut_58 dX0_cut_59 (by decide) h (fun h => ?_) (fun h => ?_)
        · exact w0_cut_64 C ho ih _ _ _ _ _ _ h P (lv_sub hl [2, 3, 4, 5] rfl)
        · refine lv_iconst (v := 1) hx hb dX0_cut_62 (by decide) ?_
          refine lv_istore_n (lv' := [(2, .int (1 : Int32)), (6, .long v38), (4, .long v25), (0, .ref (ad o)), (1, .int x1), (3, .int x3)]) hx hb dX0_cut_63 rfl hl (by decide) rfl (fun ls hl => ?_)
          exact w0_cut_64 C ho ih _ _ _ _ _ _ h P (lv_sub hl [3, 4, 0, 5] rfl)
      · obtain ⟨v48, ev48, h⟩ := z_nm h
        refine lv_iinc (v := v48) (lv' := [(1, .int v48), (6, .long v38), (4, .long v25), (0, .ref (ad o)), (2, .int x2), (3, .int x3)]) hx hb dX0_cut_48 hl (k := 3) rfl (by rw [ev48]; rfl) (by decide) rfl (fun ls hl => ?_)
        refine lv_goto (tgt := 64) hx hb dX0_cut_51 (by decide) ?_
        exact w0_cut_64 C ho ih _ _ _ _ _ _ h P (lv_sub hl [3, 0, 4, 5] rfl)
theorem m0_cut {l : Launch} {D : va_G} {cA : Nat → ClassId} {ad : Nat → Nat} {o : Nat} (ho : zPr o) {S : Zs} {z : Int32} (h : f0_cut o S = some z) :
    zMi l yX0_cut cX0_cut 8 0 0 D zC ad cA S [.ref (ad o)] (z, S) := by
  refine z_enter (Qc := fun A => zQi D zC ad cA A (z, S)) (by decide +kernel) (Nat.le_of_ble_eq_true rfl) (fun p e s m below meth c A C P ls hl => ?_)
  have hx := C.1
  have hb := C.2.1
  have hl : lv_has ls 8 [(0, .ref (ad o))] := hl
  unfold f0_cut at h
  refine lv_iconst (v := 0) hx hb dX0_cut_0 (by decide) ?_
  refine lv_istore_n (lv' := [(1, .int (0 : Int32)), (0, .ref (ad o))]) hx hb dX0_cut_1 rfl hl (by decide) rfl (fun ls hl => ?_)
  refine lv_iconst (v := 0) hx hb dX0_cut_2 (by decide) ?_
  refine lv_istore_n (lv' := [(2, .int (0 : Int32)), (1, .int (0 : Int32)), (0, .ref (ad o))]) hx hb dX0_cut_3 rfl hl (by decide) rfl (fun ls hl => ?_)
  refine lv_iconst (v := 0) hx hb dX0_cut_4 (by decide) ?_
  refine lv_istore_n (lv' := [(3, .int (0 : Int32)), (2, .int (0 : Int32)), (1, .int (0 : Int32)), (0, .ref (ad o))]) hx hb dX0_cut_5 rfl hl (by decide) rfl (fun ls hl => ?_)
  exact w0_cut_6 C ho _ _ _ _ _ _ _ h P (lv_sub hl [3, 2, 1, 0] rfl)
theorem m6_chain {l : Launch} {D : va_G} {cA : Nat → ClassId} {ad : Nat → Nat} {x1 : Int32} {x2 : Int32} {x3 : Int32} {S : Zs} {z : Int64 × Zs} (h : f6_chain x1 x2 x3 S = some z) :
    zMl l yX6_chain cX6_chain 4 2 53 D zC ad cA S [.ref (ad 0), .int x1, .int x2, .int x3] z := by
  refine z_enter (Qc := fun A => zQl D zC ad cA A z) (by decide +kernel) (Nat.le_of_ble_eq_true rfl) (fun p e s m below meth c A C P ls hl => ?_)
  have hx := C.1
  have hb := C.2.1
  have hl : lv_has ls 4 [(0, .ref (ad 0)), (1, .int x1), (2, .int x2), (3, .int x3)] := hl
  unfold f6_chain at h
  refine lv_aload_n hx hb dX6_chain_0 rfl (lv_at hl 0 rfl) ?_
  refine gF6_47 C P zs0 rfl dX6_chain_1 ?_
  refine lv_iload_n hx hb dX6_chain_4 rfl (lv_at hl 1 rfl) ?_
  refine z_callVb C P (As := [.int x1]) (m5_isLand zW_37) cW6_151 rfl zW_37.1 rfl (by decide) hl.1 rfl (Nat.le_of_ble_eq_true rfl) dX6_chain_5 ⟨Nat.zero_le _, Nat.zero_le _⟩ (fun H locs n5 P => ?_)
  refine z_if_eq (tgt := 32) hx hb dX6_chain_8 (by decide) h (fun h => ?_) (fun h => ?_)
  · refine lv_ldc2 (v := (-9000000000000000001)) hx hb C.2.2.2.1 (C.2.2.2.2.1 _ kK6_80) dX6_chain_32 ?_
    exact z_lret C P (Option.some.inj h) dX6_chain_35
  · refine lv_aload_n hx hb dX6_chain_11 rfl (lv_at hl 0 rfl) ?_
    refine gF6_47 C P zs0 rfl dX6_chain_12 ?_
    refine lv_iload_n hx hb dX6_chain_15 rfl (lv_at hl 2 rfl) ?_
    refine z_callVb C P (As := [.int x2]) (m5_isLand zW_37) cW6_151 rfl zW_37.1 rfl (by decide) hl.1 rfl (Nat.le_of_ble_eq_true rfl) dX6_chain_16 ⟨Nat.zero_le _, Nat.zero_le _⟩ (fun H locs n16 P => ?_)
    refine z_if_eq (tgt := 32) hx hb dX6_chain_19 (by decide) h (fun h => ?_) (fun h => ?_)
    · refine lv_ldc2 (v := (-9000000000000000001)) hx hb C.2.2.2.1 (C.2.2.2.2.1 _ kK6_80) dX6_chain_32 ?_
      exact z_lret C P (Option.some.inj h) dX6_chain_35
    · refine lv_iload_n hx hb dX6_chain_22 rfl (lv_at hl 1 rfl) ?_
      refine lv_iload_n hx hb dX6_chain_23 rfl (lv_at hl 2 rfl) ?_
      refine z_icmp_eq (tgt := 32) hx hb dX6_chain_24 (by decide) h (fun h => ?_) (fun h => ?_)
      · refine lv_ldc2 (v := (-9000000000000000001)) hx hb C.2.2.2.1 (C.2.2.2.2.1 _ kK6_80) dX6_chain_32 ?_
        exact z_lret C P (Option.some.inj h) dX6_chain_35
      · refine lv_iload_n hx hb dX6_chain_27 rfl (lv_at hl 3 rfl) ?_
        refine lv_iconst (v := (-1)) hx hb dX6_chain_28 (by decide) ?_
        refine z_icmp_ge (tgt := 36) hx hb dX6_chain_29 (by decide) h (fun h => ?_) (fun h => ?_)
        · refine lv_iload_n hx hb dX6_chain_36 rfl (lv_at hl 3 rfl) ?_
          refine lv_aload_n hx hb dX6_chain_37 rfl (lv_at hl 0 rfl) ?_
          refine gF6_47 C P zs0 rfl dX6_chain_38 ?_
          refine gF6_203 C P zW_37.1 rfl dX6_chain_41 ?_
          refine z_icmp_lt (tgt := 51) hx hb dX6_chain_44 (by decide) h (fun h => ?_) (fun h => ?_)
          · refine lv_aload_n hx hb dX6_chain_51 rfl (lv_at hl 0 rfl) ?_
            refine gF6_40 C P zs0 rfl dX6_chain_52 ?_
            refine lv_aload_n hx hb dX6_chain_55 rfl (lv_at hl 0 rfl) ?_
            refine gF6_47 C P zs0 rfl dX6_chain_56 ?_
            refine lv_iload_n hx hb dX6_chain_59 rfl (lv_at hl 1 rfl) ?_
            refine lv_iload_n hx hb dX6_chain_60 rfl (lv_at hl 2 rfl) ?_
            obtain ⟨S61, g61, h⟩ := bd1_some h
            refine z_callVv C P (As := [.ref (ad 37), .int x1, .int x2]) (m0_layTwo zPr_32 zW_37 g61) cW6_208 rfl zPr_32.1 rfl (by decide) hl.1 rfl (Nat.le_of_ble_eq_true rfl) dX6_chain_61 ⟨Nat.zero_le _, Nat.zero_le _⟩ (fun H locs P => ?_)
            refine lv_aload_n hx hb dX6_chain_64 rfl (lv_at hl 0 rfl) ?_
            refine gF6_40 C P zs0 rfl dX6_chain_65 ?_
            obtain ⟨S68, g68, h⟩ := bd1_some h
            refine z_callVv C P (As := []) (m0_sort zPr_32 g68) cW6_212 rfl zPr_32.1 rfl (by decide) hl.1 rfl (Nat.le_of_ble_eq_true rfl) dX6_chain_68 ⟨Nat.zero_le _, Nat.zero_le _⟩ (fun H locs P => ?_)
            refine lv_iload_n hx hb dX6_chain_71 rfl (lv_at hl 3 rfl) ?_
            refine z_if_lt (tgt := 86) hx hb dX6_chain_72 (by decide) h (fun h => ?_) (fun h => ?_)
            · refine lv_aload_n hx hb dX6_chain_86 rfl (lv_at hl 0 rfl) ?_
              refine gF6_40 C P zs0 rfl dX6_chain_87 ?_
              obtain ⟨S90, g90, h⟩ := bd1_some h
              refine z_callVv C P (As := []) (m0_settleTwo zPr_32 g90) cW6_218 rfl zPr_32.1 rfl (by decide) hl.1 rfl (Nat.le_of_ble_eq_true rfl) dX6_chain_90 ⟨Nat.zero_le _, Nat.zero_le _⟩ (fun H locs P => ?_)
              refine lv_aload_n hx hb dX6_chain_93 rfl (lv_at hl 0 rfl) ?_
              refine gF6_40 C P zs0 rfl dX6_chain_94 ?_
              obtain ⟨r97, g97, h⟩ := bd1_some h
              refine z_callVi C P (As := []) (m0_cut zPr_32 g97) cW6_221 rfl zPr_32.1 rfl (by decide) hl.1 rfl (Nat.le_of_ble_eq_true rfl) dX6_chain_97 ⟨Nat.zero_le _, Nat.zero_le _⟩ (fun H locs P => ?_)
              refine lv_i2l hx hb dX6_chain_100 rfl ?_
              exact z_lret C P (Option.some.inj h) dX6_chain_101
            · refine lv_aload_n hx hb dX6_chain_75 rfl (lv_at hl 0 rfl) ?_
              refine gF6_40 C P zs0 rfl dX6_chain_76 ?_
              refine gF6_215 C P zPr_32.1 rfl dX6_chain_79 ?_
              refine lv_iload_n hx hb dX6_chain_82 rfl (lv_at hl 3 rfl) ?_
              refine z_iald C P zPr_32.2.2.2.2 dX6_chain_83 h (fun h hi => ?_)
              refine lv_i2l hx hb dX6_chain_84 rfl ?_
              exact z_lret C P (Option.some.inj h) dX6_chain_85
          · refine lv_ldc2 (v := (-1000000)) hx hb C.2.2.2.1 (C.2.2.2.2.1 _ kK6_206) dX6_chain_47 ?_
            exact z_lret C P (Option.some.inj h) dX6_chain_50
        · refine lv_ldc2 (v := (-9000000000000000001)) hx hb C.2.2.2.1 (C.2.2.2.2.1 _ kK6_80) dX6_chain_32 ?_
          exact z_lret C P (Option.some.inj h) dX6_chain_35
theorem m6_landOfRing {l : Launch} {D : va_G} {cA : Nat → ClassId} {ad : Nat → Nat} {x0 : Int32} {x1 : Int32} {S : Zs} :
    zMi l yX6_landOfRing cX6_landOfRing 2 0 0 D zC ad cA S [.int x0, .int x1] (f6_landOfRing x0 x1, S) := by
  obtain ⟨z, h⟩ : ∃ z, f6_landOfRing x0 x1 = z := ⟨_, rfl⟩
  rw [h]
  refine z_enter (Qc := fun A => zQi D zC ad cA A (z, S)) (by decide +kernel) (Nat.le_of_ble_eq_true rfl) (fun p e s m below meth c A C P ls hl => ?_)
  have hx := C.1
  have hb := C.2.1
  have hl : lv_has ls 2 [(0, .int x0), (1, .int x1)] := hl
  unfold f6_landOfRing at h
  refine lv_iload_n hx hb dX6_landOfRing_0 rfl (lv_at hl 0 rfl) ?_
  refine lv_iconst (v := 3) hx hb dX6_landOfRing_1 (by decide) ?_
  refine lv_iload_n hx hb dX6_landOfRing_2 rfl (lv_at hl 1 rfl) ?_
  refine lv_imul hx hb dX6_landOfRing_3 ?_
  refine lv_ishr hx hb dX6_landOfRing_4 ?_
  refine lv_bipush (v := 7) hx hb dX6_landOfRing_5 (by decide) ?_
  refine lv_iand hx hb dX6_landOfRing_7 ?_
  refine lv_iconst (v := 1) hx hb dX6_landOfRing_8 (by decide) ?_
  refine lv_isub hx hb dX6_landOfRing_9 ?_
  exact z_iret C P (by rw [h]) dX6_landOfRing_10
end ZVC4
