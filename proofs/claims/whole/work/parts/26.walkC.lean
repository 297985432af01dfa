section ZVC6
variable {p : Program} {l : Launch} {e : Env} {s : State} {m : MethodId} {args : Array Value} {below : List Frame} {meth : Method} {c : Code} {D : va_G} {cA : Nat → ClassId} {A : Nat → Prop} {ad : Nat → Nat}
theorem m6_count {l : Launch} {D : va_G} {cA : Nat → ClassId} {ad : Nat → Nat} {x1 : Int32} {S : Zs} {z : Int64} (h : f6_count S x1 = some z) :
    zMl l yX6_count cX6_count 2 4 96 D zC ad cA S [.ref (ad 0), .int x1] (z, S) := by
  refine z_enter (Qc := fun A => zQl D zC ad cA A (z, S)) (by decide +kernel) (Nat.le_of_ble_eq_true rfl) (fun p e s m below meth c A C P ls hl => ?_)
  have hx := C.1
  have hb := C.2.1
  have hl : lv_has ls 2 [(0, .ref (ad 0)), (1, .int x1)] := hl
  unfold f6_count at h
  refine lv_iload_n hx hb dX6_count_0 rfl (lv_at hl 1 rfl) ?_
  by_cases c0 : x1 = 0
  · rw [if_pos c0] at h
    refine lv_tableIn (off := 39) (tgt := 40) hx hb dX6_count_1 (by rw [c0]; decide) (by rw [c0]; decide) (by rw [c0]; decide) (by decide) ?_
    refine lv_aload_n hx hb dX6_count_40 rfl (lv_at hl 0 rfl) ?_
    refine gF6_12 C P zs0 rfl dX6_count_41 ?_
    obtain ⟨r44, g44, h⟩ := bd1_some h
    refine z_callVi C P (As := []) (m2_present g44) cW6_264 rfl zs1 rfl (by decide) hl.1 rfl (Nat.le_of_ble_eq_true rfl) dX6_count_44 ⟨Nat.zero_le _, Nat.zero_le _⟩ (fun H locs P => ?_)
    refine lv_i2l hx hb dX6_count_47 rfl ?_
    exact z_lret C P (by rw [Option.some.inj h]) dX6_count_48
  rw [if_neg c0] at h
  by_cases c1 : x1 = 1
  · rw [if_pos c1] at h
    refine lv_tableIn (off := 48) (tgt := 49) hx hb dX6_count_1 (by rw [c1]; decide) (by rw [c1]; decide) (by rw [c1]; decide) (by decide) ?_
    refine lv_aload_n hx hb dX6_count_49 rfl (lv_at hl 0 rfl) ?_
    refine gF6_47 C P zs0 rfl dX6_count_50 ?_
    refine gF6_145 C P zW_37.1 rfl dX6_count_53 ?_
    refine lv_i2l hx hb dX6_count_56 rfl ?_
    exact z_lret C P (by rw [Option.some.inj h]) dX6_count_57
  rw [if_neg c1] at h
  by_cases c2 : x1 = 2
  · rw [if_pos c2] at h
    refine lv_tableIn (off := 57) (tgt := 58) hx hb dX6_count_1 (by rw [c2]; decide) (by rw [c2]; decide) (by rw [c2]; decide) (by decide) ?_
    refine lv_aload_n hx hb dX6_count_58 rfl (lv_at hl 0 rfl) ?_
    refine gF6_47 C P zs0 rfl dX6_count_59 ?_
    refine gF6_203 C P zW_37.1 rfl dX6_count_62 ?_
    refine lv_i2l hx hb dX6_count_65 rfl ?_
    exact z_lret C P (by rw [Option.some.inj h]) dX6_count_66
  rw [if_neg c2] at h
  by_cases c3 : x1 = 3
  · rw [if_pos c3] at h
    refine lv_tableIn (off := 66) (tgt := 67) hx hb dX6_count_1 (by rw [c3]; decide) (by rw [c3]; decide) (by rw [c3]; decide) (by decide) ?_
    refine lv_aload_n hx hb dX6_count_67 rfl (lv_at hl 0 rfl) ?_
    refine gF6_47 C P zs0 rfl dX6_count_68 ?_
    obtain ⟨r71, g71, h⟩ := bd1_some h
    refine z_callVi C P (As := []) (m5_allHands zW_37 g71) cW6_267 rfl zW_37.1 rfl (by decide) hl.1 rfl (Nat.le_of_ble_eq_true rfl) dX6_count_71 ⟨Nat.zero_le _, Nat.zero_le _⟩ (fun H locs P => ?_)
    refine lv_i2l hx hb dX6_count_74 rfl ?_
    exact z_lret C P (by rw [Option.some.inj h]) dX6_count_75
  rw [if_neg c3] at h
  by_cases c4 : x1 = 4
  · rw [if_pos c4] at h
    refine lv_tableIn (off := 75) (tgt := 76) hx hb dX6_count_1 (by rw [c4]; decide) (by rw [c4]; decide) (by rw [c4]; decide) (by decide) ?_
    refine lv_aload_n hx hb dX6_count_76 rfl (lv_at hl 0 rfl) ?_
    obtain ⟨r77, g77, h⟩ := bd1_some h
    refine z_callVl C P (As := []) (m6_commonGoods g77) cW6_270 rfl zs0 rfl (by decide) hl.1 rfl (Nat.le_of_ble_eq_true rfl) dX6_count_77 ⟨Nat.zero_le _, Nat.zero_le _⟩ (fun H locs P => ?_)
    exact z_lret C P (by rw [Option.some.inj h]) dX6_count_80
  rw [if_neg c4] at h
  by_cases c5 : x1 = 5
  · rw [if_pos c5] at h
    refine lv_tableIn (off := 80) (tgt := 81) hx hb dX6_count_1 (by rw [c5]; decide) (by rw [c5]; decide) (by rw [c5]; decide) (by decide) ?_
    refine lv_aload_n hx hb dX6_count_81 rfl (lv_at hl 0 rfl) ?_
    refine gF6_19 C P zs0 rfl dX6_count_82 ?_
    refine gF6_273 C P zs13 rfl dX6_count_85 ?_
    refine lv_i2l hx hb dX6_count_88 rfl ?_
    exact z_lret C P (by rw [Option.some.inj h]) dX6_count_89
  rw [if_neg c5] at h
  have q0 : ¬ x1.toInt = 0 := zne c0 (by decide)
  have q1 : ¬ x1.toInt = 1 := zne c1 (by decide)
  have q2 : ¬ x1.toInt = 2 := zne c2 (by decide)
  have q3 : ¬ x1.toInt = 3 := zne c3 (by decide)
  have q4 : ¬ x1.toInt = 4 := zne c4 (by decide)
  have q5 : ¬ x1.toInt = 5 := zne c5 (by decide)
  refine lv_tableOut (tgt := 90) hx hb dX6_count_1 (show x1.toInt < 0 ∨ 5 < x1.toInt by omega) (by decide) ?_
  refine lv_ldc2 (v := (-9000000000000000001)) hx hb C.2.2.2.1 (C.2.2.2.2.1 _ kK6_80) dX6_count_90 ?_
  exact z_lret C P (by rw [Option.some.inj h]) dX6_count_93
theorem m6_status {l : Launch} {D : va_G} {cA : Nat → ClassId} {ad : Nat → Nat} {S : Zs} :
    zMi l yX6_status cX6_status 1 0 0 D zC ad cA S [.ref (ad 0)] (f6_status S, S) := by
  obtain ⟨z, h⟩ : ∃ z, f6_status S = z := ⟨_, rfl⟩
  rw [h]
  refine z_enter (Qc := fun A => zQi D zC ad cA A (z, S)) (by decide +kernel) (Nat.le_of_ble_eq_true rfl) (fun p e s m below meth c A C P ls hl => ?_)
  have hx := C.1
  have hb := C.2.1
  have hl : lv_has ls 1 [(0, .ref (ad 0))] := hl
  unfold f6_status at h
  refine lv_aload_n hx hb dX6_status_0 rfl (lv_at hl 0 rfl) ?_
  refine gF6_69 C P zs0 rfl dX6_status_1 ?_
  exact z_iret C P (by rw [h]) dX6_status_4
theorem m4_add {l : Launch} {D : va_G} {cA : Nat → ClassId} {ad : Nat → Nat} {x1 : Int32} {S : Zs} {z : Zs} (h : f4_add x1 S = some z) :
    zMv l yX4_add cX4_add 2 0 0 D zC ad cA S [.ref (ad 15), .int x1] z := by
  refine z_enter (Qc := fun A => zQv D zC ad cA A z) (by decide +kernel) (Nat.le_of_ble_eq_true rfl) (fun p e s m below meth c A C P ls hl => ?_)
  have hx := C.1
  have hb := C.2.1
  have hl : lv_has ls 2 [(0, .ref (ad 15)), (1, .int x1)] := hl
  unfold f4_add at h
  refine lv_aload_n hx hb dX4_add_0 rfl (lv_at hl 0 rfl) ?_
  refine gF4_15 C P zs15 rfl dX4_add_1 ?_
  refine lv_bipush (v := 16) hx hb dX4_add_4 (by decide) ?_
  refine z_icmp_ge (tgt := 29) hx hb dX4_add_6 (by decide) h (fun h => ?_) (fun h => ?_)
  · exact z_vret C P (Option.some.inj h) dX4_add_29
  · refine lv_aload_n hx hb dX4_add_9 rfl (lv_at hl 0 rfl) ?_
    refine gF4_11 C P zs15 rfl dX4_add_10 ?_
    refine lv_aload_n hx hb dX4_add_13 rfl (lv_at hl 0 rfl) ?_
    refine gF4_15 C P zs15 rfl dX4_add_14 ?_
    refine lv_iload_n hx hb dX4_add_17 rfl (lv_at hl 1 rfl) ?_
    refine z_iast C P zs16 dX4_add_18 h (fun S18 H locs h P => ?_)
    refine lv_aload_n hx hb dX4_add_19 rfl (lv_at hl 0 rfl) ?_
    refine lv_dup hx hb dX4_add_20 rfl ?_
    refine gF4_15 C P zs15 rfl dX4_add_21 ?_
    refine lv_iconst (v := 1) hx hb dX4_add_24 (by decide) ?_
    refine lv_iadd hx hb dX4_add_25 ?_
    refine pF4_15 C P zs15 rfl dX4_add_26 h (fun S26 H locs h P => ?_)
    exact z_vret C P (Option.some.inj h) dX4_add_29
theorem w5_firstMaker_38 (C : zCx p s m args meth c cX5_firstMaker 4 RX5 (some .int) D ad cA A) {o : Nat} (ho : zW o) {z : Int32} {S : Zs} {k4 : Int32 → Int32 → Int32 → Option Int32} (hk4 : ∀ (x1 : Int32) (x2 : Int32) (x3 : Int32) (H : Heap) (locs : List Loc) (ls : Array Slot), k4 x1 x2 x3 = some z → zP D zC ad cA A S s H locs → lv_has ls 4 [(0, .ref (ad o)), (1, .int x1), (2, .int x2), (3, .int x3)] → W p l e (zrm 1 23) s m args below meth c H locs 0 0 (MQ below (zQi D zC ad cA A (z, S)) args s 0 0 A) (F0 m 4 ls [])) (x1 : Int32) (x2 : Int32) (x3 : Int32) (H : Heap) (locs : List Loc) (ls : Array Slot) (h : f5_firstMaker_38 o S k4 x1 x2 x3 = some z) (P : zP D zC ad cA A S s H locs) (hl : lv_has ls 4 [(0, .ref (ad o)), (1, .int x1), (2, .int x2), (3, .int x3)]) :
    W p l e (zrm 1 23) s m args below meth c H locs 0 0 (MQ below (zQi D zC ad cA A (z, S)) args s 0 0 A) (F0 m 38 ls []) := by
  have hx := C.1
  have hb := C.2.1
  unfold f5_firstMaker_38 at h
  obtain ⟨v38, ev38, h⟩ := z_nm h
  refine lv_iinc (v := v38) (lv' := [(3, .int v38), (0, .ref (ad o)), (1, .int x1), (2, .int x2)]) hx hb dX5_firstMaker_38 hl (k := 3) rfl (by rw [ev38]; rfl) (by decide) rfl (fun ls hl => ?_)
  refine lv_goto (tgt := 4) hx hb dX5_firstMaker_41 (by decide) ?_
  exact hk4 _ _ _ _ _ _ h P (lv_sub hl [1, 2, 3, 0] rfl)
theorem w5_firstMaker_4 (C : zCx p s m args meth c cX5_firstMaker 4 RX5 (some .int) D ad cA A) {o : Nat} (ho : zW o) {z : Int32} {S : Zs} :
    ∀ (n : Nat) (x1 : Int32) (x2 : Int32) (x3 : Int32) (H : Heap) (locs : List Loc) (ls : Array Slot), f5_firstMaker_4 o S n x1 x2 x3 = some z → zP D zC ad cA A S s H locs → lv_has ls 4 [(0, .ref (ad o)), (1, .int x1), (2, .int x2), (3, .int x3)] → W p l e (zrm 1 23) s m args below meth c H locs 0 0 (MQ below (zQi D zC ad cA A (z, S)) args s 0 0 A) (F0 m 4 ls []) := by
  have hx := C.1
  have hb := C.2.1
  intro n
  induction n with
  | zero =>
    intro x1 x2 x3 H locs ls h
    cases h
  | succ n ih =>
    intro x1 x2 x3 H locs ls h P hl
    unfold f5_firstMaker_4 at h
    refine lv_iload_n hx hb dX5_firstMaker_4 rfl (lv_at hl 3 rfl) ?_
    refine lv_aload_n hx hb dX5_firstMaker_5 rfl (lv_at hl 0 rfl) ?_
    refine gF5_9 C P ho.1 rfl dX5_firstMaker_6 ?_
    refine z_icmp_ge (tgt := 44) hx hb dX5_firstMaker_9 (by decide) h (fun h => ?_) (fun h => ?_)
    · refine lv_iload_n hx hb dX5_firstMaker_44 rfl (lv_at hl 2 rfl) ?_
      exact z_iret C P (by rw [Option.some.inj h]) dX5_firstMaker_45
    · refine lv_aload_n hx hb dX5_firstMaker_12 rfl (lv_at hl 0 rfl) ?_
      refine lv_aload_n hx hb dX5_firstMaker_13 rfl (lv_at hl 0 rfl) ?_
      refine gF5_30 C P ho.1 rfl dX5_firstMaker_14 ?_
      refine lv_iload_n hx hb dX5_firstMaker_17 rfl (lv_at hl 3 rfl) ?_
      refine lv_iload_n hx hb dX5_firstMaker_18 rfl (lv_at hl 1 rfl) ?_
      obtain ⟨r19, g19, h⟩ := bd1_some h
      refine z_callVl C P (As := [.ref (ad (o + 7)), .int x3, .int x1]) (m5_cost ho ho.2.2.2.2.2.1 g19) cW5_43 rfl ho.1 rfl (by decide) hl.1 rfl (Nat.le_of_ble_eq_true rfl) dX5_firstMaker_19 ⟨Nat.zero_le _, Nat.zero_le _⟩ (fun H locs P => ?_)
      refine lv_aload_n hx hb dX5_firstMaker_22 rfl (lv_at hl 0 rfl) ?_
      refine lv_aload_n hx hb dX5_firstMaker_23 rfl (lv_at hl 0 rfl) ?_
      refine gF5_30 C P ho.1 rfl dX5_firstMaker_24 ?_
      refine lv_iload_n hx hb dX5_firstMaker_27 rfl (lv_at hl 2 rfl) ?_
      refine lv_iload_n hx hb dX5_firstMaker_28 rfl (lv_at hl 1 rfl) ?_
      obtain ⟨r29, g29, h⟩ := bd1_some h
      refine z_callVl C P (As := [.ref (ad (o + 7)), .int x2, .int x1]) (m5_cost ho ho.2.2.2.2.2.1 g29) cW5_43 rfl ho.1 rfl (by decide) hl.1 rfl (Nat.le_of_ble_eq_true rfl) dX5_firstMaker_29 ⟨Nat.zero_le _, Nat.zero_le _⟩ (fun H locs P => ?_)
      refine z_lcmp_ge (tgt := 38) hx hb dX5_firstMaker_32 dX5_firstMaker_33 (by decide) h (fun h => ?_) (fun h => ?_)
      · exact w5_firstMaker_38 C ho ih _ _ _ _ _ _ h P (lv_sub hl [0, 1, 2, 3] rfl)
      · refine lv_iload_n hx hb dX5_firstMaker_36 rfl (lv_at hl 3 rfl) ?_
        refine lv_istore_n (lv' := [(2, .int x3), (0, .ref (ad o)), (1, .int x1), (3, .int x3)]) hx hb dX5_firstMaker_37 rfl hl (by decide) rfl (fun ls hl => ?_)
        exact w5_firstMaker_38 C ho ih _ _ _ _ _ _ h P (lv_sub hl [1, 2, 0, 3] rfl)
theorem m5_firstMaker {l : Launch} {D : va_G} {cA : Nat → ClassId} {ad : Nat → Nat} {o : Nat} (ho : zW o) {x1 : Int32} {S : Zs} {z : Int32} (h : f5_firstMaker o S x1 = some z) :
    zMi l yX5_firstMaker cX5_firstMaker 4 1 23 D zC ad cA S [.ref (ad o), .int x1] (z, S) := by
  refine z_enter (Qc := fun A => zQi D zC ad cA A (z, S)) (by decide +kernel) (Nat.le_of_ble_eq_true rfl) (fun p e s m below meth c A C P ls hl => ?_)
  have hx := C.1
  have hb := C.2.1
  have hl : lv_has ls 4 [(0, .ref (ad o)), (1, .int x1)] := hl
  unfold f5_firstMaker at h
  refine lv_iconst (v := 0) hx hb dX5_firstMaker_0 (by decide) ?_
  refine lv_istore_n (lv' := [(2, .int (0 : Int32)), (0, .ref (ad o)), (1, .int x1)]) hx hb dX5_firstMaker_1 rfl hl (by decide) rfl (fun ls hl => ?_)
  refine lv_iconst (v := 1) hx hb dX5_firstMaker_2 (by decide) ?_
  refine lv_istore_n (lv' := [(3, .int (1 : Int32)), (2, .int (0 : Int32)), (0, .ref (ad o)), (1, .int x1)]) hx hb dX5_firstMaker_3 rfl hl (by decide) rfl (fun ls hl => ?_)
  exact w5_firstMaker_4 C ho _ _ _ _ _ _ _ h P (lv_sub hl [2, 3, 1, 0] rfl)
theorem m3_empty {l : Launch} {D : va_G} {cA : Nat → ClassId} {ad : Nat → Nat} {S : Zs} {z : Zs} (h : f3_empty S = some z) :
    zMv l yX3_empty cX3_empty 1 0 0 D zC ad cA S [.ref (ad 13)] z := by
  refine z_enter (Qc := fun A => zQv D zC ad cA A z) (by decide +kernel) (Nat.le_of_ble_eq_true rfl) (fun p e s m below meth c A C P ls hl => ?_)
  have hx := C.1
  have hb := C.2.1
  have hl : lv_has ls 1 [(0, .ref (ad 13))] := hl
  unfold f3_empty at h
  refine lv_aload_n hx hb dX3_empty_0 rfl (lv_at hl 0 rfl) ?_
  refine lv_iconst (v := 0) hx hb dX3_empty_1 (by decide) ?_
  refine pF3_15 C P zs13 rfl dX3_empty_2 h (fun S2 H locs h P => ?_)
  exact z_vret C P (Option.some.inj h) dX3_empty_5
theorem m3_blame {l : Launch} {D : va_G} {cA : Nat → ClassId} {ad : Nat → Nat} {x1 : Int32} {S : Zs} {z : Int32 × Zs} (h : f3_blame x1 S = some z) :
    zMb l yX3_blame cX3_blame 2 0 0 D zC ad cA S [.ref (ad 13), .int x1] z := by
  refine z_enter (Qc := fun A => zQb D zC ad cA A z) (by decide +kernel) (Nat.le_of_ble_eq_true rfl) (fun p e s m below meth c A C P ls hl => ?_)
  have hx := C.1
  have hb := C.2.1
  have hl : lv_has ls 2 [(0, .ref (ad 13)), (1, .int x1)] := hl
  unfold f3_blame at h
  refine lv_aload_n hx hb dX3_blame_0 rfl (lv_at hl 0 rfl) ?_
  refine lv_iload_n hx hb dX3_blame_1 rfl (lv_at hl 1 rfl) ?_
  refine pF3_19 C P zs13 rfl dX3_blame_2 h (fun S2 H locs h P => ?_)
  refine lv_aload_n hx hb dX3_blame_5 rfl (lv_at hl 0 rfl) ?_
  refine lv_aload_n hx hb dX3_blame_6 rfl (lv_at hl 0 rfl) ?_
  refine gF3_25 C P zs13 rfl dX3_blame_7 ?_
  refine pF3_22 C P zs13 rfl dX3_blame_10 h (fun S10 H locs h P => ?_)
  refine lv_iconst (v := 0) hx hb dX3_blame_13 (by decide) ?_
  exact z_zret C P (Option.some.inj h) (by decide) dX3_blame_14
theorem w3_isNumberUpTo_30 (C : zCx p s m args meth c cX3_isNumberUpTo 2 RX3 (some .boolean) D ad cA A) {z : Int32 × Zs} (S : Zs) (H : Heap) (locs : List Loc) (ls : Array Slot) (h : f3_isNumberUpTo_30 S = some z) (P : zP D zC ad cA A S s H locs) (hl : lv_has ls 2 [(0, .ref (ad 13))]) :
    W p l e (zrm 1 21) s m args below meth c H locs 0 0 (MQ below (zQb D zC ad cA A z) args s 0 0 A) (F0 m 30 ls []) := by
  have hx := C.1
  have hb := C.2.1
  unfold f3_isNumberUpTo_30 at h
  refine lv_aload_n hx hb dX3_isNumberUpTo_30 rfl (lv_at hl 0 rfl) ?_
  refine lv_iconst (v := 2) hx hb dX3_isNumberUpTo_31 (by decide) ?_
  obtain ⟨r32, S32, g32, h⟩ := bd2_some h
  refine z_callVb C P (As := [.int (2 : Int32)]) (m3_blame g32) cW3_55 rfl zs13 rfl (by decide) hl.1 rfl (Nat.le_of_ble_eq_true rfl) dX3_isNumberUpTo_32 ⟨Nat.zero_le _, Nat.zero_le _⟩ (fun H locs n32 P => ?_)
  refine z_if_eq (tgt := 42) hx hb dX3_isNumberUpTo_35 (by decide) h (fun h => ?_) (fun h => ?_)
  · refine lv_iconst (v := 0) hx hb dX3_isNumberUpTo_42 (by decide) ?_
    exact z_zret C P (Option.some.inj h) (by decide) dX3_isNumberUpTo_43
  · refine lv_iconst (v := 1) hx hb dX3_isNumberUpTo_38 (by decide) ?_
    refine lv_goto (tgt := 43) hx hb dX3_isNumberUpTo_39 (by decide) ?_
    exact z_zret C P (Option.some.inj h) (by decide) dX3_isNumberUpTo_43
theorem m3_isNumberUpTo {l : Launch} {D : va_G} {cA : Nat → ClassId} {ad : Nat → Nat} {x1 : Int32} {S : Zs} {z : Int32 × Zs} (h : f3_isNumberUpTo x1 S = some z) :
    zMb l yX3_isNumberUpTo cX3_isNumberUpTo 2 1 21 D zC ad cA S [.ref (ad 13), .int x1] z := by
  refine z_enter (Qc := fun A => zQb D zC ad cA A z) (by decide +kernel) (Nat.le_of_ble_eq_true rfl) (fun p e s m below meth c A C P ls hl => ?_)
  have hx := C.1
  have hb := C.2.1
  have hl : lv_has ls 2 [(0, .ref (ad 13)), (1, .int x1)] := hl
  unfold f3_isNumberUpTo at h
  refine lv_aload_n hx hb dX3_isNumberUpTo_0 rfl (lv_at hl 0 rfl) ?_
  refine gF3_31 C P zs13 rfl dX3_isNumberUpTo_1 ?_
  refine lv_iconst (v := 3) hx hb dX3_isNumberUpTo_4 (by decide) ?_
  refine z_icmp_eq (tgt := 14) hx hb dX3_isNumberUpTo_5 (by decide) h (fun h => ?_) (fun h => ?_)
  · refine lv_aload_n hx hb dX3_isNumberUpTo_14 rfl (lv_at hl 0 rfl) ?_
    refine gF3_34 C P zs13 rfl dX3_isNumberUpTo_15 ?_
    refine lv_iconst (v := 1) hx hb dX3_isNumberUpTo_18 (by decide) ?_
    refine z_icmp_lt (tgt := 30) hx hb dX3_isNumberUpTo_19 (by decide) h (fun h => ?_) (fun h => ?_)
    · exact w3_isNumberUpTo_30 C _ _ _ _ h P (lv_sub hl [0] rfl)
    · refine lv_aload_n hx hb dX3_isNumberUpTo_22 rfl (lv_at hl 0 rfl) ?_
      refine gF3_34 C P zs13 rfl dX3_isNumberUpTo_23 ?_
      refine lv_iload_n hx hb dX3_isNumberUpTo_26 rfl (lv_at hl 1 rfl) ?_
      refine z_icmp_le (tgt := 38) hx hb dX3_isNumberUpTo_27 (by decide) h (fun h => ?_) (fun h => ?_)
      · refine lv_iconst (v := 1) hx hb dX3_isNumberUpTo_38 (by decide) ?_
        refine lv_goto (tgt := 43) hx hb dX3_isNumberUpTo_39 (by decide) ?_
        exact z_zret C P (Option.some.inj h) (by decide) dX3_isNumberUpTo_43
      · exact w3_isNumberUpTo_30 C _ _ _ _ h P (lv_sub hl [0] rfl)
  · refine lv_aload_n hx hb dX3_isNumberUpTo_8 rfl (lv_at hl 0 rfl) ?_
    refine lv_iconst (v := 1) hx hb dX3_isNumberUpTo_9 (by decide) ?_
    obtain ⟨r10, S10, g10, h⟩ := bd2_some h
    refine z_callVb C P (As := [.int (1 : Int32)]) (m3_blame g10) cW3_55 rfl zs13 rfl (by decide) hl.1 rfl (Nat.le_of_ble_eq_true rfl) dX3_isNumberUpTo_10 ⟨Nat.zero_le _, Nat.zero_le _⟩ (fun H locs n10 P => ?_)
    exact z_zret C P (Option.some.inj h) n10 dX3_isNumberUpTo_13
theorem m3_isFigure {l : Launch} {D : va_G} {cA : Nat → ClassId} {ad : Nat → Nat} {x0 : Int32} {S : Zs} :
    zMb l yX3_isFigure cX3_isFigure 1 0 0 D zC ad cA S [.int x0] (f3_isFigure x0, S) := by
  obtain ⟨z, h⟩ : ∃ z, f3_isFigure x0 = z := ⟨_, rfl⟩
  rw [h]
  refine z_enter (Qc := fun A => zQb D zC ad cA A (z, S)) (by decide +kernel) (Nat.le_of_ble_eq_true rfl) (fun p e s m below meth c A C P ls hl => ?_)
  have hx := C.1
  have hb := C.2.1
  have hl : lv_has ls 1 [(0, .int x0)] := hl
  unfold f3_isFigure at h
  refine lv_iload_n hx hb dX3_isFigure_0 rfl (lv_at hl 0 rfl) ?_
  refine lv_bipush (v := 48) hx hb dX3_isFigure_1 (by decide) ?_
  refine z_icmp_lt (tgt := 16) hx hb dX3_isFigure_3 (by decide) h (fun h => ?_) (fun h => ?_)
  · refine lv_iconst (v := 0) hx hb dX3_isFigure_16 (by decide) ?_
    exact z_zret C P (by rw [h]) (by decide) dX3_isFigure_17
  · refine lv_iload_n hx hb dX3_isFigure_6 rfl (lv_at hl 0 rfl) ?_
    refine lv_bipush (v := 57) hx hb dX3_isFigure_7 (by decide) ?_
    refine z_icmp_gt (tgt := 16) hx hb dX3_isFigure_9 (by decide) h (fun h => ?_) (fun h => ?_)
    · refine lv_iconst (v := 0) hx hb dX3_isFigure_16 (by decide) ?_
      exact z_zret C P (by rw [h]) (by decide) dX3_isFigure_17
    · refine lv_iconst (v := 1) hx hb dX3_isFigure_12 (by decide) ?_
      refine lv_goto (tgt := 17) hx hb dX3_isFigure_13 (by decide) ?_
      exact z_zret C P (by rw [h]) (by decide) dX3_isFigure_17
theorem w3_takeNumber_100 (C : zCx p s m args meth c cX3_takeNumber 1 RX3 none D ad cA A) {z : Zs} (t0 : Int32) (S : Zs) (H : Heap) (locs : List Loc) (ls : Array Slot) (h : f3_takeNumber_100 t0 S = some z) (P : zP D zC ad cA A S s H locs) (hl : lv_has ls 1 [(0, .ref (ad 13))]) :
    W p l e (zrm 1 20) s m args below meth c H locs 0 0 (MQ below (zQv D zC ad cA A z) args s 0 0 A) (F0 m 100 ls [.int t0, .ref (ad 13)]) := by
  have hx := C.1
  have hb := C.2.1
  unfold f3_takeNumber_100 at h
  refine pF3_31 C P zs13 rfl dX3_takeNumber_100 h (fun S100 H locs h P => ?_)
  exact z_vret C P (Option.some.inj h) dX3_takeNumber_103
theorem w3_takeNumber_81 (C : zCx p s m args meth c cX3_takeNumber 1 RX3 none D ad cA A) {z : Zs} (S : Zs) (H : Heap) (locs : List Loc) (ls : Array Slot) (h : f3_takeNumber_81 S = some z) (P : zP D zC ad cA A S s H locs) (hl : lv_has ls 1 [(0, .ref (ad 13))]) :
    W p l e (zrm 1 20) s m args below meth c H locs 0 0 (MQ below (zQv D zC ad cA A z) args s 0 0 A) (F0 m 81 ls []) := by
  have hx := C.1
  have hb := C.2.1
  unfold f3_takeNumber_81 at h
  refine lv_aload_n hx hb dX3_takeNumber_81 rfl (lv_at hl 0 rfl) ?_
  refine lv_aload_n hx hb dX3_takeNumber_82 rfl (lv_at hl 0 rfl) ?_
  refine gF3_28 C P zs13 rfl dX3_takeNumber_83 ?_
  refine lv_aload_n hx hb dX3_takeNumber_86 rfl (lv_at hl 0 rfl) ?_
  refine gF3_25 C P zs13 rfl dX3_takeNumber_87 ?_
  refine lv_isub hx hb dX3_takeNumber_90 ?_
  refine lv_iconst (v := 2) hx hb dX3_takeNumber_91 (by decide) ?_
  refine z_icmp_gt (tgt := 99) hx hb dX3_takeNumber_92 (by decide) h (fun h => ?_) (fun h => ?_)
  · refine lv_iconst (v := 5) hx hb dX3_takeNumber_99 (by decide) ?_
    exact w3_takeNumber_100 C _ _ _ _ _ h P (lv_sub hl [0] rfl)
  · refine lv_iconst (v := 3) hx hb dX3_takeNumber_95 (by decide) ?_
    refine lv_goto (tgt := 100) hx hb dX3_takeNumber_96 (by decide) ?_
    exact w3_takeNumber_100 C _ _ _ _ _ h P (lv_sub hl [0] rfl)
theorem w3_takeNumber_68 (C : zCx p s m args meth c cX3_takeNumber 1 RX3 none D ad cA A) {z : Zs} {k5 : Zs → Option Zs} (hk5 : ∀ (S : Zs) (H : Heap) (locs : List Loc) (ls : Array Slot), k5 S = some z → zP D zC ad cA A S s H locs → lv_has ls 1 [(0, .ref (ad 13))] → W p l e (zrm 1 20) s m args below meth c H locs 0 0 (MQ below (zQv D zC ad cA A z) args s 0 0 A) (F0 m 5 ls [])) (S : Zs) (H : Heap) (locs : List Loc) (ls : Array Slot) (h : f3_takeNumber_68 k5 S = some z) (P : zP D zC ad cA A S s H locs) (hl : lv_has ls 1 [(0, .ref (ad 13))]) :
    W p l e (zrm 1 20) s m args below meth c H locs 0 0 (MQ below (zQv D zC ad cA A z) args s 0 0 A) (F0 m 68 ls []) := by
  have hx := C.1
  have hb := C.2.1
  unfold f3_takeNumber_68 at h
  refine lv_aload_n hx hb dX3_takeNumber_68 rfl (lv_at hl 0 rfl) ?_
  refine lv_dup hx hb dX3_takeNumber_69 rfl ?_
  refine gF3_28 C P zs13 rfl dX3_takeNumber_70 ?_
  refine lv_iconst (v := 1) hx hb dX3_takeNumber_73 (by decide) ?_
  refine lv_iadd hx hb dX3_takeNumber_74 ?_
  refine pF3_28 C P zs13 rfl dX3_takeNumber_75 h (fun S75 H locs h P => ?_)
  refine lv_goto (tgt := 5) hx hb dX3_takeNumber_78 (by decide) ?_
  exact hk5 _ _ _ _ h P (lv_sub hl [0] rfl)
theorem w3_takeNumber_5 (C : zCx p s m args meth c cX3_takeNumber 1 RX3 none D ad cA A) {z : Zs} :
    ∀ (n : Nat) (S : Zs) (H : Heap) (locs : List Loc) (ls : Array Slot), f3_takeNumber_5 n S = some z → zP D zC ad cA A S s H locs → lv_has ls 1 [(0, .ref (ad 13))] → W p l e (zrm 1 20) s m args below meth c H locs 0 0 (MQ below (zQv D zC ad cA A z) args s 0 0 A) (F0 m 5 ls []) := by
  have hx := C.1
  have hb := C.2.1
  intro n
  induction n with
  | zero =>
    intro S H locs ls h
    cases h
  | succ n ih =>
    intro S H locs ls h P hl
    unfold f3_takeNumber_5 at h
    refine lv_aload_n hx hb dX3_takeNumber_5 rfl (lv_at hl 0 rfl) ?_
    refine gF3_28 C P zs13 rfl dX3_takeNumber_6 ?_
    refine lv_aload_n hx hb dX3_takeNumber_9 rfl (lv_at hl 0 rfl) ?_
    refine gF3_15 C P zs13 rfl dX3_takeNumber_10 ?_
    refine z_icmp_ge (tgt := 81) hx hb dX3_takeNumber_13 (by decide) h (fun h => ?_) (fun h => ?_)
    · exact w3_takeNumber_81 C _ _ _ _ h P (lv_sub hl [0] rfl)
    · refine lv_aload_n hx hb dX3_takeNumber_16 rfl (lv_at hl 0 rfl) ?_
      refine gF3_11 C P zs13 rfl dX3_takeNumber_17 ?_
      refine lv_aload_n hx hb dX3_takeNumber_20 rfl (lv_at hl 0 rfl) ?_
      refine gF3_28 C P zs13 rfl dX3_takeNumber_21 ?_
      refine z_bald C P zs14 dX3_takeNumber_24 h (fun h hi => ?_)
      refine z_callSb C P (As := [.int (S.1 14 (S.1 13 5).toNatClampNeg)]) (m3_isFigure) cW3_84 rfl (by decide) hl.1 rfl (Nat.le_of_ble_eq_true rfl) dX3_takeNumber_25 ⟨Nat.zero_le _, Nat.zero_le _⟩ (fun H locs n25 P => ?_)
      refine z_if_eq (tgt := 81) hx hb dX3_takeNumber_28 (by decide) h (fun h => ?_) (fun h => ?_)
      · exact w3_takeNumber_81 C _ _ _ _ h P (lv_sub hl [0] rfl)
      · refine lv_aload_n hx hb dX3_takeNumber_31 rfl (lv_at hl 0 rfl) ?_
        refine gF3_28 C P zs13 rfl dX3_takeNumber_32 ?_
        refine lv_aload_n hx hb dX3_takeNumber_35 rfl (lv_at hl 0 rfl) ?_
        refine gF3_25 C P zs13 rfl dX3_takeNumber_36 ?_
        refine lv_isub hx hb dX3_takeNumber_39 ?_
        refine lv_iconst (v := 2) hx hb dX3_takeNumber_40 (by decide) ?_
        refine z_icmp_ge (tgt := 68) hx hb dX3_takeNumber_41 (by decide) h (fun h => ?_) (fun h => ?_)
        · exact w3_takeNumber_68 C ih _ _ _ _ h P (lv_sub hl [0] rfl)
        · refine lv_aload_n hx hb dX3_takeNumber_44 rfl (lv_at hl 0 rfl) ?_
          refine lv_aload_n hx hb dX3_takeNumber_45 rfl (lv_at hl 0 rfl) ?_
          refine gF3_34 C P zs13 rfl dX3_takeNumber_46 ?_
          refine lv_bipush (v := 10) hx hb dX3_takeNumber_49 (by decide) ?_
          refine lv_imul hx hb dX3_takeNumber_51 ?_
          refine lv_aload_n hx hb dX3_takeNumber_52 rfl (lv_at hl 0 rfl) ?_
          refine gF3_11 C P zs13 rfl dX3_takeNumber_53 ?_
          refine lv_aload_n hx hb dX3_takeNumber_56 rfl (lv_at hl 0 rfl) ?_
          refine gF3_28 C P zs13 rfl dX3_takeNumber_57 ?_
          refine z_bald C P zs14 dX3_takeNumber_60 h (fun h hi => ?_)
          refine lv_bipush (v := 48) hx hb dX3_takeNumber_61 (by decide) ?_
          refine lv_isub hx hb dX3_takeNumber_63 ?_
          refine lv_iadd hx hb dX3_takeNumber_64 ?_
          refine pF3_34 C P zs13 rfl dX3_takeNumber_65 h (fun S65 H locs h P => ?_)
          exact w3_takeNumber_68 C ih _ _ _ _ h P (lv_sub hl [0] rfl)
theorem m3_takeNumber {l : Launch} {D : va_G} {cA : Nat → ClassId} {ad : Nat → Nat} {S : Zs} {z : Zs} (h : f3_takeNumber S = some z) :
    zMv l yX3_takeNumber cX3_takeNumber 1 1 20 D zC ad cA S [.ref (ad 13)] z := by
  refine z_enter (Qc := fun A => zQv D zC ad cA A z) (by decide +kernel) (Nat.le_of_ble_eq_true rfl) (fun p e s m below meth c A C P ls hl => ?_)
  have hx := C.1
  have hb := C.2.1
  have hl : lv_has ls 1 [(0, .ref (ad 13))] := hl
  unfold f3_takeNumber at h
  refine lv_aload_n hx hb dX3_takeNumber_0 rfl (lv_at hl 0 rfl) ?_
  refine lv_iconst (v := 0) hx hb dX3_takeNumber_1 (by decide) ?_
  refine pF3_34 C P zs13 rfl dX3_takeNumber_2 h (fun S2 H locs h P => ?_)
  exact w3_takeNumber_5 C _ _ _ _ _ h P (lv_sub hl [0] rfl)
theorem m3_isLetter {l : Launch} {D : va_G} {cA : Nat → ClassId} {ad : Nat → Nat} {x0 : Int32} {S : Zs} :
    zMb l yX3_isLetter cX3_isLetter 1 0 0 D zC ad cA S [.int x0] (f3_isLetter x0, S) := by
  obtain ⟨z, h⟩ : ∃ z, f3_isLetter x0 = z := ⟨_, rfl⟩
  rw [h]
  refine z_enter (Qc := fun A => zQb D zC ad cA A (z, S)) (by decide +kernel) (Nat.le_of_ble_eq_true rfl) (fun p e s m below meth c A C P ls hl => ?_)
  have hx := C.1
  have hb := C.2.1
  have hl : lv_has ls 1 [(0, .int x0)] := hl
  unfold f3_isLetter at h
  refine lv_iload_n hx hb dX3_isLetter_0 rfl (lv_at hl 0 rfl) ?_
  refine lv_bipush (v := 97) hx hb dX3_isLetter_1 (by decide) ?_
  refine z_icmp_lt (tgt := 16) hx hb dX3_isLetter_3 (by decide) h (fun h => ?_) (fun h => ?_)
  · refine lv_iconst (v := 0) hx hb dX3_isLetter_16 (by decide) ?_
    exact z_zret C P (by rw [h]) (by decide) dX3_isLetter_17
  · refine lv_iload_n hx hb dX3_isLetter_6 rfl (lv_at hl 0 rfl) ?_
    refine lv_bipush (v := 122) hx hb dX3_isLetter_7 (by decide) ?_
    refine z_icmp_gt (tgt := 16) hx hb dX3_isLetter_9 (by decide) h (fun h => ?_) (fun h => ?_)
    · refine lv_iconst (v := 0) hx hb dX3_isLetter_16 (by decide) ?_
      exact z_zret C P (by rw [h]) (by decide) dX3_isLetter_17
    · refine lv_iconst (v := 1) hx hb dX3_isLetter_12 (by decide) ?_
      refine lv_goto (tgt := 17) hx hb dX3_isLetter_13 (by decide) ?_
      exact z_zret C P (by rw [h]) (by decide) dX3_isLetter_17
end ZVC6
