section ZVC6
variable {p : Program} {l : Launch} {e : Env} {s : State} {m : MethodId} {args : Array Value} {below : List Frame} {meth : Method} {c : Code} {D : va_G} {cA : Nat → ClassId} {A : Nat → Prop} {ad : Nat → Nat}
theorem m6_makersChange {l : Launch} {D : va_G} {cA : Nat → ClassId} {ad : Nat → Nat} {x1 : Int32} {x2 : Int32} {x3 : Int32} {S : Zs} {z : Int32 × Zs} (h : f6_makersChange x1 x2 x3 S = some z) :
    zMb l yX6_makersChange cX6_makersChange 5 5 131 D zC ad cA S [.ref (ad 0), .int x1, .int x2, .int x3] z := by
  refine z_enter (Qc := fun A => zQb D zC ad cA A z) (by decide +kernel) (Nat.le_of_ble_eq_true rfl) (fun p e s m below meth c A C P ls hl => ?_)
  have hx := C.1
  have hb := C.2.1
  have hl : lv_has ls 5 [(0, .ref (ad 0)), (1, .int x1), (2, .int x2), (3, .int x3)] := hl
  unfold f6_makersChange at h
  refine lv_aload_n hx hb dX6_makersChange_0 rfl (lv_at hl 0 rfl) ?_
  refine gF6_47 C P zs0 rfl dX6_makersChange_1 ?_
  refine gF6_157 C P zW_37.1 rfl dX6_makersChange_4 ?_
  refine lv_iload_n hx hb dX6_makersChange_7 rfl (lv_at hl 1 rfl) ?_
  refine z_aald C P zW_37.2.2.2.1 (zrs3 37) zW_37.2.2.2.2.1 dX6_makersChange_8 h (fun h hg8 => ?_)
  refine lv_iload_n hx hb dX6_makersChange_9 rfl (lv_at hl 2 rfl) ?_
  refine z_iald C P hg8 dX6_makersChange_10 h (fun h hi => ?_)
  refine lv_iload_n hx hb dX6_makersChange_11 rfl (lv_at hl 3 rfl) ?_
  refine lv_iadd hx hb dX6_makersChange_12 ?_
  refine z_topi h (fun v13 h => ?_)
  refine lv_istore (lv' := [(4, .int v13), (0, .ref (ad 0)), (1, .int x1), (2, .int x2), (3, .int x3)]) hx hb dX6_makersChange_13 hl (by decide) rfl (fun ls hl => ?_)
  refine lv_iload hx hb dX6_makersChange_15 (lv_at hl 0 rfl) ?_
  refine lv_iconst (v := 1) hx hb dX6_makersChange_17 (by decide) ?_
  refine z_icmp_lt (tgt := 28) hx hb dX6_makersChange_18 (by decide) h (fun h => ?_) (fun h => ?_)
  · refine lv_iconst (v := 0) hx hb dX6_makersChange_28 (by decide) ?_
    exact z_zret C P (Option.some.inj h) (by decide) dX6_makersChange_29
  · refine lv_iload hx hb dX6_makersChange_21 (lv_at hl 0 rfl) ?_
    refine lv_bipush (v := 20) hx hb dX6_makersChange_23 (by decide) ?_
    refine z_icmp_le (tgt := 30) hx hb dX6_makersChange_25 (by decide) h (fun h => ?_) (fun h => ?_)
    · refine lv_aload_n hx hb dX6_makersChange_30 rfl (lv_at hl 1 rfl) ?_
      refine gF6_54 C P zs0 rfl dX6_makersChange_31 ?_
      refine lv_aload_n hx hb dX6_makersChange_34 rfl (lv_at hl 1 rfl) ?_
      refine gF6_47 C P zs0 rfl dX6_makersChange_35 ?_
      obtain ⟨S38, g38, h⟩ := bd1_some h
      refine z_callVv C P (As := [.ref (ad 37)]) (m5_take zW_55 zW_37 g38) cW6_142 rfl zW_55.1 rfl (by decide) hl.1 rfl (Nat.le_of_ble_eq_true rfl) dX6_makersChange_38 ⟨Nat.zero_le _, Nat.zero_le _⟩ (fun H locs P => ?_)
      refine lv_aload_n hx hb dX6_makersChange_41 rfl (lv_at hl 1 rfl) ?_
      refine gF6_54 C P zs0 rfl dX6_makersChange_42 ?_
      refine gF6_157 C P zW_55.1 rfl dX6_makersChange_45 ?_
      refine lv_iload_n hx hb dX6_makersChange_48 rfl (lv_at hl 2 rfl) ?_
      refine z_aald C P zW_55.2.2.2.1 (zrs3 55) zW_55.2.2.2.2.1 dX6_makersChange_49 h (fun h hg49 => ?_)
      refine lv_iload_n hx hb dX6_makersChange_50 rfl (lv_at hl 3 rfl) ?_
      refine lv_iload hx hb dX6_makersChange_51 (lv_at hl 0 rfl) ?_
      refine z_iast C P hg49 dX6_makersChange_53 h (fun S53 H locs h P => ?_)
      refine lv_aload_n hx hb dX6_makersChange_54 rfl (lv_at hl 1 rfl) ?_
      refine gF6_33 C P zs0 rfl dX6_makersChange_55 ?_
      refine lv_aload_n hx hb dX6_makersChange_58 rfl (lv_at hl 1 rfl) ?_
      refine gF6_54 C P zs0 rfl dX6_makersChange_59 ?_
      obtain ⟨S62, g62, h⟩ := bd1_some h
      refine z_callVv C P (As := [.ref (ad 55)]) (m1_settle zW_55 g62) cW6_138 rfl zs17 rfl (by decide) hl.1 rfl (Nat.le_of_ble_eq_true rfl) dX6_makersChange_62 ⟨Nat.zero_le _, Nat.zero_le _⟩ (fun H locs P => ?_)
      refine lv_aload_n hx hb dX6_makersChange_65 rfl (lv_at hl 1 rfl) ?_
      refine gF6_54 C P zs0 rfl dX6_makersChange_66 ?_
      refine lv_aload_n hx hb dX6_makersChange_69 rfl (lv_at hl 1 rfl) ?_
      refine gF6_54 C P zs0 rfl dX6_makersChange_70 ?_
      refine gF6_167 C P zW_55.1 rfl dX6_makersChange_73 ?_
      refine lv_iload_n hx hb dX6_makersChange_76 rfl (lv_at hl 3 rfl) ?_
      obtain ⟨r77, g77, h⟩ := bd1_some h
      refine z_callVi C P (As := [.ref (ad (55 + 7)), .int x2]) (m5_makersBy zW_55 zW_55.2.2.2.2.2.1 g77) cW6_174 rfl zW_55.1 rfl (by decide) hl.1 rfl (Nat.le_of_ble_eq_true rfl) dX6_makersChange_77 ⟨Nat.zero_le _, Nat.zero_le _⟩ (fun H locs P => ?_)
      refine lv_aload_n hx hb dX6_makersChange_80 rfl (lv_at hl 1 rfl) ?_
      refine gF6_47 C P zs0 rfl dX6_makersChange_81 ?_
      refine lv_aload_n hx hb dX6_makersChange_84 rfl (lv_at hl 1 rfl) ?_
      refine gF6_47 C P zs0 rfl dX6_makersChange_85 ?_
      refine gF6_167 C P zW_37.1 rfl dX6_makersChange_88 ?_
      refine lv_iload_n hx hb dX6_makersChange_91 rfl (lv_at hl 3 rfl) ?_
      obtain ⟨r92, g92, h⟩ := bd1_some h
      refine z_callVi C P (As := [.ref (ad (37 + 7)), .int x2]) (m5_makersBy zW_37 zW_37.2.2.2.2.2.1 g92) cW6_174 rfl zW_37.1 rfl (by decide) hl.1 rfl (Nat.le_of_ble_eq_true rfl) dX6_makersChange_92 ⟨Nat.zero_le _, Nat.zero_le _⟩ (fun H locs P => ?_)
      refine z_icmp_eq (tgt := 102) hx hb dX6_makersChange_95 (by decide) h (fun h => ?_) (fun h => ?_)
      · refine lv_iconst (v := 0) hx hb dX6_makersChange_102 (by decide) ?_
        exact z_zret C P (Option.some.inj h) (by decide) dX6_makersChange_103
      · refine lv_iconst (v := 1) hx hb dX6_makersChange_98 (by decide) ?_
        refine lv_goto (tgt := 103) hx hb dX6_makersChange_99 (by decide) ?_
        exact z_zret C P (Option.some.inj h) (by decide) dX6_makersChange_103
    · refine lv_iconst (v := 0) hx hb dX6_makersChange_28 (by decide) ?_
      exact z_zret C P (Option.some.inj h) (by decide) dX6_makersChange_29
theorem w6_edge_28 (C : zCx p s m args meth c cX6_edge 4 RX6 (some .long) D ad cA A) {z : Int64 × Zs} :
    ∀ (n : Nat) (x1 : Int32) (x2 : Int32) (x3 : Int32) (S : Zs) (H : Heap) (locs : List Loc) (ls : Array Slot), f6_edge_28 n x1 x2 x3 S = some z → zP D zC ad cA A S s H locs → lv_has ls 4 [(0, .ref (ad 0)), (1, .int x1), (2, .int x2), (3, .int x3)] → W p l e (zrm 6 155) s m args below meth c H locs 0 0 (MQ below (zQl D zC ad cA A z) args s 0 0 A) (F0 m 28 ls []) := by
  have hx := C.1
  have hb := C.2.1
  intro n
  induction n with
  | zero =>
    intro x1 x2 x3 S H locs ls h
    cases h
  | succ n ih =>
    intro x1 x2 x3 S H locs ls h P hl
    unfold f6_edge_28 at h
    refine lv_iload_n hx hb dX6_edge_28 rfl (lv_at hl 3 rfl) ?_
    refine lv_bipush (v := 20) hx hb dX6_edge_29 (by decide) ?_
    refine z_icmp_ge (tgt := 68) hx hb dX6_edge_31 (by decide) h (fun h => ?_) (fun h => ?_)
    · refine lv_ldc2 (v := (-1000000)) hx hb C.2.2.2.1 (C.2.2.2.2.1 _ kK6_206) dX6_edge_68 ?_
      exact z_lret C P (Option.some.inj h) dX6_edge_71
    · refine lv_aload_n hx hb dX6_edge_34 rfl (lv_at hl 0 rfl) ?_
      refine lv_iload_n hx hb dX6_edge_35 rfl (lv_at hl 1 rfl) ?_
      refine lv_iload_n hx hb dX6_edge_36 rfl (lv_at hl 2 rfl) ?_
      refine lv_iload_n hx hb dX6_edge_37 rfl (lv_at hl 3 rfl) ?_
      obtain ⟨r38, S38, g38, h⟩ := bd2_some h
      refine z_callVb C P (As := [.int x1, .int x2, .int x3]) (m6_makersChange g38) cW6_241 rfl zs0 rfl (by decide) hl.1 rfl (Nat.le_of_ble_eq_true rfl) dX6_edge_38 ⟨Nat.zero_le _, Nat.zero_le _⟩ (fun H locs n38 P => ?_)
      refine z_if_eq (tgt := 47) hx hb dX6_edge_41 (by decide) h (fun h => ?_) (fun h => ?_)
      · refine lv_aload_n hx hb dX6_edge_47 rfl (lv_at hl 0 rfl) ?_
        refine lv_iload_n hx hb dX6_edge_48 rfl (lv_at hl 1 rfl) ?_
        refine lv_iload_n hx hb dX6_edge_49 rfl (lv_at hl 2 rfl) ?_
        refine lv_iload_n hx hb dX6_edge_50 rfl (lv_at hl 3 rfl) ?_
        refine lv_ineg hx hb dX6_edge_51 ?_
        obtain ⟨r52, S52, g52, h⟩ := bd2_some h
        refine z_callVb C P (As := [.int x1, .int x2, .int (-x3)]) (m6_makersChange g52) cW6_241 rfl zs0 rfl (by decide) hl.1 rfl (Nat.le_of_ble_eq_true rfl) dX6_edge_52 ⟨Nat.zero_le _, Nat.zero_le _⟩ (fun H locs n52 P => ?_)
        refine z_if_eq (tgt := 62) hx hb dX6_edge_55 (by decide) h (fun h => ?_) (fun h => ?_)
        · obtain ⟨v62, ev62, h⟩ := z_nm h
          refine lv_iinc (v := v62) (lv' := [(3, .int v62), (0, .ref (ad 0)), (1, .int x1), (2, .int x2)]) hx hb dX6_edge_62 hl (k := 3) rfl (by rw [ev62]; rfl) (by decide) rfl (fun ls hl => ?_)
          refine lv_goto (tgt := 28) hx hb dX6_edge_65 (by decide) ?_
          exact ih _ _ _ _ _ _ _ h P (lv_sub hl [1, 2, 3, 0] rfl)
        · refine lv_iload_n hx hb dX6_edge_58 rfl (lv_at hl 3 rfl) ?_
          refine lv_ineg hx hb dX6_edge_59 ?_
          refine lv_i2l hx hb dX6_edge_60 rfl ?_
          exact z_lret C P (Option.some.inj h) dX6_edge_61
      · refine lv_iload_n hx hb dX6_edge_44 rfl (lv_at hl 3 rfl) ?_
        refine lv_i2l hx hb dX6_edge_45 rfl ?_
        exact z_lret C P (Option.some.inj h) dX6_edge_46
theorem m6_edge {l : Launch} {D : va_G} {cA : Nat → ClassId} {ad : Nat → Nat} {x1 : Int32} {x2 : Int32} {S : Zs} {z : Int64 × Zs} (h : f6_edge x1 x2 S = some z) :
    zMl l yX6_edge cX6_edge 4 6 155 D zC ad cA S [.ref (ad 0), .int x1, .int x2] z := by
  refine z_enter (Qc := fun A => zQl D zC ad cA A z) (by decide +kernel) (Nat.le_of_ble_eq_true rfl) (fun p e s m below meth c A C P ls hl => ?_)
  have hx := C.1
  have hb := C.2.1
  have hl : lv_has ls 4 [(0, .ref (ad 0)), (1, .int x1), (2, .int x2)] := hl
  unfold f6_edge at h
  refine lv_aload_n hx hb dX6_edge_0 rfl (lv_at hl 0 rfl) ?_
  refine gF6_47 C P zs0 rfl dX6_edge_1 ?_
  refine lv_iload_n hx hb dX6_edge_4 rfl (lv_at hl 1 rfl) ?_
  refine z_callVb C P (As := [.int x1]) (m5_isLand zW_37) cW6_151 rfl zW_37.1 rfl (by decide) hl.1 rfl (Nat.le_of_ble_eq_true rfl) dX6_edge_5 ⟨Nat.zero_le _, Nat.zero_le _⟩ (fun H locs n5 P => ?_)
  refine z_if_eq (tgt := 22) hx hb dX6_edge_8 (by decide) h (fun h => ?_) (fun h => ?_)
  · refine lv_ldc2 (v := (-9000000000000000001)) hx hb C.2.2.2.1 (C.2.2.2.2.1 _ kK6_80) dX6_edge_22 ?_
    exact z_lret C P (Option.some.inj h) dX6_edge_25
  · refine lv_aload_n hx hb dX6_edge_11 rfl (lv_at hl 0 rfl) ?_
    refine gF6_47 C P zs0 rfl dX6_edge_12 ?_
    refine lv_iload_n hx hb dX6_edge_15 rfl (lv_at hl 2 rfl) ?_
    refine z_callVb C P (As := [.int x2]) (m5_isGood zW_37) cW6_154 rfl zW_37.1 rfl (by decide) hl.1 rfl (Nat.le_of_ble_eq_true rfl) dX6_edge_16 ⟨Nat.zero_le _, Nat.zero_le _⟩ (fun H locs n16 P => ?_)
    refine z_if_ne (tgt := 26) hx hb dX6_edge_19 (by decide) h (fun h => ?_) (fun h => ?_)
    · refine lv_iconst (v := 1) hx hb dX6_edge_26 (by decide) ?_
      refine lv_istore_n (lv' := [(3, .int (1 : Int32)), (0, .ref (ad 0)), (1, .int x1), (2, .int x2)]) hx hb dX6_edge_27 rfl hl (by decide) rfl (fun ls hl => ?_)
      exact w6_edge_28 C _ _ _ _ _ _ _ _ h P (lv_sub hl [1, 2, 3, 0] rfl)
    · refine lv_ldc2 (v := (-9000000000000000001)) hx hb C.2.2.2.1 (C.2.2.2.2.1 _ kK6_80) dX6_edge_22 ?_
      exact z_lret C P (Option.some.inj h) dX6_edge_25
theorem w6_oneGoes_65 (C : zCx p s m args meth c cX6_oneGoes 4 RX6 (some .boolean) D ad cA A) {z : Int32 × Zs} {k6 : Int32 → Int32 → Int32 → Zs → Option (Int32 × Zs)} (hk6 : ∀ (x1 : Int32) (x2 : Int32) (x3 : Int32) (S : Zs) (H : Heap) (locs : List Loc) (ls : Array Slot), k6 x1 x2 x3 S = some z → zP D zC ad cA A S s H locs → lv_has ls 4 [(0, .ref (ad 0)), (1, .int x1), (2, .int x2), (3, .int x3)] → W p l e (zrm 5 131) s m args below meth c H locs 0 0 (MQ below (zQb D zC ad cA A z) args s 0 0 A) (F0 m 6 ls [])) (x1 : Int32) (x2 : Int32) (x3 : Int32) (S : Zs) (H : Heap) (locs : List Loc) (ls : Array Slot) (h : f6_oneGoes_65 k6 x1 x2 x3 S = some z) (P : zP D zC ad cA A S s H locs) (hl : lv_has ls 4 [(0, .ref (ad 0)), (1, .int x1), (2, .int x2), (3, .int x3)]) :
    W p l e (zrm 5 131) s m args below meth c H locs 0 0 (MQ below (zQb D zC ad cA A z) args s 0 0 A) (F0 m 65 ls []) := by
  have hx := C.1
  have hb := C.2.1
  unfold f6_oneGoes_65 at h
  obtain ⟨v65, ev65, h⟩ := z_nm h
  refine lv_iinc (v := v65) (lv' := [(3, .int v65), (0, .ref (ad 0)), (1, .int x1), (2, .int x2)]) hx hb dX6_oneGoes_65 hl (k := 3) rfl (by rw [ev65]; rfl) (by decide) rfl (fun ls hl => ?_)
  refine lv_goto (tgt := 6) hx hb dX6_oneGoes_68 (by decide) ?_
  exact hk6 _ _ _ _ _ _ _ h P (lv_sub hl [1, 2, 3, 0] rfl)
theorem w6_oneGoes_41 (C : zCx p s m args meth c cX6_oneGoes 4 RX6 (some .boolean) D ad cA A) {z : Int32 × Zs} {k6 : Int32 → Int32 → Int32 → Zs → Option (Int32 × Zs)} (hk6 : ∀ (x1 : Int32) (x2 : Int32) (x3 : Int32) (S : Zs) (H : Heap) (locs : List Loc) (ls : Array Slot), k6 x1 x2 x3 S = some z → zP D zC ad cA A S s H locs → lv_has ls 4 [(0, .ref (ad 0)), (1, .int x1), (2, .int x2), (3, .int x3)] → W p l e (zrm 5 131) s m args below meth c H locs 0 0 (MQ below (zQb D zC ad cA A z) args s 0 0 A) (F0 m 6 ls [])) (x1 : Int32) (x2 : Int32) (x3 : Int32) (S : Zs) (H : Heap) (locs : List Loc) (ls : Array Slot) (h : f6_oneGoes_41 k6 x1 x2 x3 S = some z) (P : zP D zC ad cA A S s H locs) (hl : lv_has ls 4 [(0, .ref (ad 0)), (1, .int x1), (2, .int x2), (3, .int x3)]) :
    W p l e (zrm 5 131) s m args below meth c H locs 0 0 (MQ below (zQb D zC ad cA A z) args s 0 0 A) (F0 m 41 ls []) := by
  have hx := C.1
  have hb := C.2.1
  unfold f6_oneGoes_41 at h
  refine lv_aload_n hx hb dX6_oneGoes_41 rfl (lv_at hl 0 rfl) ?_
  refine gF6_47 C P zs0 rfl dX6_oneGoes_42 ?_
  refine gF6_167 C P zW_37.1 rfl dX6_oneGoes_45 ?_
  refine lv_iload_n hx hb dX6_oneGoes_48 rfl (lv_at hl 3 rfl) ?_
  refine z_lald C P zW_37.2.2.2.2.2.1 dX6_oneGoes_49 h (fun h hi => ?_)
  refine lv_aload_n hx hb dX6_oneGoes_50 rfl (lv_at hl 0 rfl) ?_
  refine gF6_47 C P zs0 rfl dX6_oneGoes_51 ?_
  refine gF6_167 C P zW_37.1 rfl dX6_oneGoes_54 ?_
  refine lv_iload_n hx hb dX6_oneGoes_57 rfl (lv_at hl 2 rfl) ?_
  refine z_lald C P zW_37.2.2.2.2.2.1 dX6_oneGoes_58 h (fun h hi => ?_)
  refine z_lcmp_le (tgt := 65) hx hb dX6_oneGoes_59 dX6_oneGoes_60 (by decide) h (fun h => ?_) (fun h => ?_)
  · exact w6_oneGoes_65 C hk6 _ _ _ _ _ _ _ h P (lv_sub hl [0, 1, 2, 3] rfl)
  · refine lv_iload_n hx hb dX6_oneGoes_63 rfl (lv_at hl 3 rfl) ?_
    refine lv_istore_n (lv' := [(2, .int x3), (0, .ref (ad 0)), (1, .int x1), (3, .int x3)]) hx hb dX6_oneGoes_64 rfl hl (by decide) rfl (fun ls hl => ?_)
    exact w6_oneGoes_65 C hk6 _ _ _ _ _ _ _ h P (lv_sub hl [1, 2, 0, 3] rfl)
theorem w6_oneGoes_6 (C : zCx p s m args meth c cX6_oneGoes 4 RX6 (some .boolean) D ad cA A) {z : Int32 × Zs} :
    ∀ (n : Nat) (x1 : Int32) (x2 : Int32) (x3 : Int32) (S : Zs) (H : Heap) (locs : List Loc) (ls : Array Slot), f6_oneGoes_6 n x1 x2 x3 S = some z → zP D zC ad cA A S s H locs → lv_has ls 4 [(0, .ref (ad 0)), (1, .int x1), (2, .int x2), (3, .int x3)] → W p l e (zrm 5 131) s m args below meth c H locs 0 0 (MQ below (zQb D zC ad cA A z) args s 0 0 A) (F0 m 6 ls []) := by
  have hx := C.1
  have hb := C.2.1
  intro n
  induction n with
  | zero =>
    intro x1 x2 x3 S H locs ls h
    cases h
  | succ n ih =>
    intro x1 x2 x3 S H locs ls h P hl
    unfold f6_oneGoes_6 at h
    refine lv_iload_n hx hb dX6_oneGoes_6 rfl (lv_at hl 3 rfl) ?_
    refine lv_aload_n hx hb dX6_oneGoes_7 rfl (lv_at hl 0 rfl) ?_
    refine gF6_47 C P zs0 rfl dX6_oneGoes_8 ?_
    refine gF6_145 C P zW_37.1 rfl dX6_oneGoes_11 ?_
    refine z_icmp_ge (tgt := 71) hx hb dX6_oneGoes_14 (by decide) h (fun h => ?_) (fun h => ?_)
    · refine lv_iload_n hx hb dX6_oneGoes_71 rfl (lv_at hl 1 rfl) ?_
      refine lv_iload_n hx hb dX6_oneGoes_72 rfl (lv_at hl 2 rfl) ?_
      refine z_icmp_eq (tgt := 103) hx hb dX6_oneGoes_73 (by decide) h (fun h => ?_) (fun h => ?_)
      · refine lv_iconst (v := 0) hx hb dX6_oneGoes_103 (by decide) ?_
        exact z_zret C P (Option.some.inj h) (by decide) dX6_oneGoes_104
      · refine lv_aload_n hx hb dX6_oneGoes_76 rfl (lv_at hl 0 rfl) ?_
        refine gF6_47 C P zs0 rfl dX6_oneGoes_77 ?_
        refine gF6_161 C P zW_37.1 rfl dX6_oneGoes_80 ?_
        refine lv_iload_n hx hb dX6_oneGoes_83 rfl (lv_at hl 1 rfl) ?_
        refine z_iald C P zW_37.2.2.1 dX6_oneGoes_84 h (fun h hi => ?_)
        refine lv_iconst (v := 2) hx hb dX6_oneGoes_85 (by decide) ?_
        refine z_icmp_lt (tgt := 103) hx hb dX6_oneGoes_86 (by decide) h (fun h => ?_) (fun h => ?_)
        · refine lv_iconst (v := 0) hx hb dX6_oneGoes_103 (by decide) ?_
          exact z_zret C P (Option.some.inj h) (by decide) dX6_oneGoes_104
        · refine lv_aload_n hx hb dX6_oneGoes_89 rfl (lv_at hl 0 rfl) ?_
          refine gF6_47 C P zs0 rfl dX6_oneGoes_90 ?_
          refine gF6_161 C P zW_37.1 rfl dX6_oneGoes_93 ?_
          refine lv_iload_n hx hb dX6_oneGoes_96 rfl (lv_at hl 2 rfl) ?_
          refine z_iald C P zW_37.2.2.1 dX6_oneGoes_97 h (fun h hi => ?_)
          refine lv_bipush (v := 99) hx hb dX6_oneGoes_98 (by decide) ?_
          refine z_icmp_lt (tgt := 105) hx hb dX6_oneGoes_100 (by decide) h (fun h => ?_) (fun h => ?_)
          · refine lv_aload_n hx hb dX6_oneGoes_105 rfl (lv_at hl 0 rfl) ?_
            refine gF6_54 C P zs0 rfl dX6_oneGoes_106 ?_
            refine lv_aload_n hx hb dX6_oneGoes_109 rfl (lv_at hl 0 rfl) ?_
            refine gF6_47 C P zs0 rfl dX6_oneGoes_110 ?_
            obtain ⟨S113, g113, h⟩ := bd1_some h
            refine z_callVv C P (As := [.ref (ad 37)]) (m5_take zW_55 zW_37 g113) cW6_142 rfl zW_55.1 rfl (by decide) hl.1 rfl (Nat.le_of_ble_eq_true rfl) dX6_oneGoes_113 ⟨Nat.zero_le _, Nat.zero_le _⟩ (fun H locs P => ?_)
            refine lv_aload_n hx hb dX6_oneGoes_116 rfl (lv_at hl 0 rfl) ?_
            refine gF6_54 C P zs0 rfl dX6_oneGoes_117 ?_
            refine gF6_161 C P zW_55.1 rfl dX6_oneGoes_120 ?_
            refine lv_iload_n hx hb dX6_oneGoes_123 rfl (lv_at hl 1 rfl) ?_
            refine lv_dup2_11 hx hb dX6_oneGoes_124 rfl rfl ?_
            refine z_iald C P zW_55.2.2.1 dX6_oneGoes_125 h (fun h hi => ?_)
            refine lv_iconst (v := 1) hx hb dX6_oneGoes_126 (by decide) ?_
            refine lv_isub hx hb dX6_oneGoes_127 ?_
            refine z_iast C P zW_55.2.2.1 dX6_oneGoes_128 h (fun S128 H locs h P => ?_)
            refine lv_aload_n hx hb dX6_oneGoes_129 rfl (lv_at hl 0 rfl) ?_
            refine gF6_54 C P zs0 rfl dX6_oneGoes_130 ?_
            refine gF6_161 C P zW_55.1 rfl dX6_oneGoes_133 ?_
            refine lv_iload_n hx hb dX6_oneGoes_136 rfl (lv_at hl 2 rfl) ?_
            refine lv_dup2_11 hx hb dX6_oneGoes_137 rfl rfl ?_
            refine z_iald C P zW_55.2.2.1 dX6_oneGoes_138 h (fun h hi => ?_)
            refine lv_iconst (v := 1) hx hb dX6_oneGoes_139 (by decide) ?_
            refine lv_iadd hx hb dX6_oneGoes_140 ?_
            refine z_iast C P zW_55.2.2.1 dX6_oneGoes_141 h (fun S141 H locs h P => ?_)
            refine lv_aload_n hx hb dX6_oneGoes_142 rfl (lv_at hl 0 rfl) ?_
            refine gF6_33 C P zs0 rfl dX6_oneGoes_143 ?_
            refine lv_aload_n hx hb dX6_oneGoes_146 rfl (lv_at hl 0 rfl) ?_
            refine gF6_54 C P zs0 rfl dX6_oneGoes_147 ?_
            obtain ⟨S150, g150, h⟩ := bd1_some h
            refine z_callVv C P (As := [.ref (ad 55)]) (m1_settle zW_55 g150) cW6_138 rfl zs17 rfl (by decide) hl.1 rfl (Nat.le_of_ble_eq_true rfl) dX6_oneGoes_150 ⟨Nat.zero_le _, Nat.zero_le _⟩ (fun H locs P => ?_)
            refine lv_aload_n hx hb dX6_oneGoes_153 rfl (lv_at hl 0 rfl) ?_
            refine gF6_54 C P zs0 rfl dX6_oneGoes_154 ?_
            refine gF6_167 C P zW_55.1 rfl dX6_oneGoes_157 ?_
            refine lv_iload_n hx hb dX6_oneGoes_160 rfl (lv_at hl 2 rfl) ?_
            refine z_lald C P zW_55.2.2.2.2.2.1 dX6_oneGoes_161 h (fun h hi => ?_)
            refine lv_aload_n hx hb dX6_oneGoes_162 rfl (lv_at hl 0 rfl) ?_
            refine gF6_54 C P zs0 rfl dX6_oneGoes_163 ?_
            refine gF6_167 C P zW_55.1 rfl dX6_oneGoes_166 ?_
            refine lv_iload_n hx hb dX6_oneGoes_169 rfl (lv_at hl 1 rfl) ?_
            refine z_lald C P zW_55.2.2.2.2.2.1 dX6_oneGoes_170 h (fun h hi => ?_)
            refine z_lcmp_ge (tgt := 177) hx hb dX6_oneGoes_171 dX6_oneGoes_172 (by decide) h (fun h => ?_) (fun h => ?_)
            · refine lv_aload_n hx hb dX6_oneGoes_177 rfl (lv_at hl 0 rfl) ?_
              refine gF6_47 C P zs0 rfl dX6_oneGoes_178 ?_
              refine lv_aload_n hx hb dX6_oneGoes_181 rfl (lv_at hl 0 rfl) ?_
              refine gF6_54 C P zs0 rfl dX6_oneGoes_182 ?_
              obtain ⟨S185, g185, h⟩ := bd1_some h
              refine z_callVv C P (As := [.ref (ad 55)]) (m5_take zW_37 zW_55 g185) cW6_142 rfl zW_37.1 rfl (by decide) hl.1 rfl (Nat.le_of_ble_eq_true rfl) dX6_oneGoes_185 ⟨Nat.zero_le _, Nat.zero_le _⟩ (fun H locs P => ?_)
              refine lv_iconst (v := 1) hx hb dX6_oneGoes_188 (by decide) ?_
              exact z_zret C P (Option.some.inj h) (by decide) dX6_oneGoes_189
            · refine lv_iconst (v := 0) hx hb dX6_oneGoes_175 (by decide) ?_
              exact z_zret C P (Option.some.inj h) (by decide) dX6_oneGoes_176
          · refine lv_iconst (v := 0) hx hb dX6_oneGoes_103 (by decide) ?_
            exact z_zret C P (Option.some.inj h) (by decide) dX6_oneGoes_104
    · refine lv_aload_n hx hb dX6_oneGoes_17 rfl (lv_at hl 0 rfl) ?_
      refine gF6_47 C P zs0 rfl dX6_oneGoes_18 ?_
      refine gF6_167 C P zW_37.1 rfl dX6_oneGoes_21 ?_
      refine lv_iload_n hx hb dX6_oneGoes_24 rfl (lv_at hl 3 rfl) ?_
      refine z_lald C P zW_37.2.2.2.2.2.1 dX6_oneGoes_25 h (fun h hi => ?_)
      refine lv_aload_n hx hb dX6_oneGoes_26 rfl (lv_at hl 0 rfl) ?_
      refine gF6_47 C P zs0 rfl dX6_oneGoes_27 ?_
      refine gF6_167 C P zW_37.1 rfl dX6_oneGoes_30 ?_
      refine lv_iload_n hx hb dX6_oneGoes_33 rfl (lv_at hl 1 rfl) ?_
      refine z_lald C P zW_37.2.2.2.2.2.1 dX6_oneGoes_34 h (fun h hi => ?_)
      refine z_lcmp_ge (tgt := 41) hx hb dX6_oneGoes_35 dX6_oneGoes_36 (by decide) h (fun h => ?_) (fun h => ?_)
      · exact w6_oneGoes_41 C ih _ _ _ _ _ _ _ h P (lv_sub hl [0, 1, 2, 3] rfl)
      · refine lv_iload_n hx hb dX6_oneGoes_39 rfl (lv_at hl 3 rfl) ?_
        refine lv_istore_n (lv' := [(1, .int x3), (0, .ref (ad 0)), (2, .int x2), (3, .int x3)]) hx hb dX6_oneGoes_40 rfl hl (by decide) rfl (fun ls hl => ?_)
        exact w6_oneGoes_41 C ih _ _ _ _ _ _ _ h P (lv_sub hl [1, 0, 2, 3] rfl)
theorem m6_oneGoes {l : Launch} {D : va_G} {cA : Nat → ClassId} {ad : Nat → Nat} {S : Zs} {z : Int32 × Zs} (h : f6_oneGoes S = some z) :
    zMb l yX6_oneGoes cX6_oneGoes 4 5 131 D zC ad cA S [.ref (ad 0)] z := by
  refine z_enter (Qc := fun A => zQb D zC ad cA A z) (by decide +kernel) (Nat.le_of_ble_eq_true rfl) (fun p e s m below meth c A C P ls hl => ?_)
  have hx := C.1
  have hb := C.2.1
  have hl : lv_has ls 4 [(0, .ref (ad 0))] := hl
  unfold f6_oneGoes at h
  refine lv_iconst (v := 0) hx hb dX6_oneGoes_0 (by decide) ?_
  refine lv_istore_n (lv' := [(1, .int (0 : Int32)), (0, .ref (ad 0))]) hx hb dX6_oneGoes_1 rfl hl (by decide) rfl (fun ls hl => ?_)
  refine lv_iconst (v := 0) hx hb dX6_oneGoes_2 (by decide) ?_
  refine lv_istore_n (lv' := [(2, .int (0 : Int32)), (1, .int (0 : Int32)), (0, .ref (ad 0))]) hx hb dX6_oneGoes_3 rfl hl (by decide) rfl (fun ls hl => ?_)
  refine lv_iconst (v := 1) hx hb dX6_oneGoes_4 (by decide) ?_
  refine lv_istore_n (lv' := [(3, .int (1 : Int32)), (2, .int (0 : Int32)), (1, .int (0 : Int32)), (0, .ref (ad 0))]) hx hb dX6_oneGoes_5 rfl hl (by decide) rfl (fun ls hl => ?_)
  exact w6_oneGoes_6 C _ _ _ _ _ _ _ _ h P (lv_sub hl [3, 2, 1, 0] rfl)
theorem w6_move_34 (C : zCx p s m args meth c cX6_move 3 RX6 (some .long) D ad cA A) {z : Int64 × Zs} :
    ∀ (n : Nat) (x1 : Int32) (x2 : Int32) (S : Zs) (H : Heap) (locs : List Loc) (ls : Array Slot), f6_move_34 n x1 x2 S = some z → zP D zC ad cA A S s H locs → lv_has ls 3 [(0, .ref (ad 0)), (1, .int x1), (2, .int x2)] → W p l e (zrm 6 154) s m args below meth c H locs 0 0 (MQ below (zQl D zC ad cA A z) args s 0 0 A) (F0 m 34 ls []) := by
  have hx := C.1
  have hb := C.2.1
  intro n
  induction n with
  | zero =>
    intro x1 x2 S H locs ls h
    cases h
  | succ n ih =>
    intro x1 x2 S H locs ls h P hl
    unfold f6_move_34 at h
    refine lv_iload_n hx hb dX6_move_34 rfl (lv_at hl 2 rfl) ?_
    refine lv_iload_n hx hb dX6_move_35 rfl (lv_at hl 1 rfl) ?_
    refine z_icmp_ge (tgt := 52) hx hb dX6_move_36 (by decide) h (fun h => ?_) (fun h => ?_)
    · refine lv_iload_n hx hb dX6_move_52 rfl (lv_at hl 2 rfl) ?_
      refine lv_i2l hx hb dX6_move_53 rfl ?_
      exact z_lret C P (Option.some.inj h) dX6_move_54
    · refine lv_aload_n hx hb dX6_move_39 rfl (lv_at hl 0 rfl) ?_
      obtain ⟨r40, S40, g40, h⟩ := bd2_some h
      refine z_callVb C P (As := []) (m6_oneGoes g40) cW6_244 rfl zs0 rfl (by decide) hl.1 rfl (Nat.le_of_ble_eq_true rfl) dX6_move_40 ⟨Nat.zero_le _, Nat.zero_le _⟩ (fun H locs n40 P => ?_)
      refine z_if_eq (tgt := 52) hx hb dX6_move_43 (by decide) h (fun h => ?_) (fun h => ?_)
      · refine lv_iload_n hx hb dX6_move_52 rfl (lv_at hl 2 rfl) ?_
        refine lv_i2l hx hb dX6_move_53 rfl ?_
        exact z_lret C P (Option.some.inj h) dX6_move_54
      · obtain ⟨v46, ev46, h⟩ := z_nm h
        refine lv_iinc (v := v46) (lv' := [(2, .int v46), (0, .ref (ad 0)), (1, .int x1)]) hx hb dX6_move_46 hl (k := 2) rfl (by rw [ev46]; rfl) (by decide) rfl (fun ls hl => ?_)
        refine lv_goto (tgt := 34) hx hb dX6_move_49 (by decide) ?_
        exact ih _ _ _ _ _ _ h P (lv_sub hl [1, 2, 0] rfl)
theorem m6_move {l : Launch} {D : va_G} {cA : Nat → ClassId} {ad : Nat → Nat} {x1 : Int32} {S : Zs} {z : Int64 × Zs} (h : f6_move x1 S = some z) :
    zMl l yX6_move cX6_move 3 6 154 D zC ad cA S [.ref (ad 0), .int x1] z := by
  refine z_enter (Qc := fun A => zQl D zC ad cA A z) (by decide +kernel) (Nat.le_of_ble_eq_true rfl) (fun p e s m below meth c A C P ls hl => ?_)
  have hx := C.1
  have hb := C.2.1
  have hl : lv_has ls 3 [(0, .ref (ad 0)), (1, .int x1)] := hl
  unfold f6_move at h
  refine lv_iload_n hx hb dX6_move_0 rfl (lv_at hl 1 rfl) ?_
  refine lv_iconst (v := 1) hx hb dX6_move_1 (by decide) ?_
  refine z_icmp_lt (tgt := 10) hx hb dX6_move_2 (by decide) h (fun h => ?_) (fun h => ?_)
  · refine lv_ldc2 (v := (-9000000000000000001)) hx hb C.2.2.2.1 (C.2.2.2.2.1 _ kK6_80) dX6_move_10 ?_
    exact z_lret C P (Option.some.inj h) dX6_move_13
  · refine lv_iload_n hx hb dX6_move_5 rfl (lv_at hl 1 rfl) ?_
    refine lv_iconst (v := 5) hx hb dX6_move_6 (by decide) ?_
    refine z_icmp_le (tgt := 14) hx hb dX6_move_7 (by decide) h (fun h => ?_) (fun h => ?_)
    · refine lv_aload_n hx hb dX6_move_14 rfl (lv_at hl 0 rfl) ?_
      refine gF6_47 C P zs0 rfl dX6_move_15 ?_
      refine z_callVb C P (As := []) (m5_isThere zW_37) cW6_186 rfl zW_37.1 rfl (by decide) hl.1 rfl (Nat.le_of_ble_eq_true rfl) dX6_move_18 ⟨Nat.zero_le _, Nat.zero_le _⟩ (fun H locs n18 P => ?_)
      refine z_if_ne (tgt := 28) hx hb dX6_move_21 (by decide) h (fun h => ?_) (fun h => ?_)
      · refine lv_aload_n hx hb dX6_move_28 rfl (lv_at hl 0 rfl) ?_
        obtain ⟨S29, g29, h⟩ := bd1_some h
        refine z_callVv C P (As := []) (m6_keepAhead g29) cW6_234 rfl zs0 rfl (by decide) hl.1 rfl (Nat.le_of_ble_eq_true rfl) dX6_move_29 ⟨Nat.zero_le _, Nat.zero_le _⟩ (fun H locs P => ?_)
        refine lv_iconst (v := 0) hx hb dX6_move_32 (by decide) ?_
        refine lv_istore_n (lv' := [(2, .int (0 : Int32)), (0, .ref (ad 0)), (1, .int x1)]) hx hb dX6_move_33 rfl hl (by decide) rfl (fun ls hl => ?_)
        exact w6_move_34 C _ _ _ _ _ _ _ h P (lv_sub hl [1, 2, 0] rfl)
      · refine lv_ldc2 (v := (-9000000000000000002)) hx hb C.2.2.2.1 (C.2.2.2.2.1 _ kK6_190) dX6_move_24 ?_
        exact z_lret C P (Option.some.inj h) dX6_move_27
    · refine lv_ldc2 (v := (-9000000000000000001)) hx hb C.2.2.2.1 (C.2.2.2.2.1 _ kK6_80) dX6_move_10 ?_
      exact z_lret C P (Option.some.inj h) dX6_move_13
theorem m6_isOfKind {l : Launch} {D : va_G} {cA : Nat → ClassId} {ad : Nat → Nat} {x1 : Int32} {x2 : Int32} {S : Zs} {z : Int32} (h : f6_isOfKind S x1 x2 = some z) :
    zMb l yX6_isOfKind cX6_isOfKind 4 2 51 D zC ad cA S [.ref (ad 0), .int x1, .int x2] (z, S) := by
  refine z_enter (Qc := fun A => zQb D zC ad cA A (z, S)) (by decide +kernel) (Nat.le_of_ble_eq_true rfl) (fun p e s m below meth c A C P ls hl => ?_)
  have hx := C.1
  have hb := C.2.1
  have hl : lv_has ls 4 [(0, .ref (ad 0)), (1, .int x1), (2, .int x2)] := hl
  unfold f6_isOfKind at h
  refine lv_aload_n hx hb dX6_isOfKind_0 rfl (lv_at hl 0 rfl) ?_
  refine gF6_47 C P zs0 rfl dX6_isOfKind_1 ?_
  refine lv_aload_n hx hb dX6_isOfKind_4 rfl (lv_at hl 0 rfl) ?_
  refine gF6_47 C P zs0 rfl dX6_isOfKind_5 ?_
  refine gF6_167 C P zW_37.1 rfl dX6_isOfKind_8 ?_
  refine lv_iload_n hx hb dX6_isOfKind_11 rfl (lv_at hl 1 rfl) ?_
  obtain ⟨r12, g12, h⟩ := bd1_some h
  refine z_callVi C P (As := [.ref (ad (37 + 7)), .int x1]) (m5_makersBy zW_37 zW_37.2.2.2.2.2.1 g12) cW6_174 rfl zW_37.1 rfl (by decide) hl.1 rfl (Nat.le_of_ble_eq_true rfl) dX6_isOfKind_12 ⟨Nat.zero_le _, Nat.zero_le _⟩ (fun H locs P => ?_)
  refine lv_istore_n (lv' := [(3, .int r12), (0, .ref (ad 0)), (1, .int x1), (2, .int x2)]) hx hb dX6_isOfKind_15 rfl hl (by decide) rfl (fun ls hl => ?_)
  refine lv_iload_n hx hb dX6_isOfKind_16 rfl (lv_at hl 3 rfl) ?_
  by_cases c1 : x2 = 1
  · rw [if_pos c1] at h
    refine lv_tableIn (off := 35) (tgt := 52) hx hb dX6_isOfKind_17 (by rw [c1]; decide) (by rw [c1]; decide) (by rw [c1]; decide) (by decide) ?_
    refine lv_iload_n hx hb dX6_isOfKind_52 rfl (lv_at hl 0 rfl) ?_
    refine z_callSi C P (As := [.int r12]) mJ_bitCount zbit6_294 rfl (by decide) hl.1 rfl (Nat.le_of_ble_eq_true rfl) dX6_isOfKind_53 ⟨Nat.zero_le _, Nat.zero_le _⟩ (fun H locs P => ?_)
    refine lv_iconst (v := 1) hx hb dX6_isOfKind_56 (by decide) ?_
    refine z_icmp_ne (tgt := 64) hx hb dX6_isOfKind_57 (by decide) h (fun h => ?_) (fun h => ?_)
    · refine lv_iconst (v := 0) hx hb dX6_isOfKind_64 (by decide) ?_
      exact z_zret C P (by rw [Option.some.inj h]) (by decide) dX6_isOfKind_65
    · refine lv_iconst (v := 1) hx hb dX6_isOfKind_60 (by decide) ?_
      refine lv_goto (tgt := 65) hx hb dX6_isOfKind_61 (by decide) ?_
      exact z_zret C P (by rw [Option.some.inj h]) (by decide) dX6_isOfKind_65
  rw [if_neg c1] at h
  by_cases c2 : x2 = 2
  · rw [if_pos c2] at h
    refine lv_tableIn (off := 49) (tgt := 66) hx hb dX6_isOfKind_17 (by rw [c2]; decide) (by rw [c2]; decide) (by rw [c2]; decide) (by decide) ?_
    refine lv_iload_n hx hb dX6_isOfKind_66 rfl (lv_at hl 0 rfl) ?_
    refine z_callSi C P (As := [.int r12]) mJ_bitCount zbit6_294 rfl (by decide) hl.1 rfl (Nat.le_of_ble_eq_true rfl) dX6_isOfKind_67 ⟨Nat.zero_le _, Nat.zero_le _⟩ (fun H locs P => ?_)
    refine lv_iconst (v := 1) hx hb dX6_isOfKind_70 (by decide) ?_
    refine z_icmp_le (tgt := 78) hx hb dX6_isOfKind_71 (by decide) h (fun h => ?_) (fun h => ?_)
    · refine lv_iconst (v := 0) hx hb dX6_isOfKind_78 (by decide) ?_
      exact z_zret C P (by rw [Option.some.inj h]) (by decide) dX6_isOfKind_79
    · refine lv_iconst (v := 1) hx hb dX6_isOfKind_74 (by decide) ?_
      refine lv_goto (tgt := 79) hx hb dX6_isOfKind_75 (by decide) ?_
      exact z_zret C P (by rw [Option.some.inj h]) (by decide) dX6_isOfKind_79
  rw [if_neg c2] at h
  by_cases c3 : x2 = 3
  · rw [if_pos c3] at h
    refine lv_tableIn (off := 63) (tgt := 80) hx hb dX6_isOfKind_17 (by rw [c3]; decide) (by rw [c3]; decide) (by rw [c3]; decide) (by decide) ?_
    refine lv_iload_n hx hb dX6_isOfKind_80 rfl (lv_at hl 0 rfl) ?_
    refine z_callSi C P (As := [.int r12]) mJ_bitCount zbit6_294 rfl (by decide) hl.1 rfl (Nat.le_of_ble_eq_true rfl) dX6_isOfKind_81 ⟨Nat.zero_le _, Nat.zero_le _⟩ (fun H locs P => ?_)
    refine lv_iconst (v := 1) hx hb dX6_isOfKind_84 (by decide) ?_
    refine z_icmp_le (tgt := 103) hx hb dX6_isOfKind_85 (by decide) h (fun h => ?_) (fun h => ?_)
    · refine lv_iconst (v := 0) hx hb dX6_isOfKind_103 (by decide) ?_
      exact z_zret C P (by rw [Option.some.inj h]) (by decide) dX6_isOfKind_104
    · refine lv_iload_n hx hb dX6_isOfKind_88 rfl (lv_at hl 0 rfl) ?_
      refine lv_aload_n hx hb dX6_isOfKind_89 rfl (lv_at hl 1 rfl) ?_
      refine gF6_47 C P zs0 rfl dX6_isOfKind_90 ?_
      refine z_callVi C P (As := []) (m5_allLands zW_37) cW6_225 rfl zW_37.1 rfl (by decide) hl.1 rfl (Nat.le_of_ble_eq_true rfl) dX6_isOfKind_93 ⟨Nat.zero_le _, Nat.zero_le _⟩ (fun H locs P => ?_)
      refine z_icmp_ne (tgt := 103) hx hb dX6_isOfKind_96 (by decide) h (fun h => ?_) (fun h => ?_)
      · refine lv_iconst (v := 0) hx hb dX6_isOfKind_103 (by decide) ?_
        exact z_zret C P (by rw [Option.some.inj h]) (by decide) dX6_isOfKind_104
      · refine lv_iconst (v := 1) hx hb dX6_isOfKind_99 (by decide) ?_
        refine lv_goto (tgt := 104) hx hb dX6_isOfKind_100 (by decide) ?_
        exact z_zret C P (by rw [Option.some.inj h]) (by decide) dX6_isOfKind_104
  rw [if_neg c3] at h
  by_cases c4 : x2 = 4
  · rw [if_pos c4] at h
    refine lv_tableIn (off := 88) (tgt := 105) hx hb dX6_isOfKind_17 (by rw [c4]; decide) (by rw [c4]; decide) (by rw [c4]; decide) (by decide) ?_
    refine lv_iload_n hx hb dX6_isOfKind_105 rfl (lv_at hl 0 rfl) ?_
    refine lv_iconst (v := 1) hx hb dX6_isOfKind_106 (by decide) ?_
    refine z_icmp_ne (tgt := 114) hx hb dX6_isOfKind_107 (by decide) h (fun h => ?_) (fun h => ?_)
    · refine lv_iconst (v := 0) hx hb dX6_isOfKind_114 (by decide) ?_
      exact z_zret C P (by rw [Option.some.inj h]) (by decide) dX6_isOfKind_115
    · refine lv_iconst (v := 1) hx hb dX6_isOfKind_110 (by decide) ?_
      refine lv_goto (tgt := 115) hx hb dX6_isOfKind_111 (by decide) ?_
      exact z_zret C P (by rw [Option.some.inj h]) (by decide) dX6_isOfKind_115
  rw [if_neg c4] at h
  by_cases c5 : x2 = 5
  · rw [if_pos c5] at h
    refine lv_tableIn (off := 99) (tgt := 116) hx hb dX6_isOfKind_17 (by rw [c5]; decide) (by rw [c5]; decide) (by rw [c5]; decide) (by decide) ?_
    refine lv_iload_n hx hb dX6_isOfKind_116 rfl (lv_at hl 0 rfl) ?_
    refine lv_iconst (v := 1) hx hb dX6_isOfKind_117 (by decide) ?_
    refine z_icmp_ne (tgt := 157) hx hb dX6_isOfKind_118 (by decide) h (fun h => ?_) (fun h => ?_)
    · refine lv_iconst (v := 0) hx hb dX6_isOfKind_157 (by decide) ?_
      exact z_zret C P (by rw [Option.some.inj h]) (by decide) dX6_isOfKind_158
    · refine lv_aload_n hx hb dX6_isOfKind_121 rfl (lv_at hl 1 rfl) ?_
      refine gF6_47 C P zs0 rfl dX6_isOfKind_122 ?_
      refine lv_aload_n hx hb dX6_isOfKind_125 rfl (lv_at hl 1 rfl) ?_
      refine gF6_47 C P zs0 rfl dX6_isOfKind_126 ?_
      refine gF6_167 C P zW_37.1 rfl dX6_isOfKind_129 ?_
      refine lv_iload_n hx hb dX6_isOfKind_132 rfl (lv_at hl 2 rfl) ?_
      obtain ⟨r133, g133, h⟩ := bd1_some h
      refine z_callVl C P (As := [.ref (ad (37 + 7)), .int x1]) (m5_leastCost zW_37 zW_37.2.2.2.2.2.1 g133) cW6_178 rfl zW_37.1 rfl (by decide) hl.1 rfl (Nat.le_of_ble_eq_true rfl) dX6_isOfKind_133 ⟨Nat.zero_le _, Nat.zero_le _⟩ (fun H locs P => ?_)
      refine lv_ldc2 (v := 10) hx hb C.2.2.2.1 (C.2.2.2.2.1 _ kK6_299) dX6_isOfKind_136 ?_
      refine lv_aload_n hx hb dX6_isOfKind_139 rfl (lv_at hl 1 rfl) ?_
      refine gF6_47 C P zs0 rfl dX6_isOfKind_140 ?_
      refine gF6_167 C P zW_37.1 rfl dX6_isOfKind_143 ?_
      refine lv_iconst (v := 0) hx hb dX6_isOfKind_146 (by decide) ?_
      refine z_lald C P zW_37.2.2.2.2.2.1 dX6_isOfKind_147 h (fun h hi => ?_)
      refine lv_lmul hx hb dX6_isOfKind_148 ?_
      refine z_lcmp_lt (tgt := 157) hx hb dX6_isOfKind_149 dX6_isOfKind_150 (by decide) h (fun h => ?_) (fun h => ?_)
      · refine lv_iconst (v := 0) hx hb dX6_isOfKind_157 (by decide) ?_
        exact z_zret C P (by rw [Option.some.inj h]) (by decide) dX6_isOfKind_158
      · refine lv_iconst (v := 1) hx hb dX6_isOfKind_153 (by decide) ?_
        refine lv_goto (tgt := 158) hx hb dX6_isOfKind_154 (by decide) ?_
        exact z_zret C P (by rw [Option.some.inj h]) (by decide) dX6_isOfKind_158
  rw [if_neg c5] at h
  have q1 : ¬ x2.toInt = 1 := zne c1 (by decide)
  have q2 : ¬ x2.toInt = 2 := zne c2 (by decide)
  have q3 : ¬ x2.toInt = 3 := zne c3 (by decide)
  have q4 : ¬ x2.toInt = 4 := zne c4 (by decide)
  have q5 : ¬ x2.toInt = 5 := zne c5 (by decide)
  refine lv_tableOut (tgt := 159) hx hb dX6_isOfKind_17 (show x2.toInt < 1 ∨ 5 < x2.toInt by omega) (by decide) ?_
  refine lv_iconst (v := 1) hx hb dX6_isOfKind_159 (by decide) ?_
  exact z_zret C P (by rw [Option.some.inj h]) (by decide) dX6_isOfKind_160
theorem w6_kindOf_2 (C : zCx p s m args meth c cX6_kindOf 3 RX6 (some .int) D ad cA A) {z : Int32} {S : Zs} :
    ∀ (n : Nat) (x1 : Int32) (x2 : Int32) (H : Heap) (locs : List Loc) (ls : Array Slot), f6_kindOf_2 S n x1 x2 = some z → zP D zC ad cA A S s H locs → lv_has ls 3 [(0, .ref (ad 0)), (1, .int x1), (2, .int x2)] → W p l e (zrm 3 74) s m args below meth c H locs 0 0 (MQ below (zQi D zC ad cA A (z, S)) args s 0 0 A) (F0 m 2 ls []) := by
  have hx := C.1
  have hb := C.2.1
  intro n
  induction n with
  | zero =>
    intro x1 x2 H locs ls h
    cases h
  | succ n ih =>
    intro x1 x2 H locs ls h P hl
    unfold f6_kindOf_2 at h
    refine lv_iload_n hx hb dX6_kindOf_2 rfl (lv_at hl 2 rfl) ?_
    refine z_if_le (tgt := 23) hx hb dX6_kindOf_3 (by decide) h (fun h => ?_) (fun h => ?_)
    · refine lv_iconst (v := 0) hx hb dX6_kindOf_23 (by decide) ?_
      exact z_iret C P (by rw [Option.some.inj h]) dX6_kindOf_24
    · refine lv_aload_n hx hb dX6_kindOf_6 rfl (lv_at hl 0 rfl) ?_
      refine lv_iload_n hx hb dX6_kindOf_7 rfl (lv_at hl 1 rfl) ?_
      refine lv_iload_n hx hb dX6_kindOf_8 rfl (lv_at hl 2 rfl) ?_
      obtain ⟨r9, g9, h⟩ := bd1_some h
      refine z_callVb C P (As := [.int x1, .int x2]) (m6_isOfKind g9) cW6_250 rfl zs0 rfl (by decide) hl.1 rfl (Nat.le_of_ble_eq_true rfl) dX6_kindOf_9 ⟨Nat.zero_le _, Nat.zero_le _⟩ (fun H locs n9 P => ?_)
      refine z_if_eq (tgt := 17) hx hb dX6_kindOf_12 (by decide) h (fun h => ?_) (fun h => ?_)
      · obtain ⟨v17, ev17, h⟩ := z_nm h
        refine lv_iinc (v := v17) (lv' := [(2, .int v17), (0, .ref (ad 0)), (1, .int x1)]) hx hb dX6_kindOf_17 hl (k := 2) rfl (by rw [ev17]; rfl) (by decide) rfl (fun ls hl => ?_)
        refine lv_goto (tgt := 2) hx hb dX6_kindOf_20 (by decide) ?_
        exact ih _ _ _ _ _ h P (lv_sub hl [1, 2, 0] rfl)
      · refine lv_iload_n hx hb dX6_kindOf_15 rfl (lv_at hl 2 rfl) ?_
        exact z_iret C P (by rw [Option.some.inj h]) dX6_kindOf_16
theorem m6_kindOf {l : Launch} {D : va_G} {cA : Nat → ClassId} {ad : Nat → Nat} {x1 : Int32} {S : Zs} {z : Int32} (h : f6_kindOf S x1 = some z) :
    zMi l yX6_kindOf cX6_kindOf 3 3 74 D zC ad cA S [.ref (ad 0), .int x1] (z, S) := by
  refine z_enter (Qc := fun A => zQi D zC ad cA A (z, S)) (by decide +kernel) (Nat.le_of_ble_eq_true rfl) (fun p e s m below meth c A C P ls hl => ?_)
  have hx := C.1
  have hb := C.2.1
  have hl : lv_has ls 3 [(0, .ref (ad 0)), (1, .int x1)] := hl
  unfold f6_kindOf at h
  refine lv_iconst (v := 5) hx hb dX6_kindOf_0 (by decide) ?_
  refine lv_istore_n (lv' := [(2, .int (5 : Int32)), (0, .ref (ad 0)), (1, .int x1)]) hx hb dX6_kindOf_1 rfl hl (by decide) rfl (fun ls hl => ?_)
  exact w6_kindOf_2 C _ _ _ _ _ _ h P (lv_sub hl [1, 2, 0] rfl)
theorem m6_kind {l : Launch} {D : va_G} {cA : Nat → ClassId} {ad : Nat → Nat} {x1 : Int32} {S : Zs} {z : Int64} (h : f6_kind S x1 = some z) :
    zMl l yX6_kind cX6_kind 2 4 96 D zC ad cA S [.ref (ad 0), .int x1] (z, S) := by
  refine z_enter (Qc := fun A => zQl D zC ad cA A (z, S)) (by decide +kernel) (Nat.le_of_ble_eq_true rfl) (fun p e s m below meth c A C P ls hl => ?_)
  have hx := C.1
  have hb := C.2.1
  have hl : lv_has ls 2 [(0, .ref (ad 0)), (1, .int x1)] := hl
  unfold f6_kind at h
  refine lv_aload_n hx hb dX6_kind_0 rfl (lv_at hl 0 rfl) ?_
  refine gF6_47 C P zs0 rfl dX6_kind_1 ?_
  refine lv_iload_n hx hb dX6_kind_4 rfl (lv_at hl 1 rfl) ?_
  refine z_callVb C P (As := [.int x1]) (m5_isGood zW_37) cW6_154 rfl zW_37.1 rfl (by decide) hl.1 rfl (Nat.le_of_ble_eq_true rfl) dX6_kind_5 ⟨Nat.zero_le _, Nat.zero_le _⟩ (fun H locs n5 P => ?_)
  refine z_if_eq (tgt := 20) hx hb dX6_kind_8 (by decide) h (fun h => ?_) (fun h => ?_)
  · refine lv_ldc2 (v := (-9000000000000000001)) hx hb C.2.2.2.1 (C.2.2.2.2.1 _ kK6_80) dX6_kind_20 ?_
    exact z_lret C P (by rw [Option.some.inj h]) dX6_kind_23
  · refine lv_aload_n hx hb dX6_kind_11 rfl (lv_at hl 0 rfl) ?_
    refine lv_iload_n hx hb dX6_kind_12 rfl (lv_at hl 1 rfl) ?_
    obtain ⟨r13, g13, h⟩ := bd1_some h
    refine z_callVi C P (As := [.int x1]) (m6_kindOf g13) cW6_247 rfl zs0 rfl (by decide) hl.1 rfl (Nat.le_of_ble_eq_true rfl) dX6_kind_13 ⟨Nat.zero_le _, Nat.zero_le _⟩ (fun H locs P => ?_)
    refine lv_i2l hx hb dX6_kind_16 rfl ?_
    refine lv_goto (tgt := 23) hx hb dX6_kind_17 (by decide) ?_
    exact z_lret C P (by rw [Option.some.inj h]) dX6_kind_23
theorem m6_as {l : Launch} {D : va_G} {cA : Nat → ClassId} {ad : Nat → Nat} {x1 : Int32} {x2 : Int32} {S : Zs} {z : Int64 × Zs} (h : f6_as x1 x2 S = some z) :
    zMl l yX6_as cX6_as 3 3 74 D zC ad cA S [.ref (ad 0), .int x1, .int x2] z := by
  refine z_enter (Qc := fun A => zQl D zC ad cA A z) (by decide +kernel) (Nat.le_of_ble_eq_true rfl) (fun p e s m below meth c A C P ls hl => ?_)
  have hx := C.1
  have hb := C.2.1
  have hl : lv_has ls 3 [(0, .ref (ad 0)), (1, .int x1), (2, .int x2)] := hl
  unfold f6_as at h
  refine lv_aload_n hx hb dX6_as_0 rfl (lv_at hl 0 rfl) ?_
  refine gF6_47 C P zs0 rfl dX6_as_1 ?_
  refine lv_iload_n hx hb dX6_as_4 rfl (lv_at hl 1 rfl) ?_
  refine z_callVb C P (As := [.int x1]) (m5_isGood zW_37) cW6_154 rfl zW_37.1 rfl (by decide) hl.1 rfl (Nat.le_of_ble_eq_true rfl) dX6_as_5 ⟨Nat.zero_le _, Nat.zero_le _⟩ (fun H locs n5 P => ?_)
  refine z_if_eq (tgt := 20) hx hb dX6_as_8 (by decide) h (fun h => ?_) (fun h => ?_)
  · refine lv_ldc2 (v := (-9000000000000000001)) hx hb C.2.2.2.1 (C.2.2.2.2.1 _ kK6_80) dX6_as_20 ?_
    exact z_lret C P (Option.some.inj h) dX6_as_23
  · refine lv_iload_n hx hb dX6_as_11 rfl (lv_at hl 2 rfl) ?_
    refine z_if_lt (tgt := 20) hx hb dX6_as_12 (by decide) h (fun h => ?_) (fun h => ?_)
    · refine lv_ldc2 (v := (-9000000000000000001)) hx hb C.2.2.2.1 (C.2.2.2.2.1 _ kK6_80) dX6_as_20 ?_
      exact z_lret C P (Option.some.inj h) dX6_as_23
    · refine lv_iload_n hx hb dX6_as_15 rfl (lv_at hl 2 rfl) ?_
      refine lv_iconst (v := 5) hx hb dX6_as_16 (by decide) ?_
      refine z_icmp_le (tgt := 24) hx hb dX6_as_17 (by decide) h (fun h => ?_) (fun h => ?_)
      · refine lv_aload_n hx hb dX6_as_24 rfl (lv_at hl 0 rfl) ?_
        refine lv_iload_n hx hb dX6_as_25 rfl (lv_at hl 1 rfl) ?_
        refine lv_iload_n hx hb dX6_as_26 rfl (lv_at hl 2 rfl) ?_
        obtain ⟨r27, g27, h⟩ := bd1_some h
        refine z_callVb C P (As := [.int x1, .int x2]) (m6_isOfKind g27) cW6_250 rfl zs0 rfl (by decide) hl.1 rfl (Nat.le_of_ble_eq_true rfl) dX6_as_27 ⟨Nat.zero_le _, Nat.zero_le _⟩ (fun H locs n27 P => ?_)
        refine z_if_eq (tgt := 42) hx hb dX6_as_30 (by decide) h (fun h => ?_) (fun h => ?_)
        · refine lv_aload_n hx hb dX6_as_42 rfl (lv_at hl 0 rfl) ?_
          refine lv_iconst (v := 3) hx hb dX6_as_43 (by decide) ?_
          obtain ⟨r44, S44, g44, h⟩ := bd2_some h
          refine z_callVl C P (As := [.int (3 : Int32)]) (m6_found g44) cW6_82 rfl zs0 rfl (by decide) hl.1 rfl (Nat.le_of_ble_eq_true rfl) dX6_as_44 ⟨Nat.zero_le _, Nat.zero_le _⟩ (fun H locs P => ?_)
          exact z_lret C P (Option.some.inj h) dX6_as_47
        · refine lv_aload_n hx hb dX6_as_33 rfl (lv_at hl 0 rfl) ?_
          refine lv_iload_n hx hb dX6_as_34 rfl (lv_at hl 1 rfl) ?_
          refine lv_i2l hx hb dX6_as_35 rfl ?_
          obtain ⟨r36, S36, g36, h⟩ := bd2_some h
          refine z_callVl C P (As := [.long x1.toInt64]) (m6_fine g36) cW6_90 rfl zs0 rfl (by decide) hl.1 rfl (Nat.le_of_ble_eq_true rfl) dX6_as_36 ⟨Nat.zero_le _, Nat.zero_le _⟩ (fun H locs P => ?_)
          refine lv_goto (tgt := 47) hx hb dX6_as_39 (by decide) ?_
          exact z_lret C P (Option.some.inj h) dX6_as_47
      · refine lv_ldc2 (v := (-9000000000000000001)) hx hb C.2.2.2.1 (C.2.2.2.2.1 _ kK6_80) dX6_as_20 ?_
        exact z_lret C P (Option.some.inj h) dX6_as_23
theorem m4_add {l : Launch} {D : va_G} {cA : Nat → ClassId} {ad : Nat → Nat} {x1 : Int32} {S : Zs} {z : Zs} (h : f4_add x1 S = some z) :
    zMv l yX4_add cX4_add 2 0 0 D zC ad cA S [.ref (ad 15), .int x1] z := by
  refine z_enter (Qc := fun A => zQv D zC ad cA A z) (by decide +kernel) (Nat.le_of_ble_eq_true rfl) (fun p e s m below meth c A C P ls hl => ?_)
  have hx := C.1
  have hb := C.2.1
  have hl : lv_has ls 2 [(0, .ref (ad 15)), (1, .int x1)] := hl
  unfold f4_add at h
  refine lv_aload_n hx hb dX4_add_0 rfl (lv_at hl 0 rfl) ?_
  refine gF4_15 C P zs15 rfl dX4_add_1 ?_
  refine lv_bipush (v := 16) hx hb dX4_add_4 (by decide) ?_
  refine z_icmp_ge (tgt := 29) hx hb dX4_add_6 (by decide) h (fun h => ?_) (fun h => ?_)
  · exact z_vret C P (Option.some.inj h) dX4_add_29
  · refine lv_aload_n hx hb dX4_add_9 rfl (lv_at hl 0 rfl) ?_
    refine gF4_11 C P zs15 rfl dX4_add_10 ?_
    refine lv_aload_n hx hb dX4_add_13 rfl (lv_at hl 0 rfl) ?_
    refine gF4_15 C P zs15 rfl dX4_add_14 ?_
    refine lv_iload_n hx hb dX4_add_17 rfl (lv_at hl 1 rfl) ?_
    refine z_iast C P zs16 dX4_add_18 h (fun S18 H locs h P => ?_)
    refine lv_aload_n hx hb dX4_add_19 rfl (lv_at hl 0 rfl) ?_
    refine lv_dup hx hb dX4_add_20 rfl ?_
    refine gF4_15 C P zs15 rfl dX4_add_21 ?_
    refine lv_iconst (v := 1) hx hb dX4_add_24 (by decide) ?_
    refine lv_iadd hx hb dX4_add_25 ?_
    refine pF4_15 C P zs15 rfl dX4_add_26 h (fun S26 H locs h P => ?_)
    exact z_vret C P (Option.some.inj h) dX4_add_29
theorem m6_markOf {l : Launch} {D : va_G} {cA : Nat → ClassId} {ad : Nat → Nat} {FR LO : Nat} {kb : Int32 → Int32 → Int32 → Zs → Option (Int64 × Zs)} (hkb : ∀ (x1 x2 x3 : Int32) (S : Zs) (z : Int64 × Zs), kb x1 x2 x3 S = some z → zMl l yX6_body cX6_body 4 FR LO D zC ad cA S [.ref (ad 0), .int x1, .int x2, .int x3] z) {x1 : Int32} {x2 : Int32} {S : Zs} {z : Int64 × Zs} (h : f6_markOf kb x1 x2 S = some z) :
    zMl l yX6_markOf cX6_markOf 3 (FR + 10) (LO + 600) D zC ad cA S [.ref (ad 0), .int x1, .int x2] z := by
  refine z_enter (Qc := fun A => zQl D zC ad cA A z) (by decide +kernel) (Nat.le_of_ble_eq_true rfl) (fun p e s m below meth c A C P ls hl => ?_)
  have hx := C.1
  have hb := C.2.1
  have hl : lv_has ls 3 [(0, .ref (ad 0)), (1, .int x1), (2, .int x2)] := hl
  unfold f6_markOf at h
  refine lv_aload_n hx hb dX6_markOf_0 rfl (lv_at hl 0 rfl) ?_
  obtain ⟨t1, zz1, zt1⟩ := C.2.2.2.2.2.2.2.2.2.2.2.1
  refine z_gets C P zz1 zst6_308 dX6_markOf_1 ?_
  refine lv_aload_n hx hb dX6_markOf_4 rfl (lv_at hl 0 rfl) ?_
  refine lv_iload_n hx hb dX6_markOf_5 rfl (lv_at hl 1 rfl) ?_
  obtain ⟨r6, g6, h⟩ := bd1_some h
  refine z_callVi C P (As := [.int x1]) (m6_kindOf g6) cW6_247 rfl zs0 rfl (show (_ : Nat) ≤ FR + 10 ∧ (_ : Nat) ≤ LO + 600 from ⟨by omega, by omega⟩) hl.1 rfl (Nat.le_of_ble_eq_true rfl) dX6_markOf_6 ⟨Nat.zero_le _, Nat.zero_le _⟩ (fun H locs P => ?_)
  refine z_tald C P zt1 dX6_markOf_9 h (fun h => ?_)
  refine lv_iload_n hx hb dX6_markOf_10 rfl (lv_at hl 1 rfl) ?_
  refine lv_iload_n hx hb dX6_markOf_11 rfl (lv_at hl 2 rfl) ?_
  refine lv_iconst (v := 1) hx hb dX6_markOf_12 (by decide) ?_
  refine lv_iadd hx hb dX6_markOf_13 ?_
  obtain ⟨r14, S14, g14, h⟩ := bd2_some h
  refine z_callVl C P (As := [.int (zMarks.getD r6.toNatClampNeg 0), .int x1, .int (x2 + (1 : Int32))]) (hkb _ _ _ _ _ g14) cW6_304 rfl zs0 rfl (show (_ : Nat) ≤ FR + 10 ∧ (_ : Nat) ≤ LO + 600 from ⟨by omega, by omega⟩) hl.1 rfl (Nat.le_of_ble_eq_true rfl) dX6_markOf_14 ⟨Nat.zero_le _, Nat.zero_le _⟩ (fun H locs P => ?_)
  exact z_lret C P (Option.some.inj h) dX6_markOf_17
theorem w5_firstMaker_38 (C : zCx p s m args meth c cX5_firstMaker 4 RX5 (some .int) D ad cA A) {o : Nat} (ho : zW o) {z : Int32} {S : Zs} {k4 : Int32 → Int32 → Int32 → Option Int32} (hk4 : ∀ (x1 : Int32) (x2 : Int32) (x3 : Int32) (H : Heap) (locs : List Loc) (ls : Array Slot), k4 x1 x2 x3 = some z → zP D zC ad cA A S s H locs → lv_has ls 4 [(0, .ref (ad o)), (1, .int x1), (2, .int x2), (3, .int x3)] → W p l e (zrm 1 23) s m args below meth c H locs 0 0 (MQ below (zQi D zC ad cA A (z, S)) args s 0 0 A) (F0 m 4 ls [])) (x1 : Int32) (x2 : Int32) (x3 : Int32) (H : Heap) (locs : List Loc) (ls : Array Slot) (h : f5_firstMaker_38 o S k4 x1 x2 x3 = some z) (P : zP D zC ad cA A S s H locs) (hl : lv_has ls 4 [(0, .ref (ad o)), (1, .int x1), (2, .int x2), (3, .int x3)]) :
    W p l e (zrm 1 23) s m args below meth c H locs 0 0 (MQ below (zQi D zC ad cA A (z, S)) args s 0 0 A) (F0 m 38 ls []) := by
  have hx := C.1
  have hb := C.2.1
  unfold f5_firstMaker_38 at h
  obtain ⟨v38, ev38, h⟩ := z_nm h
  refine lv_iinc (v := v38) (lv' := [(3, .int v38), (0, .ref (ad o)), (1, .int x1), (2, .int x2)]) hx hb dX5_firstMaker_38 hl (k := 3) rfl (by rw [ev38]; rfl) (by decide) rfl (fun ls hl => ?_)
  refine lv_goto (tgt := 4) hx hb dX5_firstMaker_41 (by decide) ?_
  exact hk4 _ _ _ _ _ _ h P (lv_sub hl [1, 2, 3, 0] rfl)
theorem w5_firstMaker_4 (C : zCx p s m args meth c cX5_firstMaker 4 RX5 (some .int) D ad cA A) {o : Nat} (ho : zW o) {z : Int32} {S : Zs} :
    ∀ (n : Nat) (x1 : Int32) (x2 : Int32) (x3 : Int32) (H : Heap) (locs : List Loc) (ls : Array Slot), f5_firstMaker_4 o S n x1 x2 x3 = some z → zP D zC ad cA A S s H locs → lv_has ls 4 [(0, .ref (ad o)), (1, .int x1), (2, .int x2), (3, .int x3)] → W p l e (zrm 1 23) s m args below meth c H locs 0 0 (MQ below (zQi D zC ad cA A (z, S)) args s 0 0 A) (F0 m 4 ls []) := by
  have hx := C.1
  have hb := C.2.1
  intro n
  induction n with
  | zero =>
    intro x1 x2 x3 H locs ls h
    cases h
  | succ n ih =>
    intro x1 x2 x3 H locs ls h P hl
    unfold f5_firstMaker_4 at h
    refine lv_iload_n hx hb dX5_firstMaker_4 rfl (lv_at hl 3 rfl) ?_
    refine lv_aload_n hx hb dX5_firstMaker_5 rfl (lv_at hl 0 rfl) ?_
    refine gF5_9 C P ho.1 rfl dX5_firstMaker_6 ?_
    refine z_icmp_ge (tgt := 44) hx hb dX5_firstMaker_9 (by decide) h (fun h => ?_) (fun h => ?_)
    · refine lv_iload_n hx hb dX5_firstMaker_44 rfl (lv_at hl 2 rfl) ?_
      exact z_iret C P (by rw [Option.some.inj h]) dX5_firstMaker_45
    · refine lv_aload_n hx hb dX5_firstMaker_12 rfl (lv_at hl 0 rfl) ?_
      refine lv_aload_n hx hb dX5_firstMaker_13 rfl (lv_at hl 0 rfl) ?_
      refine gF5_30 C P ho.1 rfl dX5_firstMaker_14 ?_
      refine lv_iload_n hx hb dX5_firstMaker_17 rfl (lv_at hl 3 rfl) ?_
      refine lv_iload_n hx hb dX5_firstMaker_18 rfl (lv_at hl 1 rfl) ?_
      obtain ⟨r19, g19, h⟩ := bd1_some h
      refine z_callVl C P (As := [.ref (ad (o + 7)), .int x3, .int x1]) (m5_cost ho ho.2.2.2.2.2.1 g19) cW5_43 rfl ho.1 rfl (by decide) hl.1 rfl (Nat.le_of_ble_eq_true rfl) dX5_firstMaker_19 ⟨Nat.zero_le _, Nat.zero_le _⟩ (fun H locs P => ?_)
      refine lv_aload_n hx hb dX5_firstMaker_22 rfl (lv_at hl 0 rfl) ?_
      refine lv_aload_n hx hb dX5_firstMaker_23 rfl (lv_at hl 0 rfl) ?_
      refine gF5_30 C P ho.1 rfl dX5_firstMaker_24 ?_
      refine lv_iload_n hx hb dX5_firstMaker_27 rfl (lv_at hl 2 rfl) ?_
      refine lv_iload_n hx hb dX5_firstMaker_28 rfl (lv_at hl 1 rfl) ?_
      obtain ⟨r29, g29, h⟩ := bd1_some h
      refine z_callVl C P (As := [.ref (ad (o + 7)), .int x2, .int x1]) (m5_cost ho ho.2.2.2.2.2.1 g29) cW5_43 rfl ho.1 rfl (by decide) hl.1 rfl (Nat.le_of_ble_eq_true rfl) dX5_firstMaker_29 ⟨Nat.zero_le _, Nat.zero_le _⟩ (fun H locs P => ?_)
      refine z_lcmp_ge (tgt := 38) hx hb dX5_firstMaker_32 dX5_firstMaker_33 (by decide) h (fun h => ?_) (fun h => ?_)
      · exact w5_firstMaker_38 C ho ih _ _ _ _ _ _ h P (lv_sub hl [0, 1, 2, 3] rfl)
      · refine lv_iload_n hx hb dX5_firstMaker_36 rfl (lv_at hl 3 rfl) ?_
        refine lv_istore_n (lv' := [(2, .int x3), (0, .ref (ad o)), (1, .int x1), (3, .int x3)]) hx hb dX5_firstMaker_37 rfl hl (by decide) rfl (fun ls hl => ?_)
        exact w5_firstMaker_38 C ho ih _ _ _ _ _ _ h P (lv_sub hl [1, 2, 0, 3] rfl)
theorem m5_firstMaker {l : Launch} {D : va_G} {cA : Nat → ClassId} {ad : Nat → Nat} {o : Nat} (ho : zW o) {x1 : Int32} {S : Zs} {z : Int32} (h : f5_firstMaker o S x1 = some z) :
    zMi l yX5_firstMaker cX5_firstMaker 4 1 23 D zC ad cA S [.ref (ad o), .int x1] (z, S) := by
  refine z_enter (Qc := fun A => zQi D zC ad cA A (z, S)) (by decide +kernel) (Nat.le_of_ble_eq_true rfl) (fun p e s m below meth c A C P ls hl => ?_)
  have hx := C.1
  have hb := C.2.1
  have hl : lv_has ls 4 [(0, .ref (ad o)), (1, .int x1)] := hl
  unfold f5_firstMaker at h
  refine lv_iconst (v := 0) hx hb dX5_firstMaker_0 (by decide) ?_
  refine lv_istore_n (lv' := [(2, .int (0 : Int32)), (0, .ref (ad o)), (1, .int x1)]) hx hb dX5_firstMaker_1 rfl hl (by decide) rfl (fun ls hl => ?_)
  refine lv_iconst (v := 1) hx hb dX5_firstMaker_2 (by decide) ?_
  refine lv_istore_n (lv' := [(3, .int (1 : Int32)), (2, .int (0 : Int32)), (0, .ref (ad o)), (1, .int x1)]) hx hb dX5_firstMaker_3 rfl hl (by decide) rfl (fun ls hl => ?_)
  exact w5_firstMaker_4 C ho _ _ _ _ _ _ _ h P (lv_sub hl [2, 3, 1, 0] rfl)
theorem m6_sizeOf {l : Launch} {D : va_G} {cA : Nat → ClassId} {ad : Nat → Nat} {FR LO : Nat} {kb : Int32 → Int32 → Int32 → Zs → Option (Int64 × Zs)} (hkb : ∀ (x1 x2 x3 : Int32) (S : Zs) (z : Int64 × Zs), kb x1 x2 x3 S = some z → zMl l yX6_body cX6_body 4 FR LO D zC ad cA S [.ref (ad 0), .int x1, .int x2, .int x3] z) {x1 : Int32} {x2 : Int32} {S : Zs} {z : Int64 × Zs} (h : f6_sizeOf kb x1 x2 S = some z) :
    zMl l yX6_sizeOf cX6_sizeOf 3 (FR + 10) (LO + 600) D zC ad cA S [.ref (ad 0), .int x1, .int x2] z := by
  refine z_enter (Qc := fun A => zQl D zC ad cA A z) (by decide +kernel) (Nat.le_of_ble_eq_true rfl) (fun p e s m below meth c A C P ls hl => ?_)
  have hx := C.1
  have hb := C.2.1
  have hl : lv_has ls 3 [(0, .ref (ad 0)), (1, .int x1), (2, .int x2)] := hl
  unfold f6_sizeOf at h
  refine lv_aload_n hx hb dX6_sizeOf_0 rfl (lv_at hl 0 rfl) ?_
  obtain ⟨t1, zz1, zt1⟩ := C.2.2.2.2.2.2.2.2.2.2.1
  refine z_gets C P zz1 zst6_301 dX6_sizeOf_1 ?_
  refine lv_aload_n hx hb dX6_sizeOf_4 rfl (lv_at hl 0 rfl) ?_
  refine lv_iload_n hx hb dX6_sizeOf_5 rfl (lv_at hl 1 rfl) ?_
  obtain ⟨r6, g6, h⟩ := bd1_some h
  refine z_callVi C P (As := [.int x1]) (m6_kindOf g6) cW6_247 rfl zs0 rfl (show (_ : Nat) ≤ FR + 10 ∧ (_ : Nat) ≤ LO + 600 from ⟨by omega, by omega⟩) hl.1 rfl (Nat.le_of_ble_eq_true rfl) dX6_sizeOf_6 ⟨Nat.zero_le _, Nat.zero_le _⟩ (fun H locs P => ?_)
  refine z_tald C P zt1 dX6_sizeOf_9 h (fun h => ?_)
  refine lv_iload_n hx hb dX6_sizeOf_10 rfl (lv_at hl 1 rfl) ?_
  refine lv_iload_n hx hb dX6_sizeOf_11 rfl (lv_at hl 2 rfl) ?_
  refine lv_iconst (v := 1) hx hb dX6_sizeOf_12 (by decide) ?_
  refine lv_iadd hx hb dX6_sizeOf_13 ?_
  obtain ⟨r14, S14, g14, h⟩ := bd2_some h
  refine z_callVl C P (As := [.int (zSizes.getD r6.toNatClampNeg 0), .int x1, .int (x2 + (1 : Int32))]) (hkb _ _ _ _ _ g14) cW6_304 rfl zs0 rfl (show (_ : Nat) ≤ FR + 10 ∧ (_ : Nat) ≤ LO + 600 from ⟨by omega, by omega⟩) hl.1 rfl (Nat.le_of_ble_eq_true rfl) dX6_sizeOf_14 ⟨Nat.zero_le _, Nat.zero_le _⟩ (fun H locs P => ?_)
  exact z_lret C P (Option.some.inj h) dX6_sizeOf_17
end ZVC6
