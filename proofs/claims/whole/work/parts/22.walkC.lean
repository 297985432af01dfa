section ZVC2
variable {p : Program} {l : Launch} {e : Env} {s : State} {m : MethodId} {args : Array Value} {below : List Frame} {meth : Method} {c : Code} {D : va_G} {cA : Nat → ClassId} {A : Nat → Prop} {ad : Nat → Nat}
theorem w6_judge_52 (C : zCx p s m args meth c cX6_judge 6 RX6 (some .long) D ad cA A) {z : Int64 × Zs} :
    ∀ (n : Nat) (x1 : Int32) (x2 : Int32) (x4 : Int32) (S : Zs) (H : Heap) (locs : List Loc) (ls : Array Slot), f6_judge_52 n x1 x2 x4 S = some z → zP D zC ad cA A S s H locs → lv_has ls 6 [(0, .ref (ad 0)), (1, .int x1), (2, .int x2), (4, .int x4)] → W p l e (zrm 3 77) s m args below meth c H locs 0 0 (MQ below (zQl D zC ad cA A z) args s 0 0 A) (F0 m 52 ls []) := by
  have hx := C.1
  have hb := C.2.1
  intro n
  induction n with
  | zero =>
    intro x1 x2 x4 S H locs ls h
    cases h
  | succ n ih =>
    intro x1 x2 x4 S H locs ls h P hl
    unfold f6_judge_52 at h
    refine lv_iload hx hb dX6_judge_52 (lv_at hl 3 rfl) ?_
    refine lv_aload_n hx hb dX6_judge_54 rfl (lv_at hl 0 rfl) ?_
    refine gF6_47 C P zs0 rfl dX6_judge_55 ?_
    refine gF6_145 C P zW_37.1 rfl dX6_judge_58 ?_
    refine z_icmp_ge (tgt := 112) hx hb dX6_judge_61 (by decide) h (fun h => ?_) (fun h => ?_)
    · refine lv_aload_n hx hb dX6_judge_112 rfl (lv_at hl 0 rfl) ?_
      refine lv_aload_n hx hb dX6_judge_113 rfl (lv_at hl 0 rfl) ?_
      refine gF6_47 C P zs0 rfl dX6_judge_114 ?_
      refine lv_aload_n hx hb dX6_judge_117 rfl (lv_at hl 0 rfl) ?_
      refine gF6_57 C P zs0 rfl dX6_judge_118 ?_
      obtain ⟨r121, S121, g121, h⟩ := bd2_some h
      refine z_callVi C P (As := [.ref (ad 64)]) (m5_idleBy zW_37 zs64 g121) cW6_199 rfl zW_37.1 rfl (by decide) hl.1 rfl (Nat.le_of_ble_eq_true rfl) dX6_judge_121 ⟨Nat.zero_le _, Nat.zero_le _⟩ (fun H locs P => ?_)
      refine lv_i2l hx hb dX6_judge_124 rfl ?_
      obtain ⟨r125, S125, g125, h⟩ := bd2_some h
      refine z_callVl C P (As := [.long r121.toInt64]) (m6_fine g125) cW6_90 rfl zs0 rfl (by decide) hl.1 rfl (Nat.le_of_ble_eq_true rfl) dX6_judge_125 ⟨Nat.zero_le _, Nat.zero_le _⟩ (fun H locs P => ?_)
      exact z_lret C P (Option.some.inj h) dX6_judge_128
    · refine lv_aload_n hx hb dX6_judge_64 rfl (lv_at hl 0 rfl) ?_
      refine gF6_12 C P zs0 rfl dX6_judge_65 ?_
      refine lv_iload_n hx hb dX6_judge_68 rfl (lv_at hl 1 rfl) ?_
      refine lv_iload_n hx hb dX6_judge_69 rfl (lv_at hl 2 rfl) ?_
      refine lv_iload hx hb dX6_judge_70 (lv_at hl 3 rfl) ?_
      refine lv_iadd hx hb dX6_judge_72 ?_
      obtain ⟨r73, g73, h⟩ := bd1_some h
      refine z_callVi C P (As := [.int x1, .int (x2 + x4)]) (m2_item g73) cW6_195 rfl zs1 rfl (by decide) hl.1 rfl (Nat.le_of_ble_eq_true rfl) dX6_judge_73 ⟨Nat.zero_le _, Nat.zero_le _⟩ (fun H locs P => ?_)
      refine lv_istore (lv' := [(5, .int r73), (0, .ref (ad 0)), (1, .int x1), (2, .int x2), (4, .int x4)]) hx hb dX6_judge_76 hl (by decide) rfl (fun ls hl => ?_)
      refine lv_iload hx hb dX6_judge_78 (lv_at hl 0 rfl) ?_
      refine lv_iconst (v := 1) hx hb dX6_judge_80 (by decide) ?_
      refine z_icmp_lt (tgt := 92) hx hb dX6_judge_81 (by decide) h (fun h => ?_) (fun h => ?_)
      · refine lv_ldc2 (v := (-9000000000000000001)) hx hb C.2.2.2.1 (C.2.2.2.2.1 _ kK6_80) dX6_judge_92 ?_
        exact z_lret C P (Option.some.inj h) dX6_judge_95
      · refine lv_iload hx hb dX6_judge_84 (lv_at hl 0 rfl) ?_
        refine lv_sipush (v := 999) hx hb dX6_judge_86 (by decide) ?_
        refine z_icmp_le (tgt := 96) hx hb dX6_judge_89 (by decide) h (fun h => ?_) (fun h => ?_)
        · refine lv_aload_n hx hb dX6_judge_96 rfl (lv_at hl 1 rfl) ?_
          refine gF6_57 C P zs0 rfl dX6_judge_97 ?_
          refine lv_iload hx hb dX6_judge_100 (lv_at hl 4 rfl) ?_
          refine lv_iload hx hb dX6_judge_102 (lv_at hl 0 rfl) ?_
          refine lv_i2l hx hb dX6_judge_104 rfl ?_
          refine z_last C P zs64 dX6_judge_105 h (fun S105 H locs h P => ?_)
          obtain ⟨v106, ev106, h⟩ := z_nm h
          refine lv_iinc (v := v106) (lv' := [(4, .int v106), (5, .int r73), (0, .ref (ad 0)), (1, .int x1), (2, .int x2)]) hx hb dX6_judge_106 hl (k := 4) rfl (by rw [ev106]; rfl) (by decide) rfl (fun ls hl => ?_)
          refine lv_goto (tgt := 52) hx hb dX6_judge_109 (by decide) ?_
          exact ih _ _ _ _ _ _ _ h P (lv_sub hl [2, 3, 4, 0] rfl)
        · refine lv_ldc2 (v := (-9000000000000000001)) hx hb C.2.2.2.1 (C.2.2.2.2.1 _ kK6_80) dX6_judge_92 ?_
          exact z_lret C P (Option.some.inj h) dX6_judge_95
theorem m6_judge {l : Launch} {D : va_G} {cA : Nat → ClassId} {ad : Nat → Nat} {x1 : Int32} {x2 : Int32} {S : Zs} {z : Int64 × Zs} (h : f6_judge x1 x2 S = some z) :
    zMl l yX6_judge cX6_judge 6 3 77 D zC ad cA S [.ref (ad 0), .int x1, .int x2] z := by
  refine z_enter (Qc := fun A => zQl D zC ad cA A z) (by decide +kernel) (Nat.le_of_ble_eq_true rfl) (fun p e s m below meth c A C P ls hl => ?_)
  have hx := C.1
  have hb := C.2.1
  have hl : lv_has ls 6 [(0, .ref (ad 0)), (1, .int x1), (2, .int x2)] := hl
  unfold f6_judge at h
  refine lv_iload_n hx hb dX6_judge_0 rfl (lv_at hl 1 rfl) ?_
  refine z_callSb C P (As := [.int x1]) (m2_isRow) cW6_73 rfl (by decide) hl.1 rfl (Nat.le_of_ble_eq_true rfl) dX6_judge_1 ⟨Nat.zero_le _, Nat.zero_le _⟩ (fun H locs n1 P => ?_)
  refine z_if_ne (tgt := 11) hx hb dX6_judge_4 (by decide) h (fun h => ?_) (fun h => ?_)
  · refine lv_aload_n hx hb dX6_judge_11 rfl (lv_at hl 0 rfl) ?_
    refine gF6_47 C P zs0 rfl dX6_judge_12 ?_
    refine z_callVb C P (As := []) (m5_isThere zW_37) cW6_186 rfl zW_37.1 rfl (by decide) hl.1 rfl (Nat.le_of_ble_eq_true rfl) dX6_judge_15 ⟨Nat.zero_le _, Nat.zero_le _⟩ (fun H locs n15 P => ?_)
    refine z_if_ne (tgt := 25) hx hb dX6_judge_18 (by decide) h (fun h => ?_) (fun h => ?_)
    · refine lv_aload_n hx hb dX6_judge_25 rfl (lv_at hl 0 rfl) ?_
      refine lv_iload_n hx hb dX6_judge_26 rfl (lv_at hl 1 rfl) ?_
      refine lv_iload_n hx hb dX6_judge_27 rfl (lv_at hl 2 rfl) ?_
      refine lv_aload_n hx hb dX6_judge_28 rfl (lv_at hl 0 rfl) ?_
      refine gF6_47 C P zs0 rfl dX6_judge_29 ?_
      refine gF6_145 C P zW_37.1 rfl dX6_judge_32 ?_
      obtain ⟨r35, g35, h⟩ := bd1_some h
      refine z_callVi C P (As := [.int x1, .int x2, .int (S.1 37 0)]) (m6_findingAt g35) cW6_192 rfl zs0 rfl (by decide) hl.1 rfl (Nat.le_of_ble_eq_true rfl) dX6_judge_35 ⟨Nat.zero_le _, Nat.zero_le _⟩ (fun H locs P => ?_)
      refine lv_istore_n (lv' := [(3, .int r35), (0, .ref (ad 0)), (1, .int x1), (2, .int x2)]) hx hb dX6_judge_38 rfl hl (by decide) rfl (fun ls hl => ?_)
      refine lv_iload_n hx hb dX6_judge_39 rfl (lv_at hl 0 rfl) ?_
      refine z_if_eq (tgt := 49) hx hb dX6_judge_40 (by decide) h (fun h => ?_) (fun h => ?_)
      · refine lv_iconst (v := 0) hx hb dX6_judge_49 (by decide) ?_
        refine lv_istore (lv' := [(4, .int (0 : Int32)), (3, .int r35), (0, .ref (ad 0)), (1, .int x1), (2, .int x2)]) hx hb dX6_judge_50 hl (by decide) rfl (fun ls hl => ?_)
        exact w6_judge_52 C _ _ _ _ _ _ _ _ h P (lv_sub hl [2, 3, 4, 0] rfl)
      · refine lv_aload_n hx hb dX6_judge_43 rfl (lv_at hl 1 rfl) ?_
        refine lv_iload_n hx hb dX6_judge_44 rfl (lv_at hl 0 rfl) ?_
        obtain ⟨r45, S45, g45, h⟩ := bd2_some h
        refine z_callVl C P (As := [.int r35]) (m6_found g45) cW6_82 rfl zs0 rfl (by decide) hl.1 rfl (Nat.le_of_ble_eq_true rfl) dX6_judge_45 ⟨Nat.zero_le _, Nat.zero_le _⟩ (fun H locs P => ?_)
        exact z_lret C P (Option.some.inj h) dX6_judge_48
    · refine lv_ldc2 (v := (-9000000000000000002)) hx hb C.2.2.2.1 (C.2.2.2.2.1 _ kK6_190) dX6_judge_21 ?_
      exact z_lret C P (Option.some.inj h) dX6_judge_24
  · refine lv_ldc2 (v := (-9000000000000000001)) hx hb C.2.2.2.1 (C.2.2.2.2.1 _ kK6_80) dX6_judge_7 ?_
    exact z_lret C P (Option.some.inj h) dX6_judge_10
theorem w0_layTwo_33 (C : zCx p s m args meth c cX0_layTwo 5 RX0 none D ad cA A) {o : Nat} (ho : zPr o) {q1 : Nat} (hq1 : zW q1) {z : Zs} :
    ∀ (n : Nat) (x2 : Int32) (x3 : Int32) (x4 : Int32) (S : Zs) (H : Heap) (locs : List Loc) (ls : Array Slot), f0_layTwo_33 o q1 n x2 x3 x4 S = some z → zP D zC ad cA A S s H locs → lv_has ls 5 [(0, .ref (ad o)), (1, .ref (ad q1)), (2, .int x2), (3, .int x3), (4, .int x4)] → W p l e (zrm 0 0) s m args below meth c H locs 0 0 (MQ below (zQv D zC ad cA A z) args s 0 0 A) (F0 m 33 ls []) := by
  have hx := C.1
  have hb := C.2.1
  intro n
  induction n with
  | zero =>
    intro x2 x3 x4 S H locs ls h
    cases h
  | succ n ih =>
    intro x2 x3 x4 S H locs ls h P hl
    unfold f0_layTwo_33 at h
    refine lv_iload hx hb dX0_layTwo_33 (lv_at hl 4 rfl) ?_
    refine lv_aload_n hx hb dX0_layTwo_35 rfl (lv_at hl 0 rfl) ?_
    refine gF0_9 C P ho.1 rfl dX0_layTwo_36 ?_
    refine z_icmp_ge (tgt := 96) hx hb dX0_layTwo_39 (by decide) h (fun h => ?_) (fun h => ?_)
    · exact z_vret C P (Option.some.inj h) dX0_layTwo_96
    · refine lv_aload_n hx hb dX0_layTwo_42 rfl (lv_at hl 0 rfl) ?_
      refine gF0_15 C P ho.1 rfl dX0_layTwo_43 ?_
      refine lv_iload hx hb dX0_layTwo_46 (lv_at hl 4 rfl) ?_
      refine lv_aload_n hx hb dX0_layTwo_48 rfl (lv_at hl 1 rfl) ?_
      refine gF0_48 C P hq1.1 rfl dX0_layTwo_49 ?_
      refine lv_iload hx hb dX0_layTwo_52 (lv_at hl 4 rfl) ?_
      refine z_iald C P hq1.2.1 dX0_layTwo_54 h (fun h hi => ?_)
      refine z_iast C P ho.2.1 dX0_layTwo_55 h (fun S55 H locs h P => ?_)
      refine lv_aload_n hx hb dX0_layTwo_56 rfl (lv_at hl 0 rfl) ?_
      refine gF0_19 C P ho.1 rfl dX0_layTwo_57 ?_
      refine lv_iload hx hb dX0_layTwo_60 (lv_at hl 4 rfl) ?_
      refine lv_aload_n hx hb dX0_layTwo_62 rfl (lv_at hl 1 rfl) ?_
      refine gF0_49 C P hq1.1 rfl dX0_layTwo_63 ?_
      refine lv_iload_n hx hb dX0_layTwo_66 rfl (lv_at hl 2 rfl) ?_
      refine z_aald C P hq1.2.2.2.1 (zrs3 q1) hq1.2.2.2.2.1 dX0_layTwo_67 h (fun h hg67 => ?_)
      refine lv_iload hx hb dX0_layTwo_68 (lv_at hl 4 rfl) ?_
      refine z_iald C P hg67 dX0_layTwo_70 h (fun h hi => ?_)
      refine lv_i2l hx hb dX0_layTwo_71 rfl ?_
      refine z_last C P ho.2.2.1 dX0_layTwo_72 h (fun S72 H locs h P => ?_)
      refine lv_aload_n hx hb dX0_layTwo_73 rfl (lv_at hl 0 rfl) ?_
      refine gF0_23 C P ho.1 rfl dX0_layTwo_74 ?_
      refine lv_iload hx hb dX0_layTwo_77 (lv_at hl 4 rfl) ?_
      refine lv_aload_n hx hb dX0_layTwo_79 rfl (lv_at hl 1 rfl) ?_
      refine gF0_49 C P hq1.1 rfl dX0_layTwo_80 ?_
      refine lv_iload_n hx hb dX0_layTwo_83 rfl (lv_at hl 3 rfl) ?_
      refine z_aald C P hq1.2.2.2.1 (zrs3 q1) hq1.2.2.2.2.1 dX0_layTwo_84 h (fun h hg84 => ?_)
      refine lv_iload hx hb dX0_layTwo_85 (lv_at hl 4 rfl) ?_
      refine z_iald C P hg84 dX0_layTwo_87 h (fun h hi => ?_)
      refine lv_i2l hx hb dX0_layTwo_88 rfl ?_
      refine z_last C P ho.2.2.2.1 dX0_layTwo_89 h (fun S89 H locs h P => ?_)
      obtain ⟨v90, ev90, h⟩ := z_nm h
      refine lv_iinc (v := v90) (lv' := [(4, .int v90), (0, .ref (ad o)), (1, .ref (ad q1)), (2, .int x2), (3, .int x3)]) hx hb dX0_layTwo_90 hl (k := 4) rfl (by rw [ev90]; rfl) (by decide) rfl (fun ls hl => ?_)
      refine lv_goto (tgt := 33) hx hb dX0_layTwo_93 (by decide) ?_
      exact ih _ _ _ _ _ _ _ h P (lv_sub hl [1, 2, 3, 4, 0] rfl)
theorem m0_layTwo {l : Launch} {D : va_G} {cA : Nat → ClassId} {ad : Nat → Nat} {o : Nat} (ho : zPr o) {q1 : Nat} (hq1 : zW q1) {x2 : Int32} {x3 : Int32} {S : Zs} {z : Zs} (h : f0_layTwo o q1 x2 x3 S = some z) :
    zMv l yX0_layTwo cX0_layTwo 5 0 0 D zC ad cA S [.ref (ad o), .ref (ad q1), .int x2, .int x3] z := by
  refine z_enter (Qc := fun A => zQv D zC ad cA A z) (by decide +kernel) (Nat.le_of_ble_eq_true rfl) (fun p e s m below meth c A C P ls hl => ?_)
  have hx := C.1
  have hb := C.2.1
  have hl : lv_has ls 5 [(0, .ref (ad o)), (1, .ref (ad q1)), (2, .int x2), (3, .int x3)] := hl
  unfold f0_layTwo at h
  refine lv_aload_n hx hb dX0_layTwo_0 rfl (lv_at hl 0 rfl) ?_
  refine lv_aload_n hx hb dX0_layTwo_1 rfl (lv_at hl 1 rfl) ?_
  refine gF0_42 C P hq1.1 rfl dX0_layTwo_2 ?_
  refine pF0_9 C P ho.1 rfl dX0_layTwo_5 h (fun S5 H locs h P => ?_)
  refine lv_aload_n hx hb dX0_layTwo_8 rfl (lv_at hl 0 rfl) ?_
  refine lv_aload_n hx hb dX0_layTwo_9 rfl (lv_at hl 1 rfl) ?_
  refine gF0_45 C P hq1.1 rfl dX0_layTwo_10 ?_
  refine lv_iload_n hx hb dX0_layTwo_13 rfl (lv_at hl 2 rfl) ?_
  refine z_iald C P hq1.2.2.1 dX0_layTwo_14 h (fun h hi => ?_)
  refine lv_i2l hx hb dX0_layTwo_15 rfl ?_
  refine pF0_29 C P ho.1 rfl dX0_layTwo_16 h (fun S16 H locs h P => ?_)
  refine lv_aload_n hx hb dX0_layTwo_19 rfl (lv_at hl 0 rfl) ?_
  refine lv_aload_n hx hb dX0_layTwo_20 rfl (lv_at hl 1 rfl) ?_
  refine gF0_45 C P hq1.1 rfl dX0_layTwo_21 ?_
  refine lv_iload_n hx hb dX0_layTwo_24 rfl (lv_at hl 3 rfl) ?_
  refine z_iald C P hq1.2.2.1 dX0_layTwo_25 h (fun h hi => ?_)
  refine lv_i2l hx hb dX0_layTwo_26 rfl ?_
  refine pF0_33 C P ho.1 rfl dX0_layTwo_27 h (fun S27 H locs h P => ?_)
  refine lv_iconst (v := 0) hx hb dX0_layTwo_30 (by decide) ?_
  refine lv_istore (lv' := [(4, .int (0 : Int32)), (0, .ref (ad o)), (1, .ref (ad q1)), (2, .int x2), (3, .int x3)]) hx hb dX0_layTwo_31 hl (by decide) rfl (fun ls hl => ?_)
  exact w0_layTwo_33 C ho hq1 _ _ _ _ _ _ _ _ h P (lv_sub hl [1, 2, 3, 4, 0] rfl)
theorem w0_sort_80 (C : zCx p s m args meth c cX0_sort 3 RX0 none D ad cA A) {o : Nat} (ho : zPr o) {z : Zs} {k2 : Int32 → Zs → Option Zs} (hk2 : ∀ (x1 : Int32) (S : Zs) (H : Heap) (locs : List Loc) (ls : Array Slot), k2 x1 S = some z → zP D zC ad cA A S s H locs → lv_has ls 3 [(0, .ref (ad o)), (1, .int x1)] → W p l e (zrm 0 0) s m args below meth c H locs 0 0 (MQ below (zQv D zC ad cA A z) args s 0 0 A) (F0 m 2 ls [])) (x1 : Int32) (x2 : Int32) (S : Zs) (H : Heap) (locs : List Loc) (ls : Array Slot) (h : f0_sort_80 o k2 x1 x2 S = some z) (P : zP D zC ad cA A S s H locs) (hl : lv_has ls 3 [(0, .ref (ad o)), (1, .int x1), (2, .int x2)]) :
    W p l e (zrm 0 0) s m args below meth c H locs 0 0 (MQ below (zQv D zC ad cA A z) args s 0 0 A) (F0 m 80 ls []) := by
  have hx := C.1
  have hb := C.2.1
  unfold f0_sort_80 at h
  refine lv_aload_n hx hb dX0_sort_80 rfl (lv_at hl 0 rfl) ?_
  refine gF0_26 C P ho.1 rfl dX0_sort_81 ?_
  refine lv_iload_n hx hb dX0_sort_84 rfl (lv_at hl 2 rfl) ?_
  refine lv_iload_n hx hb dX0_sort_85 rfl (lv_at hl 1 rfl) ?_
  refine z_iast C P ho.2.2.2.2 dX0_sort_86 h (fun S86 H locs h P => ?_)
  obtain ⟨v87, ev87, h⟩ := z_nm h
  refine lv_iinc (v := v87) (lv' := [(1, .int v87), (0, .ref (ad o)), (2, .int x2)]) hx hb dX0_sort_87 hl (k := 1) rfl (by rw [ev87]; rfl) (by decide) rfl (fun ls hl => ?_)
  refine lv_goto (tgt := 2) hx hb dX0_sort_90 (by decide) ?_
  exact hk2 _ _ _ _ _ h P (lv_sub hl [1, 0] rfl)
theorem w0_sort_12 (C : zCx p s m args meth c cX0_sort 3 RX0 none D ad cA A) {o : Nat} (ho : zPr o) {z : Zs} {k2 : Int32 → Zs → Option Zs} (hk2 : ∀ (x1 : Int32) (S : Zs) (H : Heap) (locs : List Loc) (ls : Array Slot), k2 x1 S = some z → zP D zC ad cA A S s H locs → lv_has ls 3 [(0, .ref (ad o)), (1, .int x1)] → W p l e (zrm 0 0) s m args below meth c H locs 0 0 (MQ below (zQv D zC ad cA A z) args s 0 0 A) (F0 m 2 ls [])) :
    ∀ (n : Nat) (x1 : Int32) (x2 : Int32) (S : Zs) (H : Heap) (locs : List Loc) (ls : Array Slot), f0_sort_12 o k2 n x1 x2 S = some z → zP D zC ad cA A S s H locs → lv_has ls 3 [(0, .ref (ad o)), (1, .int x1), (2, .int x2)] → W p l e (zrm 0 0) s m args below meth c H locs 0 0 (MQ below (zQv D zC ad cA A z) args s 0 0 A) (F0 m 12 ls []) := by
  have hx := C.1
  have hb := C.2.1
  intro n
  induction n with
  | zero =>
    intro x1 x2 S H locs ls h
    cases h
  | succ n ih =>
    intro x1 x2 S H locs ls h P hl
    unfold f0_sort_12 at h
    refine lv_iload_n hx hb dX0_sort_12 rfl (lv_at hl 2 rfl) ?_
    refine z_if_le (tgt := 80) hx hb dX0_sort_13 (by decide) h (fun h => ?_) (fun h => ?_)
    · exact w0_sort_80 C ho hk2 _ _ _ _ _ _ h P (lv_sub hl [0, 1, 2] rfl)
    · refine lv_aload_n hx hb dX0_sort_16 rfl (lv_at hl 0 rfl) ?_
      refine gF0_19 C P ho.1 rfl dX0_sort_17 ?_
      refine lv_aload_n hx hb dX0_sort_20 rfl (lv_at hl 0 rfl) ?_
      refine gF0_26 C P ho.1 rfl dX0_sort_21 ?_
      refine lv_iload_n hx hb dX0_sort_24 rfl (lv_at hl 2 rfl) ?_
      refine lv_iconst (v := 1) hx hb dX0_sort_25 (by decide) ?_
      refine lv_isub hx hb dX0_sort_26 ?_
      refine z_iald C P ho.2.2.2.2 dX0_sort_27 h (fun h hi => ?_)
      refine z_lald C P ho.2.2.1 dX0_sort_28 h (fun h hi => ?_)
      refine lv_aload_n hx hb dX0_sort_29 rfl (lv_at hl 0 rfl) ?_
      refine gF0_23 C P ho.1 rfl dX0_sort_30 ?_
      refine lv_iload_n hx hb dX0_sort_33 rfl (lv_at hl 1 rfl) ?_
      refine z_lald C P ho.2.2.2.1 dX0_sort_34 h (fun h hi => ?_)
      refine lv_lmul hx hb dX0_sort_35 ?_
      refine lv_aload_n hx hb dX0_sort_36 rfl (lv_at hl 0 rfl) ?_
      refine gF0_19 C P ho.1 rfl dX0_sort_37 ?_
      refine lv_iload_n hx hb dX0_sort_40 rfl (lv_at hl 1 rfl) ?_
      refine z_lald C P ho.2.2.1 dX0_sort_41 h (fun h hi => ?_)
      refine lv_aload_n hx hb dX0_sort_42 rfl (lv_at hl 0 rfl) ?_
      refine gF0_23 C P ho.1 rfl dX0_sort_43 ?_
      refine lv_aload_n hx hb dX0_sort_46 rfl (lv_at hl 0 rfl) ?_
      refine gF0_26 C P ho.1 rfl dX0_sort_47 ?_
      refine lv_iload_n hx hb dX0_sort_50 rfl (lv_at hl 2 rfl) ?_
      refine lv_iconst (v := 1) hx hb dX0_sort_51 (by decide) ?_
      refine lv_isub hx hb dX0_sort_52 ?_
      refine z_iald C P ho.2.2.2.2 dX0_sort_53 h (fun h hi => ?_)
      refine z_lald C P ho.2.2.2.1 dX0_sort_54 h (fun h hi => ?_)
      refine lv_lmul hx hb dX0_sort_55 ?_
      refine z_lcmp_le (tgt := 80) hx hb dX0_sort_56 dX0_sort_57 (by decide) h (fun h => ?_) (fun h => ?_)
      · exact w0_sort_80 C ho hk2 _ _ _ _ _ _ h P (lv_sub hl [0, 1, 2] rfl)
      · refine lv_aload_n hx hb dX0_sort_60 rfl (lv_at hl 0 rfl) ?_
        refine gF0_26 C P ho.1 rfl dX0_sort_61 ?_
        refine lv_iload_n hx hb dX0_sort_64 rfl (lv_at hl 2 rfl) ?_
        refine lv_aload_n hx hb dX0_sort_65 rfl (lv_at hl 0 rfl) ?_
        refine gF0_26 C P ho.1 rfl dX0_sort_66 ?_
        refine lv_iload_n hx hb dX0_sort_69 rfl (lv_at hl 2 rfl) ?_
        refine lv_iconst (v := 1) hx hb dX0_sort_70 (by decide) ?_
        refine lv_isub hx hb dX0_sort_71 ?_
        refine z_iald C P ho.2.2.2.2 dX0_sort_72 h (fun h hi => ?_)
        refine z_iast C P ho.2.2.2.2 dX0_sort_73 h (fun S73 H locs h P => ?_)
        obtain ⟨v74, ev74, h⟩ := z_nm h
        refine lv_iinc (v := v74) (lv' := [(2, .int v74), (0, .ref (ad o)), (1, .int x1)]) hx hb dX0_sort_74 hl (k := 2) rfl (by rw [ev74]; rfl) (by decide) rfl (fun ls hl => ?_)
        refine lv_goto (tgt := 12) hx hb dX0_sort_77 (by decide) ?_
        exact ih _ _ _ _ _ _ h P (lv_sub hl [1, 2, 0] rfl)
theorem w0_sort_2 (C : zCx p s m args meth c cX0_sort 3 RX0 none D ad cA A) {o : Nat} (ho : zPr o) {z : Zs} :
    ∀ (n : Nat) (x1 : Int32) (S : Zs) (H : Heap) (locs : List Loc) (ls : Array Slot), f0_sort_2 o n x1 S = some z → zP D zC ad cA A S s H locs → lv_has ls 3 [(0, .ref (ad o)), (1, .int x1)] → W p l e (zrm 0 0) s m args below meth c H locs 0 0 (MQ below (zQv D zC ad cA A z) args s 0 0 A) (F0 m 2 ls []) := by
  have hx := C.1
  have hb := C.2.1
  intro n
  induction n with
  | zero =>
    intro x1 S H locs ls h
    cases h
  | succ n ih =>
    intro x1 S H locs ls h P hl
    unfold f0_sort_2 at h
    refine lv_iload_n hx hb dX0_sort_2 rfl (lv_at hl 1 rfl) ?_
    refine lv_aload_n hx hb dX0_sort_3 rfl (lv_at hl 0 rfl) ?_
    refine gF0_9 C P ho.1 rfl dX0_sort_4 ?_
    refine z_icmp_ge (tgt := 93) hx hb dX0_sort_7 (by decide) h (fun h => ?_) (fun h => ?_)
    · exact z_vret C P (Option.some.inj h) dX0_sort_93
    · refine lv_iload_n hx hb dX0_sort_10 rfl (lv_at hl 1 rfl) ?_
      refine lv_istore_n (lv' := [(2, .int x1), (0, .ref (ad o)), (1, .int x1)]) hx hb dX0_sort_11 rfl hl (by decide) rfl (fun ls hl => ?_)
      exact w0_sort_12 C ho ih _ _ _ _ _ _ _ h P (lv_sub hl [1, 2, 0] rfl)
theorem m0_sort {l : Launch} {D : va_G} {cA : Nat → ClassId} {ad : Nat → Nat} {o : Nat} (ho : zPr o) {S : Zs} {z : Zs} (h : f0_sort o S = some z) :
    zMv l yX0_sort cX0_sort 3 0 0 D zC ad cA S [.ref (ad o)] z := by
  refine z_enter (Qc := fun A => zQv D zC ad cA A z) (by decide +kernel) (Nat.le_of_ble_eq_true rfl) (fun p e s m below meth c A C P ls hl => ?_)
  have hx := C.1
  have hb := C.2.1
  have hl : lv_has ls 3 [(0, .ref (ad o))] := hl
  unfold f0_sort at h
  refine lv_iconst (v := 0) hx hb dX0_sort_0 (by decide) ?_
  refine lv_istore_n (lv' := [(1, .int (0 : Int32)), (0, .ref (ad o))]) hx hb dX0_sort_1 rfl hl (by decide) rfl (fun ls hl => ?_)
  exact w0_sort_2 C ho _ _ _ _ _ _ h P (lv_sub hl [1, 0] rfl)
theorem w0_allShares_4 (C : zCx p s m args meth c cX0_allShares 4 RX0 (some .long) D ad cA A) {o : Nat} (ho : zPr o) {z : Int64} {S : Zs} :
    ∀ (n : Nat) (x1 : Int64) (x3 : Int32) (H : Heap) (locs : List Loc) (ls : Array Slot), f0_allShares_4 o S n x1 x3 = some z → zP D zC ad cA A S s H locs → lv_has ls 4 [(0, .ref (ad o)), (1, .long x1), (3, .int x3)] → W p l e (zrm 0 0) s m args below meth c H locs 0 0 (MQ below (zQl D zC ad cA A (z, S)) args s 0 0 A) (F0 m 4 ls []) := by
  have hx := C.1
  have hb := C.2.1
  intro n
  induction n with
  | zero =>
    intro x1 x3 H locs ls h
    cases h
  | succ n ih =>
    intro x1 x3 H locs ls h P hl
    unfold f0_allShares_4 at h
    refine lv_iload_n hx hb dX0_allShares_4 rfl (lv_at hl 2 rfl) ?_
    refine lv_aload_n hx hb dX0_allShares_5 rfl (lv_at hl 0 rfl) ?_
    refine gF0_9 C P ho.1 rfl dX0_allShares_6 ?_
    refine z_icmp_ge (tgt := 28) hx hb dX0_allShares_9 (by decide) h (fun h => ?_) (fun h => ?_)
    · refine lv_lload_n hx hb dX0_allShares_28 rfl (lv_at hl 1 rfl) ?_
      exact z_lret C P (by rw [Option.some.inj h]) dX0_allShares_29
    · refine lv_lload_n hx hb dX0_allShares_12 rfl (lv_at hl 1 rfl) ?_
      refine lv_aload_n hx hb dX0_allShares_13 rfl (lv_at hl 0 rfl) ?_
      refine gF0_15 C P ho.1 rfl dX0_allShares_14 ?_
      refine lv_iload_n hx hb dX0_allShares_17 rfl (lv_at hl 2 rfl) ?_
      refine z_iald C P ho.2.1 dX0_allShares_18 h (fun h hi => ?_)
      refine lv_i2l hx hb dX0_allShares_19 rfl ?_
      refine lv_ladd hx hb dX0_allShares_20 ?_
      refine z_topl h (fun v21 h => ?_)
      refine lv_lstore_n (lv' := [(1, .long v21), (0, .ref (ad o)), (3, .int x3)]) hx hb dX0_allShares_21 rfl hl (by decide) rfl (fun ls hl => ?_)
      obtain ⟨v22, ev22, h⟩ := z_nm h
      refine lv_iinc (v := v22) (lv' := [(3, .int v22), (1, .long v21), (0, .ref (ad o))]) hx hb dX0_allShares_22 hl (k := 2) rfl (by rw [ev22]; rfl) (by decide) rfl (fun ls hl => ?_)
      refine lv_goto (tgt := 4) hx hb dX0_allShares_25 (by decide) ?_
      exact ih _ _ _ _ _ h P (lv_sub hl [2, 1, 0] rfl)
theorem m0_allShares {l : Launch} {D : va_G} {cA : Nat → ClassId} {ad : Nat → Nat} {o : Nat} (ho : zPr o) {S : Zs} {z : Int64} (h : f0_allShares o S = some z) :
    zMl l yX0_allShares cX0_allShares 4 0 0 D zC ad cA S [.ref (ad o)] (z, S) := by
  refine z_enter (Qc := fun A => zQl D zC ad cA A (z, S)) (by decide +kernel) (Nat.le_of_ble_eq_true rfl) (fun p e s m below meth c A C P ls hl => ?_)
  have hx := C.1
  have hb := C.2.1
  have hl : lv_has ls 4 [(0, .ref (ad o))] := hl
  unfold f0_allShares at h
  refine lv_lconst (v := 0) hx hb dX0_allShares_0 (by decide) ?_
  refine lv_lstore_n (lv' := [(1, .long (0 : Int64)), (0, .ref (ad o))]) hx hb dX0_allShares_1 rfl hl (by decide) rfl (fun ls hl => ?_)
  refine lv_iconst (v := 0) hx hb dX0_allShares_2 (by decide) ?_
  refine lv_istore_n (lv' := [(3, .int (0 : Int32)), (1, .long (0 : Int64)), (0, .ref (ad o))]) hx hb dX0_allShares_3 rfl hl (by decide) rfl (fun ls hl => ?_)
  exact w0_allShares_4 C ho _ _ _ _ _ _ h P (lv_sub hl [2, 1, 0] rfl)
theorem w0_settleTwo_135 (C : zCx p s m args meth c cX0_settleTwo 11 RX0 none D ad cA A) {o : Nat} (ho : zPr o) {z : Zs} (x1 : Int64) (x3 : Int64) (S : Zs) (H : Heap) (locs : List Loc) (ls : Array Slot) (h : f0_settleTwo_135 o x1 x3 S = some z) (P : zP D zC ad cA A S s H locs) (hl : lv_has ls 11 [(0, .ref (ad o)), (1, .long x1), (3, .long x3)]) :
    W p l e (zrm 1 23) s m args below meth c H locs 0 0 (MQ below (zQv D zC ad cA A z) args s 0 0 A) (F0 m 135 ls []) := by
  have hx := C.1
  have hb := C.2.1
  unfold f0_settleTwo_135 at h
  refine lv_aload_n hx hb dX0_settleTwo_135 rfl (lv_at hl 0 rfl) ?_
  refine lv_lload_n hx hb dX0_settleTwo_136 rfl (lv_at hl 2 rfl) ?_
  refine lv_aload_n hx hb dX0_settleTwo_137 rfl (lv_at hl 0 rfl) ?_
  refine gF0_33 C P ho.1 rfl dX0_settleTwo_138 ?_
  refine lv_lmul hx hb dX0_settleTwo_141 ?_
  refine pF0_36 C P ho.1 rfl dX0_settleTwo_142 h (fun S142 H locs h P => ?_)
  refine lv_aload_n hx hb dX0_settleTwo_145 rfl (lv_at hl 0 rfl) ?_
  refine lv_lload_n hx hb dX0_settleTwo_146 rfl (lv_at hl 1 rfl) ?_
  refine lv_lload_n hx hb dX0_settleTwo_147 rfl (lv_at hl 2 rfl) ?_
  refine lv_lsub hx hb dX0_settleTwo_148 ?_
  refine lv_aload_n hx hb dX0_settleTwo_149 rfl (lv_at hl 0 rfl) ?_
  refine gF0_29 C P ho.1 rfl dX0_settleTwo_150 ?_
  refine lv_lmul hx hb dX0_settleTwo_153 ?_
  refine pF0_39 C P ho.1 rfl dX0_settleTwo_154 h (fun S154 H locs h P => ?_)
  exact z_vret C P (Option.some.inj h) dX0_settleTwo_157
theorem w0_settleTwo_10 (C : zCx p s m args meth c cX0_settleTwo 11 RX0 none D ad cA A) {o : Nat} (ho : zPr o) {z : Zs} :
    ∀ (n : Nat) (x1 : Int64) (x3 : Int64) (x5 : Int32) (S : Zs) (H : Heap) (locs : List Loc) (ls : Array Slot), f0_settleTwo_10 o n x1 x3 x5 S = some z → zP D zC ad cA A S s H locs → lv_has ls 11 [(0, .ref (ad o)), (1, .long x1), (3, .long x3), (5, .int x5)] → W p l e (zrm 1 23) s m args below meth c H locs 0 0 (MQ below (zQv D zC ad cA A z) args s 0 0 A) (F0 m 10 ls []) := by
  have hx := C.1
  have hb := C.2.1
  intro n
  induction n with
  | zero =>
    intro x1 x3 x5 S H locs ls h
    cases h
  | succ n ih =>
    intro x1 x3 x5 S H locs ls h P hl
    unfold f0_settleTwo_10 at h
    refine lv_iload hx hb dX0_settleTwo_10 (lv_at hl 3 rfl) ?_
    refine lv_aload_n hx hb dX0_settleTwo_12 rfl (lv_at hl 0 rfl) ?_
    refine gF0_9 C P ho.1 rfl dX0_settleTwo_13 ?_
    refine z_icmp_ge (tgt := 135) hx hb dX0_settleTwo_16 (by decide) h (fun h => ?_) (fun h => ?_)
    · exact w0_settleTwo_135 C ho _ _ _ _ _ _ h P (lv_sub hl [0, 1, 2] rfl)
    · refine lv_aload_n hx hb dX0_settleTwo_19 rfl (lv_at hl 0 rfl) ?_
      refine gF0_26 C P ho.1 rfl dX0_settleTwo_20 ?_
      refine lv_iload hx hb dX0_settleTwo_23 (lv_at hl 3 rfl) ?_
      refine z_iald C P ho.2.2.2.2 dX0_settleTwo_25 h (fun h hi => ?_)
      refine z_topi h (fun v26 h => ?_)
      refine lv_istore (lv' := [(6, .int v26), (0, .ref (ad o)), (1, .long x1), (3, .long x3), (5, .int x5)]) hx hb dX0_settleTwo_26 hl (by decide) rfl (fun ls hl => ?_)
      refine lv_aload_n hx hb dX0_settleTwo_28 rfl (lv_at hl 1 rfl) ?_
      refine gF0_29 C P ho.1 rfl dX0_settleTwo_29 ?_
      refine lv_aload_n hx hb dX0_settleTwo_32 rfl (lv_at hl 1 rfl) ?_
      refine gF0_23 C P ho.1 rfl dX0_settleTwo_33 ?_
      refine lv_iload hx hb dX0_settleTwo_36 (lv_at hl 0 rfl) ?_
      refine z_lald C P ho.2.2.2.1 dX0_settleTwo_38 h (fun h hi => ?_)
      refine lv_lmul hx hb dX0_settleTwo_39 ?_
      refine z_topl h (fun v40 h => ?_)
      refine lv_lstore (lv' := [(7, .long v40), (6, .int v26), (0, .ref (ad o)), (1, .long x1), (3, .long x3), (5, .int x5)]) hx hb dX0_settleTwo_40 hl (by decide) rfl (fun ls hl => ?_)
      refine lv_lload hx hb dX0_settleTwo_42 (lv_at hl 0 rfl) ?_
      refine lv_aload_n hx hb dX0_settleTwo_44 rfl (lv_at hl 2 rfl) ?_
      refine gF0_33 C P ho.1 rfl dX0_settleTwo_45 ?_
      refine lv_aload_n hx hb dX0_settleTwo_48 rfl (lv_at hl 2 rfl) ?_
      refine gF0_19 C P ho.1 rfl dX0_settleTwo_49 ?_
      refine lv_iload hx hb dX0_settleTwo_52 (lv_at hl 1 rfl) ?_
      refine z_lald C P ho.2.2.1 dX0_settleTwo_54 h (fun h hi => ?_)
      refine lv_lmul hx hb dX0_settleTwo_55 ?_
      refine lv_ladd hx hb dX0_settleTwo_56 ?_
      refine z_topl h (fun v57 h => ?_)
      refine lv_lstore (lv' := [(9, .long v57), (7, .long v40), (6, .int v26), (0, .ref (ad o)), (1, .long x1), (3, .long x3), (5, .int x5)]) hx hb dX0_settleTwo_57 hl (by decide) rfl (fun ls hl => ?_)
      refine lv_lload hx hb dX0_settleTwo_59 (lv_at hl 1 rfl) ?_
      refine lv_lload_n hx hb dX0_settleTwo_61 rfl (lv_at hl 4 rfl) ?_
      refine lv_lmul hx hb dX0_settleTwo_62 ?_
      refine lv_lload_n hx hb dX0_settleTwo_63 rfl (lv_at hl 5 rfl) ?_
      refine lv_lload hx hb dX0_settleTwo_64 (lv_at hl 0 rfl) ?_
      refine lv_lmul hx hb dX0_settleTwo_66 ?_
      refine z_lcmp_ge (tgt := 74) hx hb dX0_settleTwo_67 dX0_settleTwo_68 (by decide) h (fun h => ?_) (fun h => ?_)
      · refine lv_lload hx hb dX0_settleTwo_74 (lv_at hl 1 rfl) ?_
        refine lv_lload_n hx hb dX0_settleTwo_76 rfl (lv_at hl 4 rfl) ?_
        refine lv_lmul hx hb dX0_settleTwo_77 ?_
        refine lv_lload_n hx hb dX0_settleTwo_78 rfl (lv_at hl 5 rfl) ?_
        refine lv_aload_n hx hb dX0_settleTwo_79 rfl (lv_at hl 3 rfl) ?_
        refine gF0_15 C P ho.1 rfl dX0_settleTwo_80 ?_
        refine lv_iload hx hb dX0_settleTwo_83 (lv_at hl 2 rfl) ?_
        refine z_iald C P ho.2.1 dX0_settleTwo_85 h (fun h hi => ?_)
        refine lv_i2l hx hb dX0_settleTwo_86 rfl ?_
        refine lv_ladd hx hb dX0_settleTwo_87 ?_
        refine lv_lload hx hb dX0_settleTwo_88 (lv_at hl 0 rfl) ?_
        refine lv_lmul hx hb dX0_settleTwo_90 ?_
        refine z_lcmp_gt (tgt := 118) hx hb dX0_settleTwo_91 dX0_settleTwo_92 (by decide) h (fun h => ?_) (fun h => ?_)
        · refine lv_lload_n hx hb dX0_settleTwo_118 rfl (lv_at hl 5 rfl) ?_
          refine lv_aload_n hx hb dX0_settleTwo_119 rfl (lv_at hl 3 rfl) ?_
          refine gF0_15 C P ho.1 rfl dX0_settleTwo_120 ?_
          refine lv_iload hx hb dX0_settleTwo_123 (lv_at hl 2 rfl) ?_
          refine z_iald C P ho.2.1 dX0_settleTwo_125 h (fun h hi => ?_)
          refine lv_i2l hx hb dX0_settleTwo_126 rfl ?_
          refine lv_ladd hx hb dX0_settleTwo_127 ?_
          refine z_topl h (fun v128 h => ?_)
          refine lv_lstore_n (lv' := [(3, .long v128), (9, .long v57), (7, .long v40), (6, .int v26), (0, .ref (ad o)), (1, .long x1), (5, .int x5)]) hx hb dX0_settleTwo_128 rfl hl (by decide) rfl (fun ls hl => ?_)
          obtain ⟨v129, ev129, h⟩ := z_nm h
          refine lv_iinc (v := v129) (lv' := [(5, .int v129), (3, .long v128), (9, .long v57), (7, .long v40), (6, .int v26), (0, .ref (ad o)), (1, .long x1)]) hx hb dX0_settleTwo_129 hl (k := 6) rfl (by rw [ev129]; rfl) (by decide) rfl (fun ls hl => ?_)
          refine lv_goto (tgt := 10) hx hb dX0_settleTwo_132 (by decide) ?_
          exact ih _ _ _ _ _ _ _ h P (lv_sub hl [5, 6, 1, 0] rfl)
        · refine lv_aload_n hx hb dX0_settleTwo_95 rfl (lv_at hl 3 rfl) ?_
          refine lv_aload_n hx hb dX0_settleTwo_96 rfl (lv_at hl 3 rfl) ?_
          refine gF0_23 C P ho.1 rfl dX0_settleTwo_97 ?_
          refine lv_iload hx hb dX0_settleTwo_100 (lv_at hl 2 rfl) ?_
          refine z_lald C P ho.2.2.2.1 dX0_settleTwo_102 h (fun h hi => ?_)
          refine pF0_36 C P ho.1 rfl dX0_settleTwo_103 h (fun S103 H locs h P => ?_)
          refine lv_aload_n hx hb dX0_settleTwo_106 rfl (lv_at hl 3 rfl) ?_
          refine lv_aload_n hx hb dX0_settleTwo_107 rfl (lv_at hl 3 rfl) ?_
          refine gF0_19 C P ho.1 rfl dX0_settleTwo_108 ?_
          refine lv_iload hx hb dX0_settleTwo_111 (lv_at hl 2 rfl) ?_
          refine z_lald C P ho.2.2.1 dX0_settleTwo_113 h (fun h hi => ?_)
          refine pF0_39 C P ho.1 rfl dX0_settleTwo_114 h (fun S114 H locs h P => ?_)
          exact z_vret C P (Option.some.inj h) dX0_settleTwo_117
      · refine lv_goto (tgt := 135) hx hb dX0_settleTwo_71 (by decide) ?_
        exact w0_settleTwo_135 C ho _ _ _ _ _ _ h P (lv_sub hl [3, 4, 5] rfl)
theorem m0_settleTwo {l : Launch} {D : va_G} {cA : Nat → ClassId} {ad : Nat → Nat} {o : Nat} (ho : zPr o) {S : Zs} {z : Zs} (h : f0_settleTwo o S = some z) :
    zMv l yX0_settleTwo cX0_settleTwo 11 1 23 D zC ad cA S [.ref (ad o)] z := by
  refine z_enter (Qc := fun A => zQv D zC ad cA A z) (by decide +kernel) (Nat.le_of_ble_eq_true rfl) (fun p e s m below meth c A C P ls hl => ?_)
  have hx := C.1
  have hb := C.2.1
  have hl : lv_has ls 11 [(0, .ref (ad o))] := hl
  unfold f0_settleTwo at h
  refine lv_aload_n hx hb dX0_settleTwo_0 rfl (lv_at hl 0 rfl) ?_
  obtain ⟨r1, g1, h⟩ := bd1_some h
  refine z_callVl C P (As := []) (m0_allShares ho g1) cW0_59 rfl ho.1 rfl (by decide) hl.1 rfl (Nat.le_of_ble_eq_true rfl) dX0_settleTwo_1 ⟨Nat.zero_le _, Nat.zero_le _⟩ (fun H locs P => ?_)
  refine lv_lstore_n (lv' := [(1, .long r1), (0, .ref (ad o))]) hx hb dX0_settleTwo_4 rfl hl (by decide) rfl (fun ls hl => ?_)
  refine lv_lconst (v := 0) hx hb dX0_settleTwo_5 (by decide) ?_
  refine lv_lstore_n (lv' := [(3, .long (0 : Int64)), (1, .long r1), (0, .ref (ad o))]) hx hb dX0_settleTwo_6 rfl hl (by decide) rfl (fun ls hl => ?_)
  refine lv_iconst (v := 0) hx hb dX0_settleTwo_7 (by decide) ?_
  refine lv_istore (lv' := [(5, .int (0 : Int32)), (3, .long (0 : Int64)), (1, .long r1), (0, .ref (ad o))]) hx hb dX0_settleTwo_8 hl (by decide) rfl (fun ls hl => ?_)
  exact w0_settleTwo_10 C ho _ _ _ _ _ _ _ _ h P (lv_sub hl [3, 2, 1, 0] rfl)
theorem w0_cut_64 (C : zCx p s m args meth c cX0_cut 8 RX0 (some .int) D ad cA A) {o : Nat} (ho : zPr o) {z : Int32} {S : Zs} {k6 : Int32 → Int32 → Int32 → Option Int32} (hk6 : ∀ (x1 : Int32) (x2 : Int32) (x3 : Int32) (H : Heap) (locs : List Loc) (ls : Array Slot), k6 x1 x2 x3 = some z → zP D zC ad cA A S s H locs → lv_has ls 8 [(0, .ref (ad o)), (1, .int x1), (2, .int x2), (3, .int x3)] → W p l e (zrm 0 0) s m args below meth c H locs 0 0 (MQ below (zQi D zC ad cA A (z, S)) args s 0 0 A) (F0 m 6 ls [])) (x1 : Int32) (x2 : Int32) (x3 : Int32) (H : Heap) (locs : List Loc) (ls : Array Slot) (h : f0_cut_64 o S k6 x1 x2 x3 = some z) (P : zP D zC ad cA A S s H locs) (hl : lv_has ls 8 [(0, .ref (ad o)), (1, .int x1), (2, .int x2), (3, .int x3)]) :
    W p l e (zrm 0 0) s m args below meth c H locs 0 0 (MQ below (zQi D zC ad cA A (z, S)) args s 0 0 A) (F0 m 64 ls []) := by
  have hx := C.1
  have hb := C.2.1
  unfold f0_cut_64 at h
  obtain ⟨v64, ev64, h⟩ := z_nm h
  refine lv_iinc (v := v64) (lv' := [(3, .int v64), (0, .ref (ad o)), (1, .int x1), (2, .int x2)]) hx hb dX0_cut_64 hl (k := 3) rfl (by rw [ev64]; rfl) (by decide) rfl (fun ls hl => ?_)
  refine lv_goto (tgt := 6) hx hb dX0_cut_67 (by decide) ?_
  exact hk6 _ _ _ _ _ _ h P (lv_sub hl [1, 2, 3, 0] rfl)
theorem w0_cut_6 (C : zCx p s m args meth c cX0_cut 8 RX0 (some .int) D ad cA A) {o : Nat} (ho : zPr o) {z : Int32} {S : Zs} :
    ∀ (n : Nat) (x1 : Int32) (x2 : Int32) (x3 : Int32) (H : Heap) (locs : List Loc) (ls : Array Slot), f0_cut_6 o S n x1 x2 x3 = some z → zP D zC ad cA A S s H locs → lv_has ls 8 [(0, .ref (ad o)), (1, .int x1), (2, .int x2), (3, .int x3)] → W p l e (zrm 0 0) s m args below meth c H locs 0 0 (MQ below (zQi D zC ad cA A (z, S)) args s 0 0 A) (F0 m 6 ls []) := by
  have hx := C.1
  have hb := C.2.1
  intro n
  induction n with
  | zero =>
    intro x1 x2 x3 H locs ls h
    cases h
  | succ n ih =>
    intro x1 x2 x3 H locs ls h P hl
    unfold f0_cut_6 at h
    refine lv_iload_n hx hb dX0_cut_6 rfl (lv_at hl 3 rfl) ?_
    refine lv_aload_n hx hb dX0_cut_7 rfl (lv_at hl 0 rfl) ?_
    refine gF0_9 C P ho.1 rfl dX0_cut_8 ?_
    refine z_icmp_ge (tgt := 70) hx hb dX0_cut_11 (by decide) h (fun h => ?_) (fun h => ?_)
    · refine lv_iconst (v := 2) hx hb dX0_cut_70 (by decide) ?_
      refine lv_iload_n hx hb dX0_cut_71 rfl (lv_at hl 1 rfl) ?_
      refine lv_imul hx hb dX0_cut_72 ?_
      refine lv_iload_n hx hb dX0_cut_73 rfl (lv_at hl 2 rfl) ?_
      refine lv_iadd hx hb dX0_cut_74 ?_
      exact z_iret C P (by rw [Option.some.inj h]) dX0_cut_75
    · refine lv_aload_n hx hb dX0_cut_14 rfl (lv_at hl 0 rfl) ?_
      refine gF0_19 C P ho.1 rfl dX0_cut_15 ?_
      refine lv_iload_n hx hb dX0_cut_18 rfl (lv_at hl 3 rfl) ?_
      refine z_lald C P ho.2.2.1 dX0_cut_19 h (fun h hi => ?_)
      refine lv_aload_n hx hb dX0_cut_20 rfl (lv_at hl 0 rfl) ?_
      refine gF0_36 C P ho.1 rfl dX0_cut_21 ?_
      refine lv_lmul hx hb dX0_cut_24 ?_
      refine z_topl h (fun v25 h => ?_)
      refine lv_lstore (lv' := [(4, .long v25), (0, .ref (ad o)), (1, .int x1), (2, .int x2), (3, .int x3)]) hx hb dX0_cut_25 hl (by decide) rfl (fun ls hl => ?_)
      refine lv_aload_n hx hb dX0_cut_27 rfl (lv_at hl 1 rfl) ?_
      refine gF0_23 C P ho.1 rfl dX0_cut_28 ?_
      refine lv_iload_n hx hb dX0_cut_31 rfl (lv_at hl 4 rfl) ?_
      refine z_lald C P ho.2.2.2.1 dX0_cut_32 h (fun h hi => ?_)
      refine lv_aload_n hx hb dX0_cut_33 rfl (lv_at hl 1 rfl) ?_
      refine gF0_39 C P ho.1 rfl dX0_cut_34 ?_
      refine lv_lmul hx hb dX0_cut_37 ?_
      refine z_topl h (fun v38 h => ?_)
      refine lv_lstore (lv' := [(6, .long v38), (4, .long v25), (0, .ref (ad o)), (1, .int x1), (2, .int x2), (3, .int x3)]) hx hb dX0_cut_38 hl (by decide) rfl (fun ls hl => ?_)
      refine lv_lload hx hb dX0_cut_40 (lv_at hl 1 rfl) ?_
      refine lv_lload hx hb dX0_cut_42 (lv_at hl 0 rfl) ?_
      refine z_lcmp_ge (tgt := 54) hx hb dX0_cut_44 dX0_cut_45 (by decide) h (fun h => ?_) (fun h => ?_)
      · refine lv_lload hx hb dX0_cut_54 (lv_at hl 1 rfl) ?_
        refine lv_lload hx hb dX0_cut_56 (lv_at hl 0 rfl) ?_
        refine z_lcmp_ne (tgt := 64) hx hb dX0_cut_58 dX0_cut_59 (by decide) h (fun h => ?_) (fun h => ?_)
        · exact w0_cut_64 C ho ih _ _ _ _ _ _ h P (lv_sub hl [2, 3, 4, 5] rfl)
        · refine lv_iconst (v := 1) hx hb dX0_cut_62 (by decide) ?_
          refine lv_istore_n (lv' := [(2, .int (1 : Int32)), (6, .long v38), (4, .long v25), (0, .ref (ad o)), (1, .int x1), (3, .int x3)]) hx hb dX0_cut_63 rfl hl (by decide) rfl (fun ls hl => ?_)
          exact w0_cut_64 C ho ih _ _ _ _ _ _ h P (lv_sub hl [3, 4, 0, 5] rfl)
      · obtain ⟨v48, ev48, h⟩ := z_nm h
        refine lv_iinc (v := v48) (lv' := [(1, .int v48), (6, .long v38), (4, .long v25), (0, .ref (ad o)), (2, .int x2), (3, .int x3)]) hx hb dX0_cut_48 hl (k := 3) rfl (by rw [ev48]; rfl) (by decide) rfl (fun ls hl => ?_)
        refine lv_goto (tgt := 64) hx hb dX0_cut_51 (by decide) ?_
        exact w0_cut_64 C ho ih _ _ _ _ _ _ h P (lv_sub hl [3, 0, 4, 5] rfl)
theorem m0_cut {l : Launch} {D : va_G} {cA : Nat → ClassId} {ad : Nat → Nat} {o : Nat} (ho : zPr o) {S : Zs} {z : Int32} (h : f0_cut o S = some z) :
    zMi l yX0_cut cX0_cut 8 0 0 D zC ad cA S [.ref (ad o)] (z, S) := by
  refine z_enter (Qc := fun A => zQi D zC ad cA A (z, S)) (by decide +kernel) (Nat.le_of_ble_eq_true rfl) (fun p e s m below meth c A C P ls hl => ?_)
  have hx := C.1
  have hb := C.2.1
  have hl : lv_has ls 8 [(0, .ref (ad o))] := hl
  unfold f0_cut at h
  refine lv_iconst (v := 0) hx hb dX0_cut_0 (by decide) ?_
  refine lv_istore_n (lv' := [(1, .int (0 : Int32)), (0, .ref (ad o))]) hx hb dX0_cut_1 rfl hl (by decide) rfl (fun ls hl => ?_)
  refine lv_iconst (v := 0) hx hb dX0_cut_2 (by decide) ?_
  refine lv_istore_n (lv' := [(2, .int (0 : Int32)), (1, .int (0 : Int32)), (0, .ref (ad o))]) hx hb dX0_cut_3 rfl hl (by decide) rfl (fun ls hl => ?_)
  refine lv_iconst (v := 0) hx hb dX0_cut_4 (by decide) ?_
  refine lv_istore_n (lv' := [(3, .int (0 : Int32)), (2, .int (0 : Int32)), (1, .int (0 : Int32)), (0, .ref (ad o))]) hx hb dX0_cut_5 rfl hl (by decide) rfl (fun ls hl => ?_)
  exact w0_cut_6 C ho _ _ _ _ _ _ _ h P (lv_sub hl [3, 2, 1, 0] rfl)
theorem m6_chain {l : Launch} {D : va_G} {cA : Nat → ClassId} {ad : Nat → Nat} {x1 : Int32} {x2 : Int32} {x3 : Int32} {S : Zs} {z : Int64 × Zs} (h : f6_chain x1 x2 x3 S = some z) :
    zMl l yX6_chain cX6_chain 4 2 53 D zC ad cA S [.ref (ad 0), .int x1, .int x2, .int x3] z := by
  refine z_enter (Qc := fun A => zQl D zC ad cA A z) (by decide +kernel) (Nat.le_of_ble_eq_true rfl) (fun p e s m below meth c A C P ls hl => ?_)
  have hx := C.1
  have hb := C.2.1
  have hl : lv_has ls 4 [(0, .ref (ad 0)), (1, .int x1), (2, .int x2), (3, .int x3)] := hl
  unfold f6_chain at h
  refine lv_aload_n hx hb dX6_chain_0 rfl (lv_at hl 0 rfl) ?_
  refine gF6_47 C P zs0 rfl dX6_chain_1 ?_
  refine lv_iload_n hx hb dX6_chain_4 rfl (lv_at hl 1 rfl) ?_
  refine z_callVb C P (As := [.int x1]) (m5_isLand zW_37) cW6_151 rfl zW_37.1 rfl (by decide) hl.1 rfl (Nat.le_of_ble_eq_true rfl) dX6_chain_5 ⟨Nat.zero_le _, Nat.zero_le _⟩ (fun H locs n5 P => ?_)
  refine z_if_eq (tgt := 32) hx hb dX6_chain_8 (by decide) h (fun h => ?_) (fun h => ?_)
  · refine lv_ldc2 (v := (-9000000000000000001)) hx hb C.2.2.2.1 (C.2.2.2.2.1 _ kK6_80) dX6_chain_32 ?_
    exact z_lret C P (Option.some.inj h) dX6_chain_35
  · refine lv_aload_n hx hb dX6_chain_11 rfl (lv_at hl 0 rfl) ?_
    refine gF6_47 C P zs0 rfl dX6_chain_12 ?_
    refine lv_iload_n hx hb dX6_chain_15 rfl (lv_at hl 2 rfl) ?_
    refine z_callVb C P (As := [.int x2]) (m5_isLand zW_37) cW6_151 rfl zW_37.1 rfl (by decide) hl.1 rfl (Nat.le_of_ble_eq_true rfl) dX6_chain_16 ⟨Nat.zero_le _, Nat.zero_le _⟩ (fun H locs n16 P => ?_)
    refine z_if_eq (tgt := 32) hx hb dX6_chain_19 (by decide) h (fun h => ?_) (fun h => ?_)
    · refine lv_ldc2 (v := (-9000000000000000001)) hx hb C.2.2.2.1 (C.2.2.2.2.1 _ kK6_80) dX6_chain_32 ?_
      exact z_lret C P (Option.some.inj h) dX6_chain_35
    · refine lv_iload_n hx hb dX6_chain_22 rfl (lv_at hl 1 rfl) ?_
      refine lv_iload_n hx hb dX6_chain_23 rfl (lv_at hl 2 rfl) ?_
      refine z_icmp_eq (tgt := 32) hx hb dX6_chain_24 (by decide) h (fun h => ?_) (fun h => ?_)
      · refine lv_ldc2 (v := (-9000000000000000001)) hx hb C.2.2.2.1 (C.2.2.2.2.1 _ kK6_80) dX6_chain_32 ?_
        exact z_lret C P (Option.some.inj h) dX6_chain_35
      · refine lv_iload_n hx hb dX6_chain_27 rfl (lv_at hl 3 rfl) ?_
        refine lv_iconst (v := (-1)) hx hb dX6_chain_28 (by decide) ?_
        refine z_icmp_ge (tgt := 36) hx hb dX6_chain_29 (by decide) h (fun h => ?_) (fun h => ?_)
        · refine lv_iload_n hx hb dX6_chain_36 rfl (lv_at hl 3 rfl) ?_
          refine lv_aload_n hx hb dX6_chain_37 rfl (lv_at hl 0 rfl) ?_
          refine gF6_47 C P zs0 rfl dX6_chain_38 ?_
          refine gF6_203 C P zW_37.1 rfl dX6_chain_41 ?_
          refine z_icmp_lt (tgt := 51) hx hb dX6_chain_44 (by decide) h (fun h => ?_) (fun h => ?_)
          · refine lv_aload_n hx hb dX6_chain_51 rfl (lv_at hl 0 rfl) ?_
            refine gF6_40 C P zs0 rfl dX6_chain_52 ?_
            refine lv_aload_n hx hb dX6_chain_55 rfl (lv_at hl 0 rfl) ?_
            refine gF6_47 C P zs0 rfl dX6_chain_56 ?_
            refine lv_iload_n hx hb dX6_chain_59 rfl (lv_at hl 1 rfl) ?_
            refine lv_iload_n hx hb dX6_chain_60 rfl (lv_at hl 2 rfl) ?_
            obtain ⟨S61, g61, h⟩ := bd1_some h
            refine z_callVv C P (As := [.ref (ad 37), .int x1, .int x2]) (m0_layTwo zPr_32 zW_37 g61) cW6_208 rfl zPr_32.1 rfl (by decide) hl.1 rfl (Nat.le_of_ble_eq_true rfl) dX6_chain_61 ⟨Nat.zero_le _, Nat.zero_le _⟩ (fun H locs P => ?_)
            refine lv_aload_n hx hb dX6_chain_64 rfl (lv_at hl 0 rfl) ?_
            refine gF6_40 C P zs0 rfl dX6_chain_65 ?_
            obtain ⟨S68, g68, h⟩ := bd1_some h
            refine z_callVv C P (As := []) (m0_sort zPr_32 g68) cW6_212 rfl zPr_32.1 rfl (by decide) hl.1 rfl (Nat.le_of_ble_eq_true rfl) dX6_chain_68 ⟨Nat.zero_le _, Nat.zero_le _⟩ (fun H locs P => ?_)
            refine lv_iload_n hx hb dX6_chain_71 rfl (lv_at hl 3 rfl) ?_
            refine z_if_lt (tgt := 86) hx hb dX6_chain_72 (by decide) h (fun h => ?_) (fun h => ?_)
            · refine lv_aload_n hx hb dX6_chain_86 rfl (lv_at hl 0 rfl) ?_
              refine gF6_40 C P zs0 rfl dX6_chain_87 ?_
              obtain ⟨S90, g90, h⟩ := bd1_some h
              refine z_callVv C P (As := []) (m0_settleTwo zPr_32 g90) cW6_218 rfl zPr_32.1 rfl (by decide) hl.1 rfl (Nat.le_of_ble_eq_true rfl) dX6_chain_90 ⟨Nat.zero_le _, Nat.zero_le _⟩ (fun H locs P => ?_)
              refine lv_aload_n hx hb dX6_chain_93 rfl (lv_at hl 0 rfl) ?_
              refine gF6_40 C P zs0 rfl dX6_chain_94 ?_
              obtain ⟨r97, g97, h⟩ := bd1_some h
              refine z_callVi C P (As := []) (m0_cut zPr_32 g97) cW6_221 rfl zPr_32.1 rfl (by decide) hl.1 rfl (Nat.le_of_ble_eq_true rfl) dX6_chain_97 ⟨Nat.zero_le _, Nat.zero_le _⟩ (fun H locs P => ?_)
              refine lv_i2l hx hb dX6_chain_100 rfl ?_
              exact z_lret C P (Option.some.inj h) dX6_chain_101
            · refine lv_aload_n hx hb dX6_chain_75 rfl (lv_at hl 0 rfl) ?_
              refine gF6_40 C P zs0 rfl dX6_chain_76 ?_
              refine gF6_215 C P zPr_32.1 rfl dX6_chain_79 ?_
              refine lv_iload_n hx hb dX6_chain_82 rfl (lv_at hl 3 rfl) ?_
              refine z_iald C P zPr_32.2.2.2.2 dX6_chain_83 h (fun h hi => ?_)
              refine lv_i2l hx hb dX6_chain_84 rfl ?_
              exact z_lret C P (Option.some.inj h) dX6_chain_85
          · refine lv_ldc2 (v := (-1000000)) hx hb C.2.2.2.1 (C.2.2.2.2.1 _ kK6_206) dX6_chain_47 ?_
            exact z_lret C P (Option.some.inj h) dX6_chain_50
        · refine lv_ldc2 (v := (-9000000000000000001)) hx hb C.2.2.2.1 (C.2.2.2.2.1 _ kK6_80) dX6_chain_32 ?_
          exact z_lret C P (Option.some.inj h) dX6_chain_35
theorem m6_landOfRing {l : Launch} {D : va_G} {cA : Nat → ClassId} {ad : Nat → Nat} {x0 : Int32} {x1 : Int32} {S : Zs} :
    zMi l yX6_landOfRing cX6_landOfRing 2 0 0 D zC ad cA S [.int x0, .int x1] (f6_landOfRing x0 x1, S) := by
  obtain ⟨z, h⟩ : ∃ z, f6_landOfRing x0 x1 = z := ⟨_, rfl⟩
  rw [h]
  refine z_enter (Qc := fun A => zQi D zC ad cA A (z, S)) (by decide +kernel) (Nat.le_of_ble_eq_true rfl) (fun p e s m below meth c A C P ls hl => ?_)
  have hx := C.1
  have hb := C.2.1
  have hl : lv_has ls 2 [(0, .int x0), (1, .int x1)] := hl
  unfold f6_landOfRing at h
  refine lv_iload_n hx hb dX6_landOfRing_0 rfl (lv_at hl 0 rfl) ?_
  refine lv_iconst (v := 3) hx hb dX6_landOfRing_1 (by decide) ?_
  refine lv_iload_n hx hb dX6_landOfRing_2 rfl (lv_at hl 1 rfl) ?_
  refine lv_imul hx hb dX6_landOfRing_3 ?_
  refine lv_ishr hx hb dX6_landOfRing_4 ?_
  refine lv_bipush (v := 7) hx hb dX6_landOfRing_5 (by decide) ?_
  refine lv_iand hx hb dX6_landOfRing_7 ?_
  refine lv_iconst (v := 1) hx hb dX6_landOfRing_8 (by decide) ?_
  refine lv_isub hx hb dX6_landOfRing_9 ?_
  exact z_iret C P (by rw [h]) dX6_landOfRing_10
end ZVC2
