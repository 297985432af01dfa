section ZVC1
variable {p : Program} {l : Launch} {e : Env} {s : State} {m : MethodId} {args : Array Value} {below : List Frame} {meth : Method} {c : Code} {D : va_G} {cA : Nat → ClassId} {A : Nat → Prop} {ad : Nat → Nat}
theorem m3_isFigure {l : Launch} {D : va_G} {cA : Nat → ClassId} {ad : Nat → Nat} {x0 : Int32} {S : Zs} :
    zMb l yX3_isFigure cX3_isFigure 1 0 0 D zC ad cA S [.int x0] (f3_isFigure x0, S) := by
  obtain ⟨z, h⟩ : ∃ z, f3_isFigure x0 = z := ⟨_, rfl⟩
  rw [h]
  refine z_enter (Qc := fun A => zQb D zC ad cA A (z, S)) (by decide +kernel) (Nat.le_of_ble_eq_true rfl) (fun p e s m below meth c A C P ls hl => ?_)
  have hx := C.1
  have hb := C.2.1
  have hl : lv_has ls 1 [(0, .int x0)] := hl
  unfold f3_isFigure at h
  refine lv_iload_n hx hb dX3_isFigure_0 rfl (lv_at hl 0 rfl) ?_
  refine lv_bipush (v := 48) hx hb dX3_isFigure_1 (by decide) ?_
  refine z_icmp_lt (tgt := 16) hx hb dX3_isFigure_3 (by decide) h (fun h => ?_) (fun h => ?_)
  · refine lv_iconst (v := 0) hx hb dX3_isFigure_16 (by decide) ?_
    exact z_zret C P (by rw [h]) (by decide) dX3_isFigure_17
  · refine lv_iload_n hx hb dX3_isFigure_6 rfl (lv_at hl 0 rfl) ?_
    refine lv_bipush (v := 57) hx hb dX3_isFigure_7 (by decide) ?_
    refine z_icmp_gt (tgt := 16) hx hb dX3_isFigure_9 (by decide) h (fun h => ?_) (fun h => ?_)
    · refine lv_iconst (v := 0) hx hb dX3_isFigure_16 (by decide) ?_
      exact z_zret C P (by rw [h]) (by decide) dX3_isFigure_17
    · refine lv_iconst (v := 1) hx hb dX3_isFigure_12 (by decide) ?_
      refine lv_goto (tgt := 17) hx hb dX3_isFigure_13 (by decide) ?_
      exact z_zret C P (by rw [h]) (by decide) dX3_isFigure_17
theorem w3_takeNumber_100 (C : zCx p s m args meth c cX3_takeNumber 1 RX3 none D ad cA A) {z : Zs} (t0 : Int32) (S : Zs) (H : Heap) (locs : List Loc) (ls : Array Slot) (h : f3_takeNumber_100 t0 S = some z) (P : zP D zC ad cA A S s H locs) (hl : lv_has ls 1 [(0, .ref (ad 13))]) :
    W p l e (zrm 1 20) s m args below meth c H locs 0 0 (MQ below (zQv D zC ad cA A z) args s 0 0 A) (F0 m 100 ls [.int t0, .ref (ad 13)]) := by
  have hx := C.1
  have hb := C.2.1
  unfold f3_takeNumber_100 at h
  refine pF3_31 C P zs13 rfl dX3_takeNumber_100 h (fun S100 H locs h P => ?_)
  exact z_vret C P (Option.some.inj h) dX3_takeNumber_103
theorem w3_takeNumber_81 (C : zCx p s m args meth c cX3_takeNumber 1 RX3 none D ad cA A) {z : Zs} (S : Zs) (H : Heap) (locs : List Loc) (ls : Array Slot) (h : f3_takeNumber_81 S = some z) (P : zP D zC ad cA A S s H locs) (hl : lv_has ls 1 [(0, .ref (ad 13))]) :
    W p l e (zrm 1 20) s m args below meth c H locs 0 0 (MQ below (zQv D zC ad cA A z) args s 0 0 A) (F0 m 81 ls []) := by
  have hx := C.1
  have hb := C.2.1
  unfold f3_takeNumber_81 at h
  refine lv_aload_n hx hb dX3_takeNumber_81 rfl (lv_at hl 0 rfl) ?_
  refine lv_aload_n hx hb dX3_takeNumber_82 rfl (lv_at hl 0 rfl) ?_
  refine gF3_28 C P zs13 rfl dX3_takeNumber_83 ?_
  refine lv_aload_n hx hb dX3_takeNumber_86 rfl (lv_at hl 0 rfl) ?_
  refine gF3_25 C P zs13 rfl dX3_takeNumber_87 ?_
  refine lv_isub hx hb dX3_takeNumber_90 ?_
  refine lv_iconst (v := 2) hx hb dX3_takeNumber_91 (by decide) ?_
  refine z_icmp_gt (tgt := 99) hx hb dX3_takeNumber_92 (by decide) h (fun h => ?_) (fun h => ?_)
  · refine lv_iconst (v := 5) hx hb dX3_takeNumber_99 (by decide) ?_
    exact w3_takeNumber_100 C _ _ _ _ _ h P (lv_sub hl [0] rfl)
  · refine lv_iconst (v := 3) hx hb dX3_takeNumber_95 (by decide) ?_
    refine lv_goto (tgt := 100) hx hb dX3_takeNumber_96 (by decide) ?_
    exact w3_takeNumber_100 C _ _ _ _ _ h P (lv_sub hl [0] rfl)
theorem w3_takeNumber_68 (C : zCx p s m args meth c cX3_takeNumber 1 RX3 none D ad cA A) {z : Zs} {k5 : Zs → Option Zs} (hk5 : ∀ (S : Zs) (H : Heap) (locs : List Loc) (ls : Array Slot), k5 S = some z → zP D zC ad cA A S s H locs → lv_has ls 1 [(0, .ref (ad 13))] → W p l e (zrm 1 20) s m args below meth c H locs 0 0 (MQ below (zQv D zC ad cA A z) args s 0 0 A) (F0 m 5 ls [])) (S : Zs) (H : Heap) (locs : List Loc) (ls : Array Slot) (h : f3_takeNumber_68 k5 S = some z) (P : zP D zC ad cA A S s H locs) (hl : lv_has ls 1 [(0, .ref (ad 13))]) :
    W p l e (zrm 1 20) s m args below meth c H locs 0 0 (MQ below (zQv D zC ad cA A z) args s 0 0 A) (F0 m 68 ls []) := by
  have hx := C.1
  have hb := C.2.1
  unfold f3_takeNumber_68 at h
  refine lv_aload_n hx hb dX3_takeNumber_68 rfl (lv_at hl 0 rfl) ?_
  refine lv_dup hx hb dX3_takeNumber_69 rfl ?_
  refine gF3_28 C P zs13 rfl dX3_takeNumber_70 ?_
  refine lv_iconst (v := 1) hx hb dX3_takeNumber_73 (by decide) ?_
  refine lv_iadd hx hb dX3_takeNumber_74 ?_
  refine pF3_28 C P zs13 rfl dX3_takeNumber_75 h (fun S75 H locs h P => ?_)
  refine lv_goto (tgt := 5) hx hb dX3_takeNumber_78 (by decide) ?_
  exact hk5 _ _ _ _ h P (lv_sub hl [0] rfl)
theorem w3_takeNumber_5 (C : zCx p s m args meth c cX3_takeNumber 1 RX3 none D ad cA A) {z : Zs} :
    ∀ (n : Nat) (S : Zs) (H : Heap) (locs : List Loc) (ls : Array Slot), f3_takeNumber_5 n S = some z → zP D zC ad cA A S s H locs → lv_has ls 1 [(0, .ref (ad 13))] → W p l e (zrm 1 20) s m args below meth c H locs 0 0 (MQ below (zQv D zC ad cA A z) args s 0 0 A) (F0 m 5 ls []) := by
  have hx := C.1
  have hb := C.2.1
  intro n
  induction n with
  | zero =>
    intro S H locs ls h
    cases h
  | succ n ih =>
    intro S H locs ls h P hl
    unfold f3_takeNumber_5 at h
    refine lv_aload_n hx hb dX3_takeNumber_5 rfl (lv_at hl 0 rfl) ?_
    refine gF3_28 C P zs13 rfl dX3_takeNumber_6 ?_
    refine lv_aload_n hx hb dX3_takeNumber_9 rfl (lv_at hl 0 rfl) ?_
    refine gF3_15 C P zs13 rfl dX3_takeNumber_10 ?_
    refine z_icmp_ge (tgt := 81) hx hb dX3_takeNumber_13 (by decide) h (fun h => ?_) (fun h => ?_)
    · exact w3_takeNumber_81 C _ _ _ _ h P (lv_sub hl [0] rfl)
    · refine lv_aload_n hx hb dX3_takeNumber_16 rfl (lv_at hl 0 rfl) ?_
      refine gF3_11 C P zs13 rfl dX3_takeNumber_17 ?_
      refine lv_aload_n hx hb dX3_takeNumber_20 rfl (lv_at hl 0 rfl) ?_
      refine gF3_28 C P zs13 rfl dX3_takeNumber_21 ?_
      refine z_bald C P zs14 dX3_takeNumber_24 h (fun h hi => ?_)
      refine z_callSb C P (As := [.int (S.1 14 (S.1 13 5).toNatClampNeg)]) (m3_isFigure) cW3_84 rfl (by decide) hl.1 rfl (Nat.le_of_ble_eq_true rfl) dX3_takeNumber_25 ⟨Nat.zero_le _, Nat.zero_le _⟩ (fun H locs n25 P => ?_)
      refine z_if_eq (tgt := 81) hx hb dX3_takeNumber_28 (by decide) h (fun h => ?_) (fun h => ?_)
      · exact w3_takeNumber_81 C _ _ _ _ h P (lv_sub hl [0] rfl)
      · refine lv_aload_n hx hb dX3_takeNumber_31 rfl (lv_at hl 0 rfl) ?_
        refine gF3_28 C P zs13 rfl dX3_takeNumber_32 ?_
        refine lv_aload_n hx hb dX3_takeNumber_35 rfl (lv_at hl 0 rfl) ?_
        refine gF3_25 C P zs13 rfl dX3_takeNumber_36 ?_
        refine lv_isub hx hb dX3_takeNumber_39 ?_
        refine lv_iconst (v := 2) hx hb dX3_takeNumber_40 (by decide) ?_
        refine z_icmp_ge (tgt := 68) hx hb dX3_takeNumber_41 (by decide) h (fun h => ?_) (fun h => ?_)
        · exact w3_takeNumber_68 C ih _ _ _ _ h P (lv_sub hl [0] rfl)
        · refine lv_aload_n hx hb dX3_takeNumber_44 rfl (lv_at hl 0 rfl) ?_
          refine lv_aload_n hx hb dX3_takeNumber_45 rfl (lv_at hl 0 rfl) ?_
          refine gF3_34 C P zs13 rfl dX3_takeNumber_46 ?_
          refine lv_bipush (v := 10) hx hb dX3_takeNumber_49 (by decide) ?_
          refine lv_imul hx hb dX3_takeNumber_51 ?_
          refine lv_aload_n hx hb dX3_takeNumber_52 rfl (lv_at hl 0 rfl) ?_
          refine gF3_11 C P zs13 rfl dX3_takeNumber_53 ?_
          refine lv_aload_n hx hb dX3_takeNumber_56 rfl (lv_at hl 0 rfl) ?_
          refine gF3_28 C P zs13 rfl dX3_takeNumber_57 ?_
          refine z_bald C P zs14 dX3_takeNumber_60 h (fun h hi => ?_)
          refine lv_bipush (v := 48) hx hb dX3_takeNumber_61 (by decide) ?_
          refine lv_isub hx hb dX3_takeNumber_63 ?_
          refine lv_iadd hx hb dX3_takeNumber_64 ?_
          refine pF3_34 C P zs13 rfl dX3_takeNumber_65 h (fun S65 H locs h P => ?_)
          exact w3_takeNumber_68 C ih _ _ _ _ h P (lv_sub hl [0] rfl)
theorem m3_takeNumber {l : Launch} {D : va_G} {cA : Nat → ClassId} {ad : Nat → Nat} {S : Zs} {z : Zs} (h : f3_takeNumber S = some z) :
    zMv l yX3_takeNumber cX3_takeNumber 1 1 20 D zC ad cA S [.ref (ad 13)] z := by
  refine z_enter (Qc := fun A => zQv D zC ad cA A z) (by decide +kernel) (Nat.le_of_ble_eq_true rfl) (fun p e s m below meth c A C P ls hl => ?_)
  have hx := C.1
  have hb := C.2.1
  have hl : lv_has ls 1 [(0, .ref (ad 13))] := hl
  unfold f3_takeNumber at h
  refine lv_aload_n hx hb dX3_takeNumber_0 rfl (lv_at hl 0 rfl) ?_
  refine lv_iconst (v := 0) hx hb dX3_takeNumber_1 (by decide) ?_
  refine pF3_34 C P zs13 rfl dX3_takeNumber_2 h (fun S2 H locs h P => ?_)
  exact w3_takeNumber_5 C _ _ _ _ _ h P (lv_sub hl [0] rfl)
theorem w3_step_151 (C : zCx p s m args meth c cX3_step 1 RX3 none D ad cA A) {z : Zs} (t0 : Int32) (S : Zs) (H : Heap) (locs : List Loc) (ls : Array Slot) (h : f3_step_151 t0 S = some z) (P : zP D zC ad cA A S s H locs) (hl : lv_has ls 1 [(0, .ref (ad 13))]) :
    W p l e (zrm 6 153) s m args below meth c H locs 0 0 (MQ below (zQv D zC ad cA A z) args s 0 0 A) (F0 m 151 ls [.int t0, .ref (ad 13)]) := by
  have hx := C.1
  have hb := C.2.1
  unfold f3_step_151 at h
  refine pF3_31 C P zs13 rfl dX3_step_151 h (fun S151 H locs h P => ?_)
  refine lv_aload_n hx hb dX3_step_154 rfl (lv_at hl 0 rfl) ?_
  refine lv_aload_n hx hb dX3_step_155 rfl (lv_at hl 0 rfl) ?_
  refine gF3_25 C P zs13 rfl dX3_step_156 ?_
  refine lv_iconst (v := 1) hx hb dX3_step_159 (by decide) ?_
  refine lv_iadd hx hb dX3_step_160 ?_
  refine pF3_28 C P zs13 rfl dX3_step_161 h (fun S161 H locs h P => ?_)
  exact z_vret C P (Option.some.inj h) dX3_step_164
theorem w3_step_60 (C : zCx p s m args meth c cX3_step 1 RX3 none D ad cA A) {z : Zs} (S : Zs) (H : Heap) (locs : List Loc) (ls : Array Slot) (h : f3_step_60 S = some z) (P : zP D zC ad cA A S s H locs) (hl : lv_has ls 1 [(0, .ref (ad 13))]) :
    W p l e (zrm 6 153) s m args below meth c H locs 0 0 (MQ below (zQv D zC ad cA A z) args s 0 0 A) (F0 m 60 ls []) := by
  have hx := C.1
  have hb := C.2.1
  unfold f3_step_60 at h
  refine lv_aload_n hx hb dX3_step_60 rfl (lv_at hl 0 rfl) ?_
  refine lv_aload_n hx hb dX3_step_61 rfl (lv_at hl 0 rfl) ?_
  refine gF3_25 C P zs13 rfl dX3_step_62 ?_
  refine pF3_28 C P zs13 rfl dX3_step_65 h (fun S65 H locs h P => ?_)
  refine lv_aload_n hx hb dX3_step_68 rfl (lv_at hl 0 rfl) ?_
  refine gF3_25 C P zs13 rfl dX3_step_69 ?_
  refine lv_aload_n hx hb dX3_step_72 rfl (lv_at hl 0 rfl) ?_
  refine gF3_15 C P zs13 rfl dX3_step_73 ?_
  refine z_icmp_lt (tgt := 87) hx hb dX3_step_76 (by decide) h (fun h => ?_) (fun h => ?_)
  · refine lv_aload_n hx hb dX3_step_87 rfl (lv_at hl 0 rfl) ?_
    refine gF3_11 C P zs13 rfl dX3_step_88 ?_
    refine lv_aload_n hx hb dX3_step_91 rfl (lv_at hl 0 rfl) ?_
    refine gF3_25 C P zs13 rfl dX3_step_92 ?_
    refine z_bald C P zs14 dX3_step_95 h (fun h hi => ?_)
    refine z_callSb C P (As := [.int (S65.1 14 (S65.1 13 4).toNatClampNeg)]) (m3_isLetter) cW3_77 rfl (by decide) hl.1 rfl (Nat.le_of_ble_eq_true rfl) dX3_step_96 ⟨Nat.zero_le _, Nat.zero_le _⟩ (fun H locs n96 P => ?_)
    refine z_if_eq (tgt := 109) hx hb dX3_step_99 (by decide) h (fun h => ?_) (fun h => ?_)
    · refine lv_aload_n hx hb dX3_step_109 rfl (lv_at hl 0 rfl) ?_
      refine gF3_11 C P zs13 rfl dX3_step_110 ?_
      refine lv_aload_n hx hb dX3_step_113 rfl (lv_at hl 0 rfl) ?_
      refine gF3_25 C P zs13 rfl dX3_step_114 ?_
      refine z_bald C P zs14 dX3_step_117 h (fun h hi => ?_)
      refine z_callSb C P (As := [.int (S65.1 14 (S65.1 13 4).toNatClampNeg)]) (m3_isFigure) cW3_84 rfl (by decide) hl.1 rfl (Nat.le_of_ble_eq_true rfl) dX3_step_118 ⟨Nat.zero_le _, Nat.zero_le _⟩ (fun H locs n118 P => ?_)
      refine z_if_eq (tgt := 131) hx hb dX3_step_121 (by decide) h (fun h => ?_) (fun h => ?_)
      · refine lv_aload_n hx hb dX3_step_131 rfl (lv_at hl 0 rfl) ?_
        refine lv_aload_n hx hb dX3_step_132 rfl (lv_at hl 0 rfl) ?_
        refine gF3_11 C P zs13 rfl dX3_step_133 ?_
        refine lv_aload_n hx hb dX3_step_136 rfl (lv_at hl 0 rfl) ?_
        refine gF3_25 C P zs13 rfl dX3_step_137 ?_
        refine z_bald C P zs14 dX3_step_140 h (fun h hi => ?_)
        refine lv_bipush (v := 59) hx hb dX3_step_141 (by decide) ?_
        refine z_icmp_ne (tgt := 150) hx hb dX3_step_143 (by decide) h (fun h => ?_) (fun h => ?_)
        · refine lv_iconst (v := 5) hx hb dX3_step_150 (by decide) ?_
          exact w3_step_151 C _ _ _ _ _ h P (lv_sub hl [0] rfl)
        · refine lv_iconst (v := 4) hx hb dX3_step_146 (by decide) ?_
          refine lv_goto (tgt := 151) hx hb dX3_step_147 (by decide) ?_
          exact w3_step_151 C _ _ _ _ _ h P (lv_sub hl [0] rfl)
      · refine lv_aload_n hx hb dX3_step_124 rfl (lv_at hl 0 rfl) ?_
        obtain ⟨S125, g125, h⟩ := bd1_some h
        refine z_callVv C P (As := []) (m3_takeNumber g125) cW3_87 rfl zs13 rfl (by decide) hl.1 rfl (Nat.le_of_ble_eq_true rfl) dX3_step_125 ⟨Nat.zero_le _, Nat.zero_le _⟩ (fun H locs P => ?_)
        refine lv_goto (tgt := 164) hx hb dX3_step_128 (by decide) ?_
        exact z_vret C P (Option.some.inj h) dX3_step_164
    · refine lv_aload_n hx hb dX3_step_102 rfl (lv_at hl 0 rfl) ?_
      obtain ⟨S103, g103, h⟩ := bd1_some h
      refine z_callVv C P (As := []) (m3_takeName g103) cW3_81 rfl zs13 rfl (by decide) hl.1 rfl (Nat.le_of_ble_eq_true rfl) dX3_step_103 ⟨Nat.zero_le _, Nat.zero_le _⟩ (fun H locs P => ?_)
      refine lv_goto (tgt := 164) hx hb dX3_step_106 (by decide) ?_
      exact z_vret C P (Option.some.inj h) dX3_step_164
  · refine lv_aload_n hx hb dX3_step_79 rfl (lv_at hl 0 rfl) ?_
    refine lv_iconst (v := 0) hx hb dX3_step_80 (by decide) ?_
    refine pF3_31 C P zs13 rfl dX3_step_81 h (fun S81 H locs h P => ?_)
    refine lv_goto (tgt := 164) hx hb dX3_step_84 (by decide) ?_
    exact z_vret C P (Option.some.inj h) dX3_step_164
theorem w3_step_47 (C : zCx p s m args meth c cX3_step 1 RX3 none D ad cA A) {z : Zs} {k8 : Zs → Option Zs} (hk8 : ∀ (S : Zs) (H : Heap) (locs : List Loc) (ls : Array Slot), k8 S = some z → zP D zC ad cA A S s H locs → lv_has ls 1 [(0, .ref (ad 13))] → W p l e (zrm 6 153) s m args below meth c H locs 0 0 (MQ below (zQv D zC ad cA A z) args s 0 0 A) (F0 m 8 ls [])) (S : Zs) (H : Heap) (locs : List Loc) (ls : Array Slot) (h : f3_step_47 k8 S = some z) (P : zP D zC ad cA A S s H locs) (hl : lv_has ls 1 [(0, .ref (ad 13))]) :
    W p l e (zrm 6 153) s m args below meth c H locs 0 0 (MQ below (zQv D zC ad cA A z) args s 0 0 A) (F0 m 47 ls []) := by
  have hx := C.1
  have hb := C.2.1
  unfold f3_step_47 at h
  refine lv_aload_n hx hb dX3_step_47 rfl (lv_at hl 0 rfl) ?_
  refine lv_dup hx hb dX3_step_48 rfl ?_
  refine gF3_25 C P zs13 rfl dX3_step_49 ?_
  refine lv_iconst (v := 1) hx hb dX3_step_52 (by decide) ?_
  refine lv_iadd hx hb dX3_step_53 ?_
  refine pF3_25 C P zs13 rfl dX3_step_54 h (fun S54 H locs h P => ?_)
  refine lv_goto (tgt := 8) hx hb dX3_step_57 (by decide) ?_
  exact hk8 _ _ _ _ h P (lv_sub hl [0] rfl)
theorem w3_step_8 (C : zCx p s m args meth c cX3_step 1 RX3 none D ad cA A) {z : Zs} :
    ∀ (n : Nat) (S : Zs) (H : Heap) (locs : List Loc) (ls : Array Slot), f3_step_8 n S = some z → zP D zC ad cA A S s H locs → lv_has ls 1 [(0, .ref (ad 13))] → W p l e (zrm 6 153) s m args below meth c H locs 0 0 (MQ below (zQv D zC ad cA A z) args s 0 0 A) (F0 m 8 ls []) := by
  have hx := C.1
  have hb := C.2.1
  intro n
  induction n with
  | zero =>
    intro S H locs ls h
    cases h
  | succ n ih =>
    intro S H locs ls h P hl
    unfold f3_step_8 at h
    refine lv_aload_n hx hb dX3_step_8 rfl (lv_at hl 0 rfl) ?_
    refine gF3_25 C P zs13 rfl dX3_step_9 ?_
    refine lv_aload_n hx hb dX3_step_12 rfl (lv_at hl 0 rfl) ?_
    refine gF3_15 C P zs13 rfl dX3_step_13 ?_
    refine z_icmp_ge (tgt := 60) hx hb dX3_step_16 (by decide) h (fun h => ?_) (fun h => ?_)
    · exact w3_step_60 C _ _ _ _ h P (lv_sub hl [0] rfl)
    · refine lv_aload_n hx hb dX3_step_19 rfl (lv_at hl 0 rfl) ?_
      refine gF3_11 C P zs13 rfl dX3_step_20 ?_
      refine lv_aload_n hx hb dX3_step_23 rfl (lv_at hl 0 rfl) ?_
      refine gF3_25 C P zs13 rfl dX3_step_24 ?_
      refine z_bald C P zs14 dX3_step_27 h (fun h hi => ?_)
      refine lv_bipush (v := 32) hx hb dX3_step_28 (by decide) ?_
      refine z_icmp_eq (tgt := 47) hx hb dX3_step_30 (by decide) h (fun h => ?_) (fun h => ?_)
      · exact w3_step_47 C ih _ _ _ _ h P (lv_sub hl [0] rfl)
      · refine lv_aload_n hx hb dX3_step_33 rfl (lv_at hl 0 rfl) ?_
        refine gF3_11 C P zs13 rfl dX3_step_34 ?_
        refine lv_aload_n hx hb dX3_step_37 rfl (lv_at hl 0 rfl) ?_
        refine gF3_25 C P zs13 rfl dX3_step_38 ?_
        refine z_bald C P zs14 dX3_step_41 h (fun h hi => ?_)
        refine lv_bipush (v := 10) hx hb dX3_step_42 (by decide) ?_
        refine z_icmp_ne (tgt := 60) hx hb dX3_step_44 (by decide) h (fun h => ?_) (fun h => ?_)
        · exact w3_step_60 C _ _ _ _ h P (lv_sub hl [0] rfl)
        · exact w3_step_47 C ih _ _ _ _ h P (lv_sub hl [0] rfl)
theorem m3_step {l : Launch} {D : va_G} {cA : Nat → ClassId} {ad : Nat → Nat} {S : Zs} {z : Zs} (h : f3_step S = some z) :
    zMv l yX3_step cX3_step 1 6 153 D zC ad cA S [.ref (ad 13)] z := by
  refine z_enter (Qc := fun A => zQv D zC ad cA A z) (by decide +kernel) (Nat.le_of_ble_eq_true rfl) (fun p e s m below meth c A C P ls hl => ?_)
  have hx := C.1
  have hb := C.2.1
  have hl : lv_has ls 1 [(0, .ref (ad 13))] := hl
  unfold f3_step at h
  refine lv_aload_n hx hb dX3_step_0 rfl (lv_at hl 0 rfl) ?_
  refine lv_aload_n hx hb dX3_step_1 rfl (lv_at hl 0 rfl) ?_
  refine gF3_28 C P zs13 rfl dX3_step_2 ?_
  refine pF3_25 C P zs13 rfl dX3_step_5 h (fun S5 H locs h P => ?_)
  exact w3_step_8 C _ _ _ _ _ h P (lv_sub hl [0] rfl)
theorem m3_blame {l : Launch} {D : va_G} {cA : Nat → ClassId} {ad : Nat → Nat} {x1 : Int32} {S : Zs} {z : Int32 × Zs} (h : f3_blame x1 S = some z) :
    zMb l yX3_blame cX3_blame 2 0 0 D zC ad cA S [.ref (ad 13), .int x1] z := by
  refine z_enter (Qc := fun A => zQb D zC ad cA A z) (by decide +kernel) (Nat.le_of_ble_eq_true rfl) (fun p e s m below meth c A C P ls hl => ?_)
  have hx := C.1
  have hb := C.2.1
  have hl : lv_has ls 2 [(0, .ref (ad 13)), (1, .int x1)] := hl
  unfold f3_blame at h
  refine lv_aload_n hx hb dX3_blame_0 rfl (lv_at hl 0 rfl) ?_
  refine lv_iload_n hx hb dX3_blame_1 rfl (lv_at hl 1 rfl) ?_
  refine pF3_19 C P zs13 rfl dX3_blame_2 h (fun S2 H locs h P => ?_)
  refine lv_aload_n hx hb dX3_blame_5 rfl (lv_at hl 0 rfl) ?_
  refine lv_aload_n hx hb dX3_blame_6 rfl (lv_at hl 0 rfl) ?_
  refine gF3_25 C P zs13 rfl dX3_blame_7 ?_
  refine pF3_22 C P zs13 rfl dX3_blame_10 h (fun S10 H locs h P => ?_)
  refine lv_iconst (v := 0) hx hb dX3_blame_13 (by decide) ?_
  exact z_zret C P (Option.some.inj h) (by decide) dX3_blame_14
theorem w3_isNumberUpTo_30 (C : zCx p s m args meth c cX3_isNumberUpTo 2 RX3 (some .boolean) D ad cA A) {z : Int32 × Zs} (S : Zs) (H : Heap) (locs : List Loc) (ls : Array Slot) (h : f3_isNumberUpTo_30 S = some z) (P : zP D zC ad cA A S s H locs) (hl : lv_has ls 2 [(0, .ref (ad 13))]) :
    W p l e (zrm 1 21) s m args below meth c H locs 0 0 (MQ below (zQb D zC ad cA A z) args s 0 0 A) (F0 m 30 ls []) := by
  have hx := C.1
  have hb := C.2.1
  unfold f3_isNumberUpTo_30 at h
  refine lv_aload_n hx hb dX3_isNumberUpTo_30 rfl (lv_at hl 0 rfl) ?_
  refine lv_iconst (v := 2) hx hb dX3_isNumberUpTo_31 (by decide) ?_
  obtain ⟨r32, S32, g32, h⟩ := bd2_some h
  refine z_callVb C P (As := [.int (2 : Int32)]) (m3_blame g32) cW3_55 rfl zs13 rfl (by decide) hl.1 rfl (Nat.le_of_ble_eq_true rfl) dX3_isNumberUpTo_32 ⟨Nat.zero_le _, Nat.zero_le _⟩ (fun H locs n32 P => ?_)
  refine z_if_eq (tgt := 42) hx hb dX3_isNumberUpTo_35 (by decide) h (fun h => ?_) (fun h => ?_)
  · refine lv_iconst (v := 0) hx hb dX3_isNumberUpTo_42 (by decide) ?_
    exact z_zret C P (Option.some.inj h) (by decide) dX3_isNumberUpTo_43
  · refine lv_iconst (v := 1) hx hb dX3_isNumberUpTo_38 (by decide) ?_
    refine lv_goto (tgt := 43) hx hb dX3_isNumberUpTo_39 (by decide) ?_
    exact z_zret C P (Option.some.inj h) (by decide) dX3_isNumberUpTo_43
theorem m3_isNumberUpTo {l : Launch} {D : va_G} {cA : Nat → ClassId} {ad : Nat → Nat} {x1 : Int32} {S : Zs} {z : Int32 × Zs} (h : f3_isNumberUpTo x1 S = some z) :
    zMb l yX3_isNumberUpTo cX3_isNumberUpTo 2 1 21 D zC ad cA S [.ref (ad 13), .int x1] z := by
  refine z_enter (Qc := fun A => zQb D zC ad cA A z) (by decide +kernel) (Nat.le_of_ble_eq_true rfl) (fun p e s m below meth c A C P ls hl => ?_)
  have hx := C.1
  have hb := C.2.1
  have hl : lv_has ls 2 [(0, .ref (ad 13)), (1, .int x1)] := hl
  unfold f3_isNumberUpTo at h
  refine lv_aload_n hx hb dX3_isNumberUpTo_0 rfl (lv_at hl 0 rfl) ?_
  refine gF3_31 C P zs13 rfl dX3_isNumberUpTo_1 ?_
  refine lv_iconst (v := 3) hx hb dX3_isNumberUpTo_4 (by decide) ?_
  refine z_icmp_eq (tgt := 14) hx hb dX3_isNumberUpTo_5 (by decide) h (fun h => ?_) (fun h => ?_)
  · refine lv_aload_n hx hb dX3_isNumberUpTo_14 rfl (lv_at hl 0 rfl) ?_
    refine gF3_34 C P zs13 rfl dX3_isNumberUpTo_15 ?_
    refine lv_iconst (v := 1) hx hb dX3_isNumberUpTo_18 (by decide) ?_
    refine z_icmp_lt (tgt := 30) hx hb dX3_isNumberUpTo_19 (by decide) h (fun h => ?_) (fun h => ?_)
    · exact w3_isNumberUpTo_30 C _ _ _ _ h P (lv_sub hl [0] rfl)
    · refine lv_aload_n hx hb dX3_isNumberUpTo_22 rfl (lv_at hl 0 rfl) ?_
      refine gF3_34 C P zs13 rfl dX3_isNumberUpTo_23 ?_
      refine lv_iload_n hx hb dX3_isNumberUpTo_26 rfl (lv_at hl 1 rfl) ?_
      refine z_icmp_le (tgt := 38) hx hb dX3_isNumberUpTo_27 (by decide) h (fun h => ?_) (fun h => ?_)
      · refine lv_iconst (v := 1) hx hb dX3_isNumberUpTo_38 (by decide) ?_
        refine lv_goto (tgt := 43) hx hb dX3_isNumberUpTo_39 (by decide) ?_
        exact z_zret C P (Option.some.inj h) (by decide) dX3_isNumberUpTo_43
      · exact w3_isNumberUpTo_30 C _ _ _ _ h P (lv_sub hl [0] rfl)
  · refine lv_aload_n hx hb dX3_isNumberUpTo_8 rfl (lv_at hl 0 rfl) ?_
    refine lv_iconst (v := 1) hx hb dX3_isNumberUpTo_9 (by decide) ?_
    obtain ⟨r10, S10, g10, h⟩ := bd2_some h
    refine z_callVb C P (As := [.int (1 : Int32)]) (m3_blame g10) cW3_55 rfl zs13 rfl (by decide) hl.1 rfl (Nat.le_of_ble_eq_true rfl) dX3_isNumberUpTo_10 ⟨Nat.zero_le _, Nat.zero_le _⟩ (fun H locs n10 P => ?_)
    exact z_zret C P (Option.some.inj h) n10 dX3_isNumberUpTo_13
theorem m3_passSemicolon {l : Launch} {D : va_G} {cA : Nat → ClassId} {ad : Nat → Nat} {S : Zs} {z : Int32 × Zs} (h : f3_passSemicolon S = some z) :
    zMb l yX3_passSemicolon cX3_passSemicolon 1 7 173 D zC ad cA S [.ref (ad 13)] z := by
  refine z_enter (Qc := fun A => zQb D zC ad cA A z) (by decide +kernel) (Nat.le_of_ble_eq_true rfl) (fun p e s m below meth c A C P ls hl => ?_)
  have hx := C.1
  have hb := C.2.1
  have hl : lv_has ls 1 [(0, .ref (ad 13))] := hl
  unfold f3_passSemicolon at h
  refine lv_aload_n hx hb dX3_passSemicolon_0 rfl (lv_at hl 0 rfl) ?_
  refine gF3_31 C P zs13 rfl dX3_passSemicolon_1 ?_
  refine lv_iconst (v := 4) hx hb dX3_passSemicolon_4 (by decide) ?_
  refine z_icmp_eq (tgt := 14) hx hb dX3_passSemicolon_5 (by decide) h (fun h => ?_) (fun h => ?_)
  · refine lv_aload_n hx hb dX3_passSemicolon_14 rfl (lv_at hl 0 rfl) ?_
    obtain ⟨S15, g15, h⟩ := bd1_some h
    refine z_callVv C P (As := []) (m3_step g15) cW3_45 rfl zs13 rfl (by decide) hl.1 rfl (Nat.le_of_ble_eq_true rfl) dX3_passSemicolon_15 ⟨Nat.zero_le _, Nat.zero_le _⟩ (fun H locs P => ?_)
    refine lv_iconst (v := 1) hx hb dX3_passSemicolon_18 (by decide) ?_
    exact z_zret C P (Option.some.inj h) (by decide) dX3_passSemicolon_19
  · refine lv_aload_n hx hb dX3_passSemicolon_8 rfl (lv_at hl 0 rfl) ?_
    refine lv_iconst (v := 1) hx hb dX3_passSemicolon_9 (by decide) ?_
    obtain ⟨r10, S10, g10, h⟩ := bd2_some h
    refine z_callVb C P (As := [.int (1 : Int32)]) (m3_blame g10) cW3_55 rfl zs13 rfl (by decide) hl.1 rfl (Nat.le_of_ble_eq_true rfl) dX3_passSemicolon_10 ⟨Nat.zero_le _, Nat.zero_le _⟩ (fun H locs n10 P => ?_)
    exact z_zret C P (Option.some.inj h) n10 dX3_passSemicolon_13
theorem m3_readGood {l : Launch} {D : va_G} {cA : Nat → ClassId} {ad : Nat → Nat} {q1 : Nat} (hq1 : zW q1) {S : Zs} {z : Int32 × Zs} (h : f3_readGood q1 S = some z) :
    zMb l yX3_readGood cX3_readGood 2 8 193 D zC ad cA S [.ref (ad 13), .ref (ad q1)] z := by
  refine z_enter (Qc := fun A => zQb D zC ad cA A z) (by decide +kernel) (Nat.le_of_ble_eq_true rfl) (fun p e s m below meth c A C P ls hl => ?_)
  have hx := C.1
  have hb := C.2.1
  have hl : lv_has ls 2 [(0, .ref (ad 13)), (1, .ref (ad q1))] := hl
  unfold f3_readGood at h
  refine lv_aload_n hx hb dX3_readGood_0 rfl (lv_at hl 0 rfl) ?_
  refine gF3_31 C P zs13 rfl dX3_readGood_1 ?_
  refine lv_iconst (v := 1) hx hb dX3_readGood_4 (by decide) ?_
  refine z_icmp_eq (tgt := 14) hx hb dX3_readGood_5 (by decide) h (fun h => ?_) (fun h => ?_)
  · refine lv_aload_n hx hb dX3_readGood_14 rfl (lv_at hl 1 rfl) ?_
    refine gF3_37 C P hq1.1 rfl dX3_readGood_15 ?_
    refine lv_bipush (v := 6) hx hb dX3_readGood_18 (by decide) ?_
    refine z_icmp_lt (tgt := 29) hx hb dX3_readGood_20 (by decide) h (fun h => ?_) (fun h => ?_)
    · refine lv_aload_n hx hb dX3_readGood_29 rfl (lv_at hl 0 rfl) ?_
      obtain ⟨S30, g30, h⟩ := bd1_some h
      refine z_callVv C P (As := []) (m3_step g30) cW3_45 rfl zs13 rfl (by decide) hl.1 rfl (Nat.le_of_ble_eq_true rfl) dX3_readGood_30 ⟨Nat.zero_le _, Nat.zero_le _⟩ (fun H locs P => ?_)
      refine lv_aload_n hx hb dX3_readGood_33 rfl (lv_at hl 0 rfl) ?_
      refine lv_bipush (v := 20) hx hb dX3_readGood_34 (by decide) ?_
      obtain ⟨r36, S36, g36, h⟩ := bd2_some h
      refine z_callVb C P (As := [.int (20 : Int32)]) (m3_isNumberUpTo g36) cW3_59 rfl zs13 rfl (by decide) hl.1 rfl (Nat.le_of_ble_eq_true rfl) dX3_readGood_36 ⟨Nat.zero_le _, Nat.zero_le _⟩ (fun H locs n36 P => ?_)
      refine z_if_ne (tgt := 44) hx hb dX3_readGood_39 (by decide) h (fun h => ?_) (fun h => ?_)
      · refine lv_aload_n hx hb dX3_readGood_44 rfl (lv_at hl 1 rfl) ?_
        refine gF3_62 C P hq1.1 rfl dX3_readGood_45 ?_
        refine lv_aload_n hx hb dX3_readGood_48 rfl (lv_at hl 1 rfl) ?_
        refine gF3_37 C P hq1.1 rfl dX3_readGood_49 ?_
        refine lv_aload_n hx hb dX3_readGood_52 rfl (lv_at hl 0 rfl) ?_
        refine gF3_34 C P zs13 rfl dX3_readGood_53 ?_
        refine z_iast C P hq1.2.1 dX3_readGood_56 h (fun S56 H locs h P => ?_)
        refine lv_aload_n hx hb dX3_readGood_57 rfl (lv_at hl 1 rfl) ?_
        refine lv_dup hx hb dX3_readGood_58 rfl ?_
        refine gF3_37 C P hq1.1 rfl dX3_readGood_59 ?_
        refine lv_iconst (v := 1) hx hb dX3_readGood_62 (by decide) ?_
        refine lv_iadd hx hb dX3_readGood_63 ?_
        refine pF3_37 C P hq1.1 rfl dX3_readGood_64 h (fun S64 H locs h P => ?_)
        refine lv_aload_n hx hb dX3_readGood_67 rfl (lv_at hl 0 rfl) ?_
        obtain ⟨S68, g68, h⟩ := bd1_some h
        refine z_callVv C P (As := []) (m3_step g68) cW3_45 rfl zs13 rfl (by decide) hl.1 rfl (Nat.le_of_ble_eq_true rfl) dX3_readGood_68 ⟨Nat.zero_le _, Nat.zero_le _⟩ (fun H locs P => ?_)
        refine lv_aload_n hx hb dX3_readGood_71 rfl (lv_at hl 0 rfl) ?_
        obtain ⟨r72, S72, g72, h⟩ := bd2_some h
        refine z_callVb C P (As := []) (m3_passSemicolon g72) cW3_66 rfl zs13 rfl (by decide) hl.1 rfl (Nat.le_of_ble_eq_true rfl) dX3_readGood_72 ⟨Nat.zero_le _, Nat.zero_le _⟩ (fun H locs n72 P => ?_)
        exact z_zret C P (Option.some.inj h) n72 dX3_readGood_75
      · refine lv_iconst (v := 0) hx hb dX3_readGood_42 (by decide) ?_
        exact z_zret C P (Option.some.inj h) (by decide) dX3_readGood_43
    · refine lv_aload_n hx hb dX3_readGood_23 rfl (lv_at hl 0 rfl) ?_
      refine lv_iconst (v := 3) hx hb dX3_readGood_24 (by decide) ?_
      obtain ⟨r25, S25, g25, h⟩ := bd2_some h
      refine z_callVb C P (As := [.int (3 : Int32)]) (m3_blame g25) cW3_55 rfl zs13 rfl (by decide) hl.1 rfl (Nat.le_of_ble_eq_true rfl) dX3_readGood_25 ⟨Nat.zero_le _, Nat.zero_le _⟩ (fun H locs n25 P => ?_)
      exact z_zret C P (Option.some.inj h) n25 dX3_readGood_28
  · refine lv_aload_n hx hb dX3_readGood_8 rfl (lv_at hl 0 rfl) ?_
    refine lv_iconst (v := 1) hx hb dX3_readGood_9 (by decide) ?_
    obtain ⟨r10, S10, g10, h⟩ := bd2_some h
    refine z_callVb C P (As := [.int (1 : Int32)]) (m3_blame g10) cW3_55 rfl zs13 rfl (by decide) hl.1 rfl (Nat.le_of_ble_eq_true rfl) dX3_readGood_10 ⟨Nat.zero_le _, Nat.zero_le _⟩ (fun H locs n10 P => ?_)
    exact z_zret C P (Option.some.inj h) n10 dX3_readGood_13
theorem w3_readLand_62 (C : zCx p s m args meth c cX3_readLand 3 RX3 (some .boolean) D ad cA A) {q1 : Nat} (hq1 : zW q1) {z : Int32 × Zs} :
    ∀ (n : Nat) (x2 : Int32) (S : Zs) (H : Heap) (locs : List Loc) (ls : Array Slot), f3_readLand_62 q1 n x2 S = some z → zP D zC ad cA A S s H locs → lv_has ls 3 [(0, .ref (ad 13)), (1, .ref (ad q1)), (2, .int x2)] → W p l e (zrm 8 193) s m args below meth c H locs 0 0 (MQ below (zQb D zC ad cA A z) args s 0 0 A) (F0 m 62 ls []) := by
  have hx := C.1
  have hb := C.2.1
  intro n
  induction n with
  | zero =>
    intro x2 S H locs ls h
    cases h
  | succ n ih =>
    intro x2 S H locs ls h P hl
    unfold f3_readLand_62 at h
    refine lv_iload_n hx hb dX3_readLand_62 rfl (lv_at hl 2 rfl) ?_
    refine lv_aload_n hx hb dX3_readLand_63 rfl (lv_at hl 1 rfl) ?_
    refine gF3_37 C P hq1.1 rfl dX3_readLand_64 ?_
    refine z_icmp_ge (tgt := 106) hx hb dX3_readLand_67 (by decide) h (fun h => ?_) (fun h => ?_)
    · refine lv_aload_n hx hb dX3_readLand_106 rfl (lv_at hl 1 rfl) ?_
      refine lv_dup hx hb dX3_readLand_107 rfl ?_
      refine gF3_42 C P hq1.1 rfl dX3_readLand_108 ?_
      refine lv_iconst (v := 1) hx hb dX3_readLand_111 (by decide) ?_
      refine lv_iadd hx hb dX3_readLand_112 ?_
      refine pF3_42 C P hq1.1 rfl dX3_readLand_113 h (fun S113 H locs h P => ?_)
      refine lv_aload_n hx hb dX3_readLand_116 rfl (lv_at hl 0 rfl) ?_
      obtain ⟨r117, S117, g117, h⟩ := bd2_some h
      refine z_callVb C P (As := []) (m3_passSemicolon g117) cW3_66 rfl zs13 rfl (by decide) hl.1 rfl (Nat.le_of_ble_eq_true rfl) dX3_readLand_117 ⟨Nat.zero_le _, Nat.zero_le _⟩ (fun H locs n117 P => ?_)
      exact z_zret C P (Option.some.inj h) n117 dX3_readLand_120
    · refine lv_aload_n hx hb dX3_readLand_70 rfl (lv_at hl 0 rfl) ?_
      refine lv_bipush (v := 20) hx hb dX3_readLand_71 (by decide) ?_
      obtain ⟨r73, S73, g73, h⟩ := bd2_some h
      refine z_callVb C P (As := [.int (20 : Int32)]) (m3_isNumberUpTo g73) cW3_59 rfl zs13 rfl (by decide) hl.1 rfl (Nat.le_of_ble_eq_true rfl) dX3_readLand_73 ⟨Nat.zero_le _, Nat.zero_le _⟩ (fun H locs n73 P => ?_)
      refine z_if_ne (tgt := 81) hx hb dX3_readLand_76 (by decide) h (fun h => ?_) (fun h => ?_)
      · refine lv_aload_n hx hb dX3_readLand_81 rfl (lv_at hl 1 rfl) ?_
        refine gF3_73 C P hq1.1 rfl dX3_readLand_82 ?_
        refine lv_aload_n hx hb dX3_readLand_85 rfl (lv_at hl 1 rfl) ?_
        refine gF3_42 C P hq1.1 rfl dX3_readLand_86 ?_
        refine z_aald C P hq1.2.2.2.1 (zrs3 q1) hq1.2.2.2.2.1 dX3_readLand_89 h (fun h hg89 => ?_)
        refine lv_iload_n hx hb dX3_readLand_90 rfl (lv_at hl 2 rfl) ?_
        refine lv_aload_n hx hb dX3_readLand_91 rfl (lv_at hl 0 rfl) ?_
        refine gF3_34 C P zs13 rfl dX3_readLand_92 ?_
        refine z_iast C P hg89 dX3_readLand_95 h (fun S95 H locs h P => ?_)
        refine lv_aload_n hx hb dX3_readLand_96 rfl (lv_at hl 0 rfl) ?_
        obtain ⟨S97, g97, h⟩ := bd1_some h
        refine z_callVv C P (As := []) (m3_step g97) cW3_45 rfl zs13 rfl (by decide) hl.1 rfl (Nat.le_of_ble_eq_true rfl) dX3_readLand_97 ⟨Nat.zero_le _, Nat.zero_le _⟩ (fun H locs P => ?_)
        obtain ⟨v100, ev100, h⟩ := z_nm h
        refine lv_iinc (v := v100) (lv' := [(2, .int v100), (0, .ref (ad 13)), (1, .ref (ad q1))]) hx hb dX3_readLand_100 hl (k := 2) rfl (by rw [ev100]; rfl) (by decide) rfl (fun ls hl => ?_)
        refine lv_goto (tgt := 62) hx hb dX3_readLand_103 (by decide) ?_
        exact ih _ _ _ _ _ h P (lv_sub hl [1, 2, 0] rfl)
      · refine lv_iconst (v := 0) hx hb dX3_readLand_79 (by decide) ?_
        exact z_zret C P (Option.some.inj h) (by decide) dX3_readLand_80
theorem m3_readLand {l : Launch} {D : va_G} {cA : Nat → ClassId} {ad : Nat → Nat} {q1 : Nat} (hq1 : zW q1) {S : Zs} {z : Int32 × Zs} (h : f3_readLand q1 S = some z) :
    zMb l yX3_readLand cX3_readLand 3 8 193 D zC ad cA S [.ref (ad 13), .ref (ad q1)] z := by
  refine z_enter (Qc := fun A => zQb D zC ad cA A z) (by decide +kernel) (Nat.le_of_ble_eq_true rfl) (fun p e s m below meth c A C P ls hl => ?_)
  have hx := C.1
  have hb := C.2.1
  have hl : lv_has ls 3 [(0, .ref (ad 13)), (1, .ref (ad q1))] := hl
  unfold f3_readLand at h
  refine lv_aload_n hx hb dX3_readLand_0 rfl (lv_at hl 0 rfl) ?_
  refine gF3_31 C P zs13 rfl dX3_readLand_1 ?_
  refine lv_iconst (v := 2) hx hb dX3_readLand_4 (by decide) ?_
  refine z_icmp_eq (tgt := 14) hx hb dX3_readLand_5 (by decide) h (fun h => ?_) (fun h => ?_)
  · refine lv_aload_n hx hb dX3_readLand_14 rfl (lv_at hl 1 rfl) ?_
    refine gF3_42 C P hq1.1 rfl dX3_readLand_15 ?_
    refine lv_iconst (v := 3) hx hb dX3_readLand_18 (by decide) ?_
    refine z_icmp_lt (tgt := 28) hx hb dX3_readLand_19 (by decide) h (fun h => ?_) (fun h => ?_)
    · refine lv_aload_n hx hb dX3_readLand_28 rfl (lv_at hl 0 rfl) ?_
      obtain ⟨S29, g29, h⟩ := bd1_some h
      refine z_callVv C P (As := []) (m3_step g29) cW3_45 rfl zs13 rfl (by decide) hl.1 rfl (Nat.le_of_ble_eq_true rfl) dX3_readLand_29 ⟨Nat.zero_le _, Nat.zero_le _⟩ (fun H locs P => ?_)
      refine lv_aload_n hx hb dX3_readLand_32 rfl (lv_at hl 0 rfl) ?_
      refine lv_bipush (v := 99) hx hb dX3_readLand_33 (by decide) ?_
      obtain ⟨r35, S35, g35, h⟩ := bd2_some h
      refine z_callVb C P (As := [.int (99 : Int32)]) (m3_isNumberUpTo g35) cW3_59 rfl zs13 rfl (by decide) hl.1 rfl (Nat.le_of_ble_eq_true rfl) dX3_readLand_35 ⟨Nat.zero_le _, Nat.zero_le _⟩ (fun H locs n35 P => ?_)
      refine z_if_ne (tgt := 43) hx hb dX3_readLand_38 (by decide) h (fun h => ?_) (fun h => ?_)
      · refine lv_aload_n hx hb dX3_readLand_43 rfl (lv_at hl 1 rfl) ?_
        refine gF3_70 C P hq1.1 rfl dX3_readLand_44 ?_
        refine lv_aload_n hx hb dX3_readLand_47 rfl (lv_at hl 1 rfl) ?_
        refine gF3_42 C P hq1.1 rfl dX3_readLand_48 ?_
        refine lv_aload_n hx hb dX3_readLand_51 rfl (lv_at hl 0 rfl) ?_
        refine gF3_34 C P zs13 rfl dX3_readLand_52 ?_
        refine z_iast C P hq1.2.2.1 dX3_readLand_55 h (fun S55 H locs h P => ?_)
        refine lv_aload_n hx hb dX3_readLand_56 rfl (lv_at hl 0 rfl) ?_
        obtain ⟨S57, g57, h⟩ := bd1_some h
        refine z_callVv C P (As := []) (m3_step g57) cW3_45 rfl zs13 rfl (by decide) hl.1 rfl (Nat.le_of_ble_eq_true rfl) dX3_readLand_57 ⟨Nat.zero_le _, Nat.zero_le _⟩ (fun H locs P => ?_)
        refine lv_iconst (v := 0) hx hb dX3_readLand_60 (by decide) ?_
        refine lv_istore_n (lv' := [(2, .int (0 : Int32)), (0, .ref (ad 13)), (1, .ref (ad q1))]) hx hb dX3_readLand_61 rfl hl (by decide) rfl (fun ls hl => ?_)
        exact w3_readLand_62 C hq1 _ _ _ _ _ _ h P (lv_sub hl [1, 2, 0] rfl)
      · refine lv_iconst (v := 0) hx hb dX3_readLand_41 (by decide) ?_
        exact z_zret C P (Option.some.inj h) (by decide) dX3_readLand_42
    · refine lv_aload_n hx hb dX3_readLand_22 rfl (lv_at hl 0 rfl) ?_
      refine lv_iconst (v := 3) hx hb dX3_readLand_23 (by decide) ?_
      obtain ⟨r24, S24, g24, h⟩ := bd2_some h
      refine z_callVb C P (As := [.int (3 : Int32)]) (m3_blame g24) cW3_55 rfl zs13 rfl (by decide) hl.1 rfl (Nat.le_of_ble_eq_true rfl) dX3_readLand_24 ⟨Nat.zero_le _, Nat.zero_le _⟩ (fun H locs n24 P => ?_)
      exact z_zret C P (Option.some.inj h) n24 dX3_readLand_27
  · refine lv_aload_n hx hb dX3_readLand_8 rfl (lv_at hl 0 rfl) ?_
    refine lv_iconst (v := 1) hx hb dX3_readLand_9 (by decide) ?_
    obtain ⟨r10, S10, g10, h⟩ := bd2_some h
    refine z_callVb C P (As := [.int (1 : Int32)]) (m3_blame g10) cW3_55 rfl zs13 rfl (by decide) hl.1 rfl (Nat.le_of_ble_eq_true rfl) dX3_readLand_10 ⟨Nat.zero_le _, Nat.zero_le _⟩ (fun H locs n10 P => ?_)
    exact z_zret C P (Option.some.inj h) n10 dX3_readLand_13
theorem w3_readInto_106 (C : zCx p s m args meth c cX3_readInto 4 RX3 (some .boolean) D ad cA A) {q1 : Nat} (hq1 : zW q1) {z : Int32 × Zs} (x2 : Int32) (S : Zs) (H : Heap) (locs : List Loc) (ls : Array Slot) (h : f3_readInto_106 q1 x2 S = some z) (P : zP D zC ad cA A S s H locs) (hl : lv_has ls 4 [(0, .ref (ad 13)), (1, .ref (ad q1)), (2, .int x2)]) :
    W p l e (zrm 9 215) s m args below meth c H locs 0 0 (MQ below (zQb D zC ad cA A z) args s 0 0 A) (F0 m 106 ls []) := by
  have hx := C.1
  have hb := C.2.1
  unfold f3_readInto_106 at h
  refine lv_iload_n hx hb dX3_readInto_106 rfl (lv_at hl 2 rfl) ?_
  refine z_if_eq (tgt := 129) hx hb dX3_readInto_107 (by decide) h (fun h => ?_) (fun h => ?_)
  · refine lv_iconst (v := 0) hx hb dX3_readInto_129 (by decide) ?_
    exact z_zret C P (Option.some.inj h) (by decide) dX3_readInto_130
  · refine lv_aload_n hx hb dX3_readInto_110 rfl (lv_at hl 0 rfl) ?_
    refine gF3_31 C P zs13 rfl dX3_readInto_111 ?_
    refine z_if_eq (tgt := 125) hx hb dX3_readInto_114 (by decide) h (fun h => ?_) (fun h => ?_)
    · refine lv_iconst (v := 1) hx hb dX3_readInto_125 (by decide) ?_
      refine lv_goto (tgt := 130) hx hb dX3_readInto_126 (by decide) ?_
      exact z_zret C P (Option.some.inj h) (by decide) dX3_readInto_130
    · refine lv_aload_n hx hb dX3_readInto_117 rfl (lv_at hl 0 rfl) ?_
      refine lv_iconst (v := 1) hx hb dX3_readInto_118 (by decide) ?_
      obtain ⟨r119, S119, g119, h⟩ := bd2_some h
      refine z_callVb C P (As := [.int (1 : Int32)]) (m3_blame g119) cW3_55 rfl zs13 rfl (by decide) hl.1 rfl (Nat.le_of_ble_eq_true rfl) dX3_readInto_119 ⟨Nat.zero_le _, Nat.zero_le _⟩ (fun H locs n119 P => ?_)
      refine z_if_eq (tgt := 129) hx hb dX3_readInto_122 (by decide) h (fun h => ?_) (fun h => ?_)
      · refine lv_iconst (v := 0) hx hb dX3_readInto_129 (by decide) ?_
        exact z_zret C P (Option.some.inj h) (by decide) dX3_readInto_130
      · refine lv_iconst (v := 1) hx hb dX3_readInto_125 (by decide) ?_
        refine lv_goto (tgt := 130) hx hb dX3_readInto_126 (by decide) ?_
        exact z_zret C P (Option.some.inj h) (by decide) dX3_readInto_130
theorem w3_readInto_77 (C : zCx p s m args meth c cX3_readInto 4 RX3 (some .boolean) D ad cA A) {q1 : Nat} (hq1 : zW q1) {z : Int32 × Zs} :
    ∀ (n : Nat) (x2 : Int32) (x3 : Int32) (S : Zs) (H : Heap) (locs : List Loc) (ls : Array Slot), f3_readInto_77 q1 n x2 x3 S = some z → zP D zC ad cA A S s H locs → lv_has ls 4 [(0, .ref (ad 13)), (1, .ref (ad q1)), (2, .int x2), (3, .int x3)] → W p l e (zrm 9 215) s m args below meth c H locs 0 0 (MQ below (zQb D zC ad cA A z) args s 0 0 A) (F0 m 77 ls []) := by
  have hx := C.1
  have hb := C.2.1
  intro n
  induction n with
  | zero =>
    intro x2 x3 S H locs ls h
    cases h
  | succ n ih =>
    intro x2 x3 S H locs ls h P hl
    unfold f3_readInto_77 at h
    refine lv_iload_n hx hb dX3_readInto_77 rfl (lv_at hl 3 rfl) ?_
    refine lv_iconst (v := 3) hx hb dX3_readInto_78 (by decide) ?_
    refine z_icmp_ge (tgt := 106) hx hb dX3_readInto_79 (by decide) h (fun h => ?_) (fun h => ?_)
    · exact w3_readInto_106 C hq1 _ _ _ _ _ h P (lv_sub hl [0, 1, 2] rfl)
    · refine lv_iload_n hx hb dX3_readInto_82 rfl (lv_at hl 2 rfl) ?_
      refine z_if_eq (tgt := 106) hx hb dX3_readInto_83 (by decide) h (fun h => ?_) (fun h => ?_)
      · exact w3_readInto_106 C hq1 _ _ _ _ _ h P (lv_sub hl [0, 1, 2] rfl)
      · refine lv_aload_n hx hb dX3_readInto_86 rfl (lv_at hl 0 rfl) ?_
        refine gF3_31 C P zs13 rfl dX3_readInto_87 ?_
        refine lv_iconst (v := 2) hx hb dX3_readInto_90 (by decide) ?_
        refine z_icmp_ne (tgt := 106) hx hb dX3_readInto_91 (by decide) h (fun h => ?_) (fun h => ?_)
        · exact w3_readInto_106 C hq1 _ _ _ _ _ h P (lv_sub hl [0, 1, 2] rfl)
        · refine lv_aload_n hx hb dX3_readInto_94 rfl (lv_at hl 0 rfl) ?_
          refine lv_aload_n hx hb dX3_readInto_95 rfl (lv_at hl 1 rfl) ?_
          obtain ⟨r96, S96, g96, h⟩ := bd2_some h
          refine z_callVb C P (As := [.ref (ad q1)]) (m3_readLand hq1 g96) cW3_52 rfl zs13 rfl (by decide) hl.1 rfl (Nat.le_of_ble_eq_true rfl) dX3_readInto_96 ⟨Nat.zero_le _, Nat.zero_le _⟩ (fun H locs n96 P => ?_)
          refine lv_istore_n (lv' := [(2, .int r96), (0, .ref (ad 13)), (1, .ref (ad q1)), (3, .int x3)]) hx hb dX3_readInto_99 rfl hl (by decide) rfl (fun ls hl => ?_)
          obtain ⟨v100, ev100, h⟩ := z_nm h
          refine lv_iinc (v := v100) (lv' := [(3, .int v100), (2, .int r96), (0, .ref (ad 13)), (1, .ref (ad q1))]) hx hb dX3_readInto_100 hl (k := 3) rfl (by rw [ev100]; rfl) (by decide) rfl (fun ls hl => ?_)
          refine lv_goto (tgt := 77) hx hb dX3_readInto_103 (by decide) ?_
          exact ih _ _ _ _ _ _ h P (lv_sub hl [2, 3, 1, 0] rfl)
theorem w3_readInto_74 (C : zCx p s m args meth c cX3_readInto 4 RX3 (some .boolean) D ad cA A) {q1 : Nat} (hq1 : zW q1) {z : Int32 × Zs} (t0 : Int32) (S : Zs) (H : Heap) (locs : List Loc) (ls : Array Slot) (h : f3_readInto_74 q1 t0 S = some z) (P : zP D zC ad cA A S s H locs) (hl : lv_has ls 4 [(0, .ref (ad 13)), (1, .ref (ad q1))]) :
    W p l e (zrm 9 215) s m args below meth c H locs 0 0 (MQ below (zQb D zC ad cA A z) args s 0 0 A) (F0 m 74 ls [.int t0]) := by
  have hx := C.1
  have hb := C.2.1
  unfold f3_readInto_74 at h
  refine lv_istore_n (lv' := [(2, .int t0), (0, .ref (ad 13)), (1, .ref (ad q1))]) hx hb dX3_readInto_74 rfl hl (by decide) rfl (fun ls hl => ?_)
  refine lv_iconst (v := 0) hx hb dX3_readInto_75 (by decide) ?_
  refine lv_istore_n (lv' := [(3, .int (0 : Int32)), (2, .int t0), (0, .ref (ad 13)), (1, .ref (ad q1))]) hx hb dX3_readInto_76 rfl hl (by decide) rfl (fun ls hl => ?_)
  exact w3_readInto_77 C hq1 _ _ _ _ _ _ _ h P (lv_sub hl [2, 3, 1, 0] rfl)
theorem w3_readInto_73 (C : zCx p s m args meth c cX3_readInto 4 RX3 (some .boolean) D ad cA A) {q1 : Nat} (hq1 : zW q1) {z : Int32 × Zs} (S : Zs) (H : Heap) (locs : List Loc) (ls : Array Slot) (h : f3_readInto_73 q1 S = some z) (P : zP D zC ad cA A S s H locs) (hl : lv_has ls 4 [(0, .ref (ad 13)), (1, .ref (ad q1))]) :
    W p l e (zrm 9 215) s m args below meth c H locs 0 0 (MQ below (zQb D zC ad cA A z) args s 0 0 A) (F0 m 73 ls []) := by
  have hx := C.1
  have hb := C.2.1
  unfold f3_readInto_73 at h
  refine lv_iconst (v := 0) hx hb dX3_readInto_73 (by decide) ?_
  exact w3_readInto_74 C hq1 _ _ _ _ _ h P (lv_sub hl [0, 1] rfl)
theorem w3_readInto_57 (C : zCx p s m args meth c cX3_readInto 4 RX3 (some .boolean) D ad cA A) {q1 : Nat} (hq1 : zW q1) {z : Int32 × Zs} (x2 : Int32) (S : Zs) (H : Heap) (locs : List Loc) (ls : Array Slot) (h : f3_readInto_57 q1 x2 S = some z) (P : zP D zC ad cA A S s H locs) (hl : lv_has ls 4 [(0, .ref (ad 13)), (1, .ref (ad q1)), (2, .int x2)]) :
    W p l e (zrm 9 215) s m args below meth c H locs 0 0 (MQ below (zQb D zC ad cA A z) args s 0 0 A) (F0 m 57 ls []) := by
  have hx := C.1
  have hb := C.2.1
  unfold f3_readInto_57 at h
  refine lv_iload_n hx hb dX3_readInto_57 rfl (lv_at hl 2 rfl) ?_
  refine z_if_eq (tgt := 73) hx hb dX3_readInto_58 (by decide) h (fun h => ?_) (fun h => ?_)
  · exact w3_readInto_73 C hq1 _ _ _ _ h P (lv_sub hl [0, 1] rfl)
  · refine lv_aload_n hx hb dX3_readInto_61 rfl (lv_at hl 0 rfl) ?_
    refine lv_aload_n hx hb dX3_readInto_62 rfl (lv_at hl 1 rfl) ?_
    obtain ⟨r63, S63, g63, h⟩ := bd2_some h
    refine z_callVb C P (As := [.ref (ad q1)]) (m3_readLand hq1 g63) cW3_52 rfl zs13 rfl (by decide) hl.1 rfl (Nat.le_of_ble_eq_true rfl) dX3_readInto_63 ⟨Nat.zero_le _, Nat.zero_le _⟩ (fun H locs n63 P => ?_)
    refine z_if_eq (tgt := 73) hx hb dX3_readInto_66 (by decide) h (fun h => ?_) (fun h => ?_)
    · exact w3_readInto_73 C hq1 _ _ _ _ h P (lv_sub hl [0, 1] rfl)
    · refine lv_iconst (v := 1) hx hb dX3_readInto_69 (by decide) ?_
      refine lv_goto (tgt := 74) hx hb dX3_readInto_70 (by decide) ?_
      exact w3_readInto_74 C hq1 _ _ _ _ _ h P (lv_sub hl [0, 1] rfl)
theorem w3_readInto_27 (C : zCx p s m args meth c cX3_readInto 4 RX3 (some .boolean) D ad cA A) {q1 : Nat} (hq1 : zW q1) {z : Int32 × Zs} :
    ∀ (n : Nat) (x2 : Int32) (x3 : Int32) (S : Zs) (H : Heap) (locs : List Loc) (ls : Array Slot), f3_readInto_27 q1 n x2 x3 S = some z → zP D zC ad cA A S s H locs → lv_has ls 4 [(0, .ref (ad 13)), (1, .ref (ad q1)), (2, .int x2), (3, .int x3)] → W p l e (zrm 9 215) s m args below meth c H locs 0 0 (MQ below (zQb D zC ad cA A z) args s 0 0 A) (F0 m 27 ls []) := by
  have hx := C.1
  have hb := C.2.1
  intro n
  induction n with
  | zero =>
    intro x2 x3 S H locs ls h
    cases h
  | succ n ih =>
    intro x2 x3 S H locs ls h P hl
    unfold f3_readInto_27 at h
    refine lv_iload_n hx hb dX3_readInto_27 rfl (lv_at hl 3 rfl) ?_
    refine lv_bipush (v := 6) hx hb dX3_readInto_28 (by decide) ?_
    refine z_icmp_ge (tgt := 57) hx hb dX3_readInto_30 (by decide) h (fun h => ?_) (fun h => ?_)
    · exact w3_readInto_57 C hq1 _ _ _ _ _ h P (lv_sub hl [0, 1, 2] rfl)
    · refine lv_iload_n hx hb dX3_readInto_33 rfl (lv_at hl 2 rfl) ?_
      refine z_if_eq (tgt := 57) hx hb dX3_readInto_34 (by decide) h (fun h => ?_) (fun h => ?_)
      · exact w3_readInto_57 C hq1 _ _ _ _ _ h P (lv_sub hl [0, 1, 2] rfl)
      · refine lv_aload_n hx hb dX3_readInto_37 rfl (lv_at hl 0 rfl) ?_
        refine gF3_31 C P zs13 rfl dX3_readInto_38 ?_
        refine lv_iconst (v := 1) hx hb dX3_readInto_41 (by decide) ?_
        refine z_icmp_ne (tgt := 57) hx hb dX3_readInto_42 (by decide) h (fun h => ?_) (fun h => ?_)
        · exact w3_readInto_57 C hq1 _ _ _ _ _ h P (lv_sub hl [0, 1, 2] rfl)
        · refine lv_aload_n hx hb dX3_readInto_45 rfl (lv_at hl 0 rfl) ?_
          refine lv_aload_n hx hb dX3_readInto_46 rfl (lv_at hl 1 rfl) ?_
          obtain ⟨r47, S47, g47, h⟩ := bd2_some h
          refine z_callVb C P (As := [.ref (ad q1)]) (m3_readGood hq1 g47) cW3_48 rfl zs13 rfl (by decide) hl.1 rfl (Nat.le_of_ble_eq_true rfl) dX3_readInto_47 ⟨Nat.zero_le _, Nat.zero_le _⟩ (fun H locs n47 P => ?_)
          refine lv_istore_n (lv' := [(2, .int r47), (0, .ref (ad 13)), (1, .ref (ad q1)), (3, .int x3)]) hx hb dX3_readInto_50 rfl hl (by decide) rfl (fun ls hl => ?_)
          obtain ⟨v51, ev51, h⟩ := z_nm h
          refine lv_iinc (v := v51) (lv' := [(3, .int v51), (2, .int r47), (0, .ref (ad 13)), (1, .ref (ad q1))]) hx hb dX3_readInto_51 hl (k := 3) rfl (by rw [ev51]; rfl) (by decide) rfl (fun ls hl => ?_)
          refine lv_goto (tgt := 27) hx hb dX3_readInto_54 (by decide) ?_
          exact ih _ _ _ _ _ _ h P (lv_sub hl [2, 3, 1, 0] rfl)
theorem m3_readInto {l : Launch} {D : va_G} {cA : Nat → ClassId} {ad : Nat → Nat} {q1 : Nat} (hq1 : zW q1) {S : Zs} {z : Int32 × Zs} (h : f3_readInto q1 S = some z) :
    zMb l yX3_readInto cX3_readInto 4 9 215 D zC ad cA S [.ref (ad 13), .ref (ad q1)] z := by
  refine z_enter (Qc := fun A => zQb D zC ad cA A z) (by decide +kernel) (Nat.le_of_ble_eq_true rfl) (fun p e s m below meth c A C P ls hl => ?_)
  have hx := C.1
  have hb := C.2.1
  have hl : lv_has ls 4 [(0, .ref (ad 13)), (1, .ref (ad q1))] := hl
  unfold f3_readInto at h
  refine lv_aload_n hx hb dX3_readInto_0 rfl (lv_at hl 1 rfl) ?_
  refine lv_iconst (v := 0) hx hb dX3_readInto_1 (by decide) ?_
  refine pF3_37 C P hq1.1 rfl dX3_readInto_2 h (fun S2 H locs h P => ?_)
  refine lv_aload_n hx hb dX3_readInto_5 rfl (lv_at hl 1 rfl) ?_
  refine lv_iconst (v := 0) hx hb dX3_readInto_6 (by decide) ?_
  refine pF3_42 C P hq1.1 rfl dX3_readInto_7 h (fun S7 H locs h P => ?_)
  refine lv_aload_n hx hb dX3_readInto_10 rfl (lv_at hl 0 rfl) ?_
  refine lv_iconst (v := 0) hx hb dX3_readInto_11 (by decide) ?_
  refine pF3_28 C P zs13 rfl dX3_readInto_12 h (fun S12 H locs h P => ?_)
  refine lv_aload_n hx hb dX3_readInto_15 rfl (lv_at hl 0 rfl) ?_
  obtain ⟨S16, g16, h⟩ := bd1_some h
  refine z_callVv C P (As := []) (m3_step g16) cW3_45 rfl zs13 rfl (by decide) hl.1 rfl (Nat.le_of_ble_eq_true rfl) dX3_readInto_16 ⟨Nat.zero_le _, Nat.zero_le _⟩ (fun H locs P => ?_)
  refine lv_aload_n hx hb dX3_readInto_19 rfl (lv_at hl 0 rfl) ?_
  refine lv_aload_n hx hb dX3_readInto_20 rfl (lv_at hl 1 rfl) ?_
  obtain ⟨r21, S21, g21, h⟩ := bd2_some h
  refine z_callVb C P (As := [.ref (ad q1)]) (m3_readGood hq1 g21) cW3_48 rfl zs13 rfl (by decide) hl.1 rfl (Nat.le_of_ble_eq_true rfl) dX3_readInto_21 ⟨Nat.zero_le _, Nat.zero_le _⟩ (fun H locs n21 P => ?_)
  refine lv_istore_n (lv' := [(2, .int r21), (0, .ref (ad 13)), (1, .ref (ad q1))]) hx hb dX3_readInto_24 rfl hl (by decide) rfl (fun ls hl => ?_)
  refine lv_iconst (v := 0) hx hb dX3_readInto_25 (by decide) ?_
  refine lv_istore_n (lv' := [(3, .int (0 : Int32)), (2, .int r21), (0, .ref (ad 13)), (1, .ref (ad q1))]) hx hb dX3_readInto_26 rfl hl (by decide) rfl (fun ls hl => ?_)
  exact w3_readInto_27 C hq1 _ _ _ _ _ _ _ h P (lv_sub hl [2, 3, 1, 0] rfl)
theorem m3_empty {l : Launch} {D : va_G} {cA : Nat → ClassId} {ad : Nat → Nat} {S : Zs} {z : Zs} (h : f3_empty S = some z) :
    zMv l yX3_empty cX3_empty 1 0 0 D zC ad cA S [.ref (ad 13)] z := by
  refine z_enter (Qc := fun A => zQv D zC ad cA A z) (by decide +kernel) (Nat.le_of_ble_eq_true rfl) (fun p e s m below meth c A C P ls hl => ?_)
  have hx := C.1
  have hb := C.2.1
  have hl : lv_has ls 1 [(0, .ref (ad 13))] := hl
  unfold f3_empty at h
  refine lv_aload_n hx hb dX3_empty_0 rfl (lv_at hl 0 rfl) ?_
  refine lv_iconst (v := 0) hx hb dX3_empty_1 (by decide) ?_
  refine pF3_15 C P zs13 rfl dX3_empty_2 h (fun S2 H locs h P => ?_)
  exact z_vret C P (Option.some.inj h) dX3_empty_5
theorem w0_layTwo_33 (C : zCx p s m args meth c cX0_layTwo 5 RX0 none D ad cA A) {o : Nat} (ho : zPr o) {q1 : Nat} (hq1 : zW q1) {z : Zs} :
    ∀ (n : Nat) (x2 : Int32) (x3 : Int32) (x4 : Int32) (S : Zs) (H : Heap) (locs : List Loc) (ls : Array Slot), f0_layTwo_33 o q1 n x2 x3 x4 S = some z → zP D zC ad cA A S s H locs → lv_has ls 5 [(0, .ref (ad o)), (1, .ref (ad q1)), (2, .int x2), (3, .int x3), (4, .int x4)] → W p l e (zrm 0 0) s m args below meth c H locs 0 0 (MQ below (zQv D zC ad cA A z) args s 0 0 A) (F0 m 33 ls []) := by
  have hx := C.1
  have hb := C.2.1
  intro n
  induction n with
  | zero =>
    intro x2 x3 x4 S H locs ls h
    cases h
  | succ n ih =>
    intro x2 x3 x4 S H locs ls h P hl
    unfold f0_layTwo_33 at h
    refine lv_iload hx hb dX0_layTwo_33 (lv_at hl 4 rfl) ?_
    refine lv_aload_n hx hb dX0_layTwo_35 rfl (lv_at hl 0 rfl) ?_
    refine gF0_9 C P ho.1 rfl dX0_layTwo_36 ?_
    refine z_icmp_ge (tgt := 96) hx hb dX0_layTwo_39 (by decide) h (fun h => ?_) (fun h => ?_)
    · exact z_vret C P (Option.some.inj h) dX0_layTwo_96
    · refine lv_aload_n hx hb dX0_layTwo_42 rfl (lv_at hl 0 rfl) ?_
      refine gF0_15 C P ho.1 rfl dX0_layTwo_43 ?_
      refine lv_iload hx hb dX0_layTwo_46 (lv_at hl 4 rfl) ?_
      refine lv_aload_n hx hb dX0_layTwo_48 rfl (lv_at hl 1 rfl) ?_
      refine gF0_48 C P hq1.1 rfl dX0_layTwo_49 ?_
      refine lv_iload hx hb dX0_layTwo_52 (lv_at hl 4 rfl) ?_
      refine z_iald C P hq1.2.1 dX0_layTwo_54 h (fun h hi => ?_)
      refine z_iast C P ho.2.1 dX0_layTwo_55 h (fun S55 H locs h P => ?_)
      refine lv_aload_n hx hb dX0_layTwo_56 rfl (lv_at hl 0 rfl) ?_
      refine gF0_19 C P ho.1 rfl dX0_layTwo_57 ?_
      refine lv_iload hx hb dX0_layTwo_60 (lv_at hl 4 rfl) ?_
      refine lv_aload_n hx hb dX0_layTwo_62 rfl (lv_at hl 1 rfl) ?_
      refine gF0_49 C P hq1.1 rfl dX0_layTwo_63 ?_
      refine lv_iload_n hx hb dX0_layTwo_66 rfl (lv_at hl 2 rfl) ?_
      refine z_aald C P hq1.2.2.2.1 (zrs3 q1) hq1.2.2.2.2.1 dX0_layTwo_67 h (fun h hg67 => ?_)
      refine lv_iload hx hb dX0_layTwo_68 (lv_at hl 4 rfl) ?_
      refine z_iald C P hg67 dX0_layTwo_70 h (fun h hi => ?_)
      refine lv_i2l hx hb dX0_layTwo_71 rfl ?_
      refine z_last C P ho.2.2.1 dX0_layTwo_72 h (fun S72 H locs h P => ?_)
      refine lv_aload_n hx hb dX0_layTwo_73 rfl (lv_at hl 0 rfl) ?_
      refine gF0_23 C P ho.1 rfl dX0_layTwo_74 ?_
      refine lv_iload hx hb dX0_layTwo_77 (lv_at hl 4 rfl) ?_
      refine lv_aload_n hx hb dX0_layTwo_79 rfl (lv_at hl 1 rfl) ?_
      refine gF0_49 C P hq1.1 rfl dX0_layTwo_80 ?_
      refine lv_iload_n hx hb dX0_layTwo_83 rfl (lv_at hl 3 rfl) ?_
      refine z_aald C P hq1.2.2.2.1 (zrs3 q1) hq1.2.2.2.2.1 dX0_layTwo_84 h (fun h hg84 => ?_)
      refine lv_iload hx hb dX0_layTwo_85 (lv_at hl 4 rfl) ?_
      refine z_iald C P hg84 dX0_layTwo_87 h (fun h hi => ?_)
      refine lv_i2l hx hb dX0_layTwo_88 rfl ?_
      refine z_last C P ho.2.2.2.1 dX0_layTwo_89 h (fun S89 H locs h P => ?_)
      obtain ⟨v90, ev90, h⟩ := z_nm h
      refine lv_iinc (v := v90) (lv' := [(4, .int v90), (0, .ref (ad o)), (1, .ref (ad q1)), (2, .int x2), (3, .int x3)]) hx hb dX0_layTwo_90 hl (k := 4) rfl (by rw [ev90]; rfl) (by decide) rfl (fun ls hl => ?_)
      refine lv_goto (tgt := 33) hx hb dX0_layTwo_93 (by decide) ?_
      exact ih _ _ _ _ _ _ _ h P (lv_sub hl [1, 2, 3, 4, 0] rfl)
theorem m0_layTwo {l : Launch} {D : va_G} {cA : Nat → ClassId} {ad : Nat → Nat} {o : Nat} (ho : zPr o) {q1 : Nat} (hq1 : zW q1) {x2 : Int32} {x3 : Int32} {S : Zs} {z : Zs} (h : f0_layTwo o q1 x2 x3 S = some z) :
    zMv l yX0_layTwo cX0_layTwo 5 0 0 D zC ad cA S [.ref (ad o), .ref (ad q1), .int x2, .int x3] z := by
  refine z_enter (Qc := fun A => zQv D zC ad cA A z) (by decide +kernel) (Nat.le_of_ble_eq_true rfl) (fun p e s m below meth c A C P ls hl => ?_)
  have hx := C.1
  have hb := C.2.1
  have hl : lv_has ls 5 [(0, .ref (ad o)), (1, .ref (ad q1)), (2, .int x2), (3, .int x3)] := hl
  unfold f0_layTwo at h
  refine lv_aload_n hx hb dX0_layTwo_0 rfl (lv_at hl 0 rfl) ?_
  refine lv_aload_n hx hb dX0_layTwo_1 rfl (lv_at hl 1 rfl) ?_
  refine gF0_42 C P hq1.1 rfl dX0_layTwo_2 ?_
  refine pF0_9 C P ho.1 rfl dX0_layTwo_5 h (fun S5 H locs h P => ?_)
  refine lv_aload_n hx hb dX0_layTwo_8 rfl (lv_at hl 0 rfl) ?_
  refine lv_aload_n hx hb dX0_layTwo_9 rfl (lv_at hl 1 rfl) ?_
  refine gF0_45 C P hq1.1 rfl dX0_layTwo_10 ?_
  refine lv_iload_n hx hb dX0_layTwo_13 rfl (lv_at hl 2 rfl) ?_
  refine z_iald C P hq1.2.2.1 dX0_layTwo_14 h (fun h hi => ?_)
  refine lv_i2l hx hb dX0_layTwo_15 rfl ?_
  refine pF0_29 C P ho.1 rfl dX0_layTwo_16 h (fun S16 H locs h P => ?_)
  refine lv_aload_n hx hb dX0_layTwo_19 rfl (lv_at hl 0 rfl) ?_
  refine lv_aload_n hx hb dX0_layTwo_20 rfl (lv_at hl 1 rfl) ?_
  refine gF0_45 C P hq1.1 rfl dX0_layTwo_21 ?_
  refine lv_iload_n hx hb dX0_layTwo_24 rfl (lv_at hl 3 rfl) ?_
  refine z_iald C P hq1.2.2.1 dX0_layTwo_25 h (fun h hi => ?_)
  refine lv_i2l hx hb dX0_layTwo_26 rfl ?_
  refine pF0_33 C P ho.1 rfl dX0_layTwo_27 h (fun S27 H locs h P => ?_)
  refine lv_iconst (v := 0) hx hb dX0_layTwo_30 (by decide) ?_
  refine lv_istore (lv' := [(4, .int (0 : Int32)), (0, .ref (ad o)), (1, .ref (ad q1)), (2, .int x2), (3, .int x3)]) hx hb dX0_layTwo_31 hl (by decide) rfl (fun ls hl => ?_)
  exact w0_layTwo_33 C ho hq1 _ _ _ _ _ _ _ _ h P (lv_sub hl [1, 2, 3, 4, 0] rfl)
end ZVC1
