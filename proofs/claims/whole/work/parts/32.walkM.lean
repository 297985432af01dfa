section ZVM2
variable {p : Program} {l : Launch} {e : Env} {s : State} {m : MethodId} {args : Array Value} {below : List Frame} {meth : Method} {c : Code} {D : va_G} {cA : Nat → ClassId} {A : Nat → Prop} {ad : Nat → Nat}
theorem w7_world_139 (C : zCx p s m args meth c cX7_world 2 RX7 (some .long) D ad cA A) {z : Int64 × Zs} :
    ∀ (n : Nat) (x1 : Int32) (S : Zs) (H : Heap) (locs : List Loc) (ls : Array Slot), f7_world_139 n x1 S = some z → zP D zM ad cA A S s H locs → lv_has ls 2 [(0, .ref (ad 0)), (1, .int x1)] → W p l e (zrm 5 109) s m args below meth c H locs 0 0 (MQ below (zQl D zM ad cA A z) args s 0 0 A) (F0 m 139 ls []) := by
  have hx := C.1
  have hb := C.2.1
  intro n
  induction n with
  | zero =>
    intro x1 S H locs ls h
    cases h
  | succ n ih =>
    intro x1 S H locs ls h P hl
    unfold f7_world_139 at h
    refine lv_iload_n hx hb dX7_world_139 rfl (lv_at hl 1 rfl) ?_
    refine lv_bipush (v := 18) hx hb dX7_world_140 (by decide) ?_
    refine z_icmp_ge (tgt := 197) hx hb dX7_world_142 (by decide) h (fun h => ?_) (fun h => ?_)
    · refine lv_aload_n hx hb dX7_world_197 rfl (lv_at hl 0 rfl) ?_
      refine lv_iconst (v := 0) hx hb dX7_world_198 (by decide) ?_
      refine pF7_182 C P zm0 rfl dX7_world_199 (by decide) (by decide) h (fun S199 H locs h P => ?_)
      refine lv_aload_n hx hb dX7_world_202 rfl (lv_at hl 0 rfl) ?_
      refine lv_iconst (v := 0) hx hb dX7_world_203 (by decide) ?_
      refine pF7_186 C P zm0 rfl dX7_world_204 (by decide) (by decide) h (fun S204 H locs h P => ?_)
      refine lv_aload_n hx hb dX7_world_207 rfl (lv_at hl 0 rfl) ?_
      refine gF7_176 C P zm0 rfl dX7_world_208 ?_
      refine lv_i2l hx hb dX7_world_211 rfl ?_
      exact z_lret C P (Option.some.inj h) dX7_world_212
    · refine lv_aload_n hx hb dX7_world_145 rfl (lv_at hl 0 rfl) ?_
      refine gF7_25 C P zm0 rfl dX7_world_146 ?_
      refine lv_iload_n hx hb dX7_world_149 rfl (lv_at hl 1 rfl) ?_
      refine lv_aload_n hx hb dX7_world_150 rfl (lv_at hl 0 rfl) ?_
      refine gF7_34 C P zm0 rfl dX7_world_151 ?_
      refine lv_iload_n hx hb dX7_world_154 rfl (lv_at hl 1 rfl) ?_
      refine z_iald C P zm9 dX7_world_155 h (fun h hi => ?_)
      refine z_iast C P zm6 dX7_world_156 h (fun S156 H locs h P => ?_)
      refine lv_aload_n hx hb dX7_world_157 rfl (lv_at hl 0 rfl) ?_
      refine gF7_19 C P zm0 rfl dX7_world_158 ?_
      refine lv_iload_n hx hb dX7_world_161 rfl (lv_at hl 1 rfl) ?_
      refine lv_bipush (v := 6) hx hb dX7_world_162 (by decide) ?_
      refine z_irem hx hb dX7_world_164 h (fun h => ?_)
      refine lv_aload_n hx hb dX7_world_165 rfl (lv_at hl 0 rfl) ?_
      refine gF7_28 C P zm0 rfl dX7_world_166 ?_
      refine lv_iload_n hx hb dX7_world_169 rfl (lv_at hl 1 rfl) ?_
      refine lv_bipush (v := 6) hx hb dX7_world_170 (by decide) ?_
      refine z_irem hx hb dX7_world_172 h (fun h => ?_)
      refine z_iald C P zm7 dX7_world_173 h (fun h hi => ?_)
      refine z_iast C P zm4 dX7_world_174 h (fun S174 H locs h P => ?_)
      refine lv_aload_n hx hb dX7_world_175 rfl (lv_at hl 0 rfl) ?_
      refine gF7_22 C P zm0 rfl dX7_world_176 ?_
      refine lv_iload_n hx hb dX7_world_179 rfl (lv_at hl 1 rfl) ?_
      refine lv_iconst (v := 3) hx hb dX7_world_180 (by decide) ?_
      refine z_irem hx hb dX7_world_181 h (fun h => ?_)
      refine lv_aload_n hx hb dX7_world_182 rfl (lv_at hl 0 rfl) ?_
      refine gF7_31 C P zm0 rfl dX7_world_183 ?_
      refine lv_iload_n hx hb dX7_world_186 rfl (lv_at hl 1 rfl) ?_
      refine lv_iconst (v := 3) hx hb dX7_world_187 (by decide) ?_
      refine z_irem hx hb dX7_world_188 h (fun h => ?_)
      refine z_iald C P zm8 dX7_world_189 h (fun h hi => ?_)
      refine z_iast C P zm5 dX7_world_190 h (fun S190 H locs h P => ?_)
      obtain ⟨v191, ev191, h⟩ := z_nm h
      refine lv_iinc (v := v191) (lv' := [(1, .int v191), (0, .ref (ad 0))]) hx hb dX7_world_191 hl (k := 1) rfl (by rw [ev191]; rfl) (by decide) rfl (fun ls hl => ?_)
      refine lv_goto (tgt := 139) hx hb dX7_world_194 (by decide) ?_
      exact ih _ _ _ _ _ h P (lv_sub hl [1, 0] rfl)
theorem w7_world_96 (C : zCx p s m args meth c cX7_world 2 RX7 (some .long) D ad cA A) {z : Int64 × Zs} (S : Zs) (H : Heap) (locs : List Loc) (ls : Array Slot) (h : f7_world_96 S = some z) (P : zP D zM ad cA A S s H locs) (hl : lv_has ls 2 [(0, .ref (ad 0))]) :
    W p l e (zrm 5 109) s m args below meth c H locs 0 0 (MQ below (zQl D zM ad cA A z) args s 0 0 A) (F0 m 96 ls []) := by
  have hx := C.1
  have hb := C.2.1
  unfold f7_world_96 at h
  refine lv_aload_n hx hb dX7_world_96 rfl (lv_at hl 0 rfl) ?_
  refine gF7_124 C P zm0 rfl dX7_world_97 ?_
  refine z_if_le (tgt := 121) hx hb dX7_world_100 (by decide) h (fun h => ?_) (fun h => ?_)
  · refine lv_aload_n hx hb dX7_world_121 rfl (lv_at hl 0 rfl) ?_
    refine lv_aload_n hx hb dX7_world_122 rfl (lv_at hl 0 rfl) ?_
    refine gF7_162 C P zm0 rfl dX7_world_123 ?_
    refine pF7_176 C P zm0 rfl dX7_world_126 h (fun S126 H locs h P => ?_)
    refine lv_aload_n hx hb dX7_world_129 rfl (lv_at hl 0 rfl) ?_
    refine lv_aload_n hx hb dX7_world_130 rfl (lv_at hl 0 rfl) ?_
    refine gF7_151 C P zm0 rfl dX7_world_131 ?_
    refine pF7_179 C P zm0 rfl dX7_world_134 h (fun S134 H locs h P => ?_)
    refine lv_iconst (v := 0) hx hb dX7_world_137 (by decide) ?_
    refine lv_istore_n (lv' := [(1, .int (0 : Int32)), (0, .ref (ad 0))]) hx hb dX7_world_138 rfl hl (by decide) rfl (fun ls hl => ?_)
    exact w7_world_139 C _ _ _ _ _ _ h P (lv_sub hl [1, 0] rfl)
  · refine lv_aload_n hx hb dX7_world_103 rfl (lv_at hl 0 rfl) ?_
    refine lv_aload_n hx hb dX7_world_104 rfl (lv_at hl 0 rfl) ?_
    refine gF7_124 C P zm0 rfl dX7_world_105 ?_
    refine pF7_171 C P zm0 rfl dX7_world_108 h (fun S108 H locs h P => ?_)
    refine lv_ldc2 (v := (-9000000000000000100)) hx hb C.2.2.2.1 (C.2.2.2.2.1 _ kK7_174) dX7_world_111 ?_
    refine lv_aload_n hx hb dX7_world_114 rfl (lv_at hl 0 rfl) ?_
    refine gF7_127 C P zm0 rfl dX7_world_115 ?_
    refine lv_i2l hx hb dX7_world_118 rfl ?_
    refine lv_lsub hx hb dX7_world_119 ?_
    exact z_lret C P (Option.some.inj h) dX7_world_120
theorem w7_world_74 (C : zCx p s m args meth c cX7_world 2 RX7 (some .long) D ad cA A) {z : Int64 × Zs} :
    ∀ (n : Nat) (S : Zs) (H : Heap) (locs : List Loc) (ls : Array Slot), f7_world_74 n S = some z → zP D zM ad cA A S s H locs → lv_has ls 2 [(0, .ref (ad 0))] → W p l e (zrm 5 109) s m args below meth c H locs 0 0 (MQ below (zQl D zM ad cA A z) args s 0 0 A) (F0 m 74 ls []) := by
  have hx := C.1
  have hb := C.2.1
  intro n
  induction n with
  | zero =>
    intro S H locs ls h
    cases h
  | succ n ih =>
    intro S H locs ls h P hl
    unfold f7_world_74 at h
    refine lv_aload_n hx hb dX7_world_74 rfl (lv_at hl 0 rfl) ?_
    refine gF7_124 C P zm0 rfl dX7_world_75 ?_
    refine z_if_ne (tgt := 96) hx hb dX7_world_78 (by decide) h (fun h => ?_) (fun h => ?_)
    · exact w7_world_96 C _ _ _ _ h P (lv_sub hl [0] rfl)
    · refine lv_aload_n hx hb dX7_world_81 rfl (lv_at hl 0 rfl) ?_
      refine gF7_112 C P zm0 rfl dX7_world_82 ?_
      refine lv_iconst (v := 1) hx hb dX7_world_85 (by decide) ?_
      refine z_icmp_eq (tgt := 96) hx hb dX7_world_86 (by decide) h (fun h => ?_) (fun h => ?_)
      · exact w7_world_96 C _ _ _ _ h P (lv_sub hl [0] rfl)
      · refine lv_aload_n hx hb dX7_world_89 rfl (lv_at hl 0 rfl) ?_
        obtain ⟨S90, g90, h⟩ := bd1_some h
        refine z_callVv C P (As := []) (m7_readLand g90) cW7_168 rfl zm0 rfl (by decide) hl.1 rfl (Nat.le_of_ble_eq_true rfl) dX7_world_90 ⟨Nat.zero_le _, Nat.zero_le _⟩ (fun H locs P => ?_)
        refine lv_goto (tgt := 74) hx hb dX7_world_93 (by decide) ?_
        exact ih _ _ _ _ h P (lv_sub hl [0] rfl)
theorem w7_world_46 (C : zCx p s m args meth c cX7_world 2 RX7 (some .long) D ad cA A) {z : Int64 × Zs} :
    ∀ (n : Nat) (S : Zs) (H : Heap) (locs : List Loc) (ls : Array Slot), f7_world_46 n S = some z → zP D zM ad cA A S s H locs → lv_has ls 2 [(0, .ref (ad 0))] → W p l e (zrm 5 109) s m args below meth c H locs 0 0 (MQ below (zQl D zM ad cA A z) args s 0 0 A) (F0 m 46 ls []) := by
  have hx := C.1
  have hb := C.2.1
  intro n
  induction n with
  | zero =>
    intro S H locs ls h
    cases h
  | succ n ih =>
    intro S H locs ls h P hl
    unfold f7_world_46 at h
    refine lv_aload_n hx hb dX7_world_46 rfl (lv_at hl 0 rfl) ?_
    refine lv_ldc2 (v := 1735356260) hx hb C.2.2.2.1 (C.2.2.2.2.1 _ kK7_145) dX7_world_47 ?_
    obtain ⟨r50, g50, h⟩ := bd1_some h
    refine z_callVb C P (As := [.long (1735356260 : Int64)]) (m7_isWord g50) cW7_147 rfl zm0 rfl (by decide) hl.1 rfl (Nat.le_of_ble_eq_true rfl) dX7_world_50 ⟨Nat.zero_le _, Nat.zero_le _⟩ (fun H locs n50 P => ?_)
    refine z_if_eq (tgt := 63) hx hb dX7_world_53 (by decide) h (fun h => ?_) (fun h => ?_)
    · refine lv_aload_n hx hb dX7_world_63 rfl (lv_at hl 0 rfl) ?_
      refine gF7_124 C P zm0 rfl dX7_world_64 ?_
      refine z_if_ne (tgt := 74) hx hb dX7_world_67 (by decide) h (fun h => ?_) (fun h => ?_)
      · exact w7_world_74 C _ _ _ _ _ h P (lv_sub hl [0] rfl)
      · refine lv_aload_n hx hb dX7_world_70 rfl (lv_at hl 0 rfl) ?_
        obtain ⟨S71, g71, h⟩ := bd1_some h
        refine z_callVv C P (As := []) (m7_readLand g71) cW7_168 rfl zm0 rfl (by decide) hl.1 rfl (Nat.le_of_ble_eq_true rfl) dX7_world_71 ⟨Nat.zero_le _, Nat.zero_le _⟩ (fun H locs P => ?_)
        exact w7_world_74 C _ _ _ _ _ h P (lv_sub hl [0] rfl)
    · refine lv_aload_n hx hb dX7_world_56 rfl (lv_at hl 0 rfl) ?_
      obtain ⟨S57, g57, h⟩ := bd1_some h
      refine z_callVv C P (As := []) (m7_readGood g57) cW7_165 rfl zm0 rfl (by decide) hl.1 rfl (Nat.le_of_ble_eq_true rfl) dX7_world_57 ⟨Nat.zero_le _, Nat.zero_le _⟩ (fun H locs P => ?_)
      refine lv_goto (tgt := 46) hx hb dX7_world_60 (by decide) ?_
      exact ih _ _ _ _ h P (lv_sub hl [0] rfl)
theorem m7_world {l : Launch} {D : va_G} {cA : Nat → ClassId} {ad : Nat → Nat} {S : Zs} {z : Int64 × Zs} (h : f7_world S = some z) :
    zMl l yX7_world cX7_world 2 5 109 D zM ad cA S [.ref (ad 0)] z := by
  refine z_enter (Qc := fun A => zQl D zM ad cA A z) (by decide +kernel) (Nat.le_of_ble_eq_true rfl) (fun p e s m below meth c A C P ls hl => ?_)
  have hx := C.1
  have hb := C.2.1
  have hl : lv_has ls 2 [(0, .ref (ad 0))] := hl
  unfold f7_world at h
  refine lv_aload_n hx hb dX7_world_0 rfl (lv_at hl 0 rfl) ?_
  refine lv_iconst (v := 0) hx hb dX7_world_1 (by decide) ?_
  refine pF7_62 C P zm0 rfl dX7_world_2 h (fun S2 H locs h P => ?_)
  refine lv_aload_n hx hb dX7_world_5 rfl (lv_at hl 0 rfl) ?_
  refine lv_aload_n hx hb dX7_world_6 rfl (lv_at hl 0 rfl) ?_
  refine gF7_91 C P zm0 rfl dX7_world_7 ?_
  refine pF7_98 C P zm0 rfl dX7_world_10 h (fun S10 H locs h P => ?_)
  refine lv_aload_n hx hb dX7_world_13 rfl (lv_at hl 0 rfl) ?_
  refine lv_iconst (v := 0) hx hb dX7_world_14 (by decide) ?_
  refine pF7_91 C P zm0 rfl dX7_world_15 h (fun S15 H locs h P => ?_)
  refine lv_aload_n hx hb dX7_world_18 rfl (lv_at hl 0 rfl) ?_
  refine lv_iconst (v := 0) hx hb dX7_world_19 (by decide) ?_
  refine pF7_102 C P zm0 rfl dX7_world_20 h (fun S20 H locs h P => ?_)
  refine lv_aload_n hx hb dX7_world_23 rfl (lv_at hl 0 rfl) ?_
  refine lv_iconst (v := 0) hx hb dX7_world_24 (by decide) ?_
  refine pF7_124 C P zm0 rfl dX7_world_25 h (fun S25 H locs h P => ?_)
  refine lv_aload_n hx hb dX7_world_28 rfl (lv_at hl 0 rfl) ?_
  refine lv_iconst (v := 0) hx hb dX7_world_29 (by decide) ?_
  refine pF7_162 C P zm0 rfl dX7_world_30 h (fun S30 H locs h P => ?_)
  refine lv_aload_n hx hb dX7_world_33 rfl (lv_at hl 0 rfl) ?_
  refine lv_iconst (v := 0) hx hb dX7_world_34 (by decide) ?_
  refine pF7_151 C P zm0 rfl dX7_world_35 h (fun S35 H locs h P => ?_)
  refine lv_aload_n hx hb dX7_world_38 rfl (lv_at hl 0 rfl) ?_
  obtain ⟨S39, g39, h⟩ := bd1_some h
  refine z_callVv C P (As := []) (m7_next g39) cW7_134 rfl zm0 rfl (by decide) hl.1 rfl (Nat.le_of_ble_eq_true rfl) dX7_world_39 ⟨Nat.zero_le _, Nat.zero_le _⟩ (fun H locs P => ?_)
  refine lv_aload_n hx hb dX7_world_42 rfl (lv_at hl 0 rfl) ?_
  obtain ⟨S43, g43, h⟩ := bd1_some h
  refine z_callVv C P (As := []) (m7_readGood g43) cW7_165 rfl zm0 rfl (by decide) hl.1 rfl (Nat.le_of_ble_eq_true rfl) dX7_world_43 ⟨Nat.zero_le _, Nat.zero_le _⟩ (fun H locs P => ?_)
  exact w7_world_46 C _ _ _ _ _ h P (lv_sub hl [0] rfl)
theorem m7_fault {l : Launch} {D : va_G} {cA : Nat → ClassId} {ad : Nat → Nat} {S : Zs} {z : Int32 × Zs} (h : f7_fault S = some z) :
    zMi l yX7_fault cX7_fault 1 0 0 D zM ad cA S [.ref (ad 0)] z := by
  refine z_enter (Qc := fun A => zQi D zM ad cA A z) (by decide +kernel) (Nat.le_of_ble_eq_true rfl) (fun p e s m below meth c A C P ls hl => ?_)
  have hx := C.1
  have hb := C.2.1
  have hl : lv_has ls 1 [(0, .ref (ad 0))] := hl
  unfold f7_fault at h
  refine lv_aload_n hx hb dX7_fault_0 rfl (lv_at hl 0 rfl) ?_
  refine lv_iconst (v := 0) hx hb dX7_fault_1 (by decide) ?_
  refine pF7_62 C P zm0 rfl dX7_fault_2 h (fun S2 H locs h P => ?_)
  refine lv_aload_n hx hb dX7_fault_5 rfl (lv_at hl 0 rfl) ?_
  refine gF7_171 C P zm0 rfl dX7_fault_6 ?_
  exact z_iret C P (Option.some.inj h) dX7_fault_9
theorem m7_isLand {l : Launch} {D : va_G} {cA : Nat → ClassId} {ad : Nat → Nat} {x1 : Int32} {S : Zs} :
    zMb l yX7_isLand cX7_isLand 2 1 25 D zM ad cA S [.ref (ad 0), .int x1] (f7_isLand S x1, S) := by
  obtain ⟨z, h⟩ : ∃ z, f7_isLand S x1 = z := ⟨_, rfl⟩
  rw [h]
  refine z_enter (Qc := fun A => zQb D zM ad cA A (z, S)) (by decide +kernel) (Nat.le_of_ble_eq_true rfl) (fun p e s m below meth c A C P ls hl => ?_)
  have hx := C.1
  have hb := C.2.1
  have hl : lv_has ls 2 [(0, .ref (ad 0)), (1, .int x1)] := hl
  unfold f7_isLand at h
  refine lv_iload_n hx hb dX7_isLand_0 rfl (lv_at hl 1 rfl) ?_
  refine lv_i2l hx hb dX7_isLand_1 rfl ?_
  refine lv_lconst (v := 0) hx hb dX7_isLand_2 (by decide) ?_
  refine lv_aload_n hx hb dX7_isLand_3 rfl (lv_at hl 0 rfl) ?_
  refine gF7_176 C P zm0 rfl dX7_isLand_4 ?_
  refine lv_iconst (v := 1) hx hb dX7_isLand_7 (by decide) ?_
  refine lv_isub hx hb dX7_isLand_8 ?_
  refine lv_i2l hx hb dX7_isLand_9 rfl ?_
  refine z_callSb C P (As := [.long x1.toInt64, .long (0 : Int64), .long (((S.1 0 5) - (1 : Int32)).toInt64)]) (m7_in) cW7_73 rfl (by decide) hl.1 rfl (Nat.le_of_ble_eq_true rfl) dX7_isLand_10 ⟨Nat.zero_le _, Nat.zero_le _⟩ (fun H locs n10 P => ?_)
  exact z_zret C P (by rw [h]) n10 dX7_isLand_13
theorem m7_isGood {l : Launch} {D : va_G} {cA : Nat → ClassId} {ad : Nat → Nat} {x1 : Int32} {S : Zs} :
    zMb l yX7_isGood cX7_isGood 2 1 25 D zM ad cA S [.ref (ad 0), .int x1] (f7_isGood S x1, S) := by
  obtain ⟨z, h⟩ : ∃ z, f7_isGood S x1 = z := ⟨_, rfl⟩
  rw [h]
  refine z_enter (Qc := fun A => zQb D zM ad cA A (z, S)) (by decide +kernel) (Nat.le_of_ble_eq_true rfl) (fun p e s m below meth c A C P ls hl => ?_)
  have hx := C.1
  have hb := C.2.1
  have hl : lv_has ls 2 [(0, .ref (ad 0)), (1, .int x1)] := hl
  unfold f7_isGood at h
  refine lv_iload_n hx hb dX7_isGood_0 rfl (lv_at hl 1 rfl) ?_
  refine lv_i2l hx hb dX7_isGood_1 rfl ?_
  refine lv_lconst (v := 0) hx hb dX7_isGood_2 (by decide) ?_
  refine lv_aload_n hx hb dX7_isGood_3 rfl (lv_at hl 0 rfl) ?_
  refine gF7_179 C P zm0 rfl dX7_isGood_4 ?_
  refine lv_iconst (v := 1) hx hb dX7_isGood_7 (by decide) ?_
  refine lv_isub hx hb dX7_isGood_8 ?_
  refine lv_i2l hx hb dX7_isGood_9 rfl ?_
  refine z_callSb C P (As := [.long x1.toInt64, .long (0 : Int64), .long (((S.1 0 6) - (1 : Int32)).toInt64)]) (m7_in) cW7_73 rfl (by decide) hl.1 rfl (Nat.le_of_ble_eq_true rfl) dX7_isGood_10 ⟨Nat.zero_le _, Nat.zero_le _⟩ (fun H locs n10 P => ?_)
  exact z_zret C P (by rw [h]) n10 dX7_isGood_13
theorem m7_told {l : Launch} {D : va_G} {cA : Nat → ClassId} {ad : Nat → Nat} {x1 : Int32} {x2 : Int32} {x3 : Int32} {S : Zs} {z : Int64 × Zs} (h : f7_told x1 x2 x3 S = some z) :
    zMl l yX7_told cX7_told 4 2 46 D zM ad cA S [.ref (ad 0), .int x1, .int x2, .int x3] z := by
  refine z_enter (Qc := fun A => zQl D zM ad cA A z) (by decide +kernel) (Nat.le_of_ble_eq_true rfl) (fun p e s m below meth c A C P ls hl => ?_)
  have hx := C.1
  have hb := C.2.1
  have hl : lv_has ls 4 [(0, .ref (ad 0)), (1, .int x1), (2, .int x2), (3, .int x3)] := hl
  unfold f7_told at h
  refine lv_aload_n hx hb dX7_told_0 rfl (lv_at hl 0 rfl) ?_
  refine lv_iconst (v := 0) hx hb dX7_told_1 (by decide) ?_
  refine pF7_62 C P zm0 rfl dX7_told_2 h (fun S2 H locs h P => ?_)
  refine lv_aload_n hx hb dX7_told_5 rfl (lv_at hl 0 rfl) ?_
  refine lv_iload_n hx hb dX7_told_6 rfl (lv_at hl 1 rfl) ?_
  refine z_callVb C P (As := [.int x1]) (m7_isLand) cW7_189 rfl zm0 rfl (by decide) hl.1 rfl (Nat.le_of_ble_eq_true rfl) dX7_told_7 ⟨Nat.zero_le _, Nat.zero_le _⟩ (fun H locs n7 P => ?_)
  refine z_if_eq (tgt := 33) hx hb dX7_told_10 (by decide) h (fun h => ?_) (fun h => ?_)
  · refine lv_ldc2 (v := (-9000000000000000001)) hx hb C.2.2.2.1 (C.2.2.2.2.1 _ kK7_83) dX7_told_33 ?_
    refine lv_goto (tgt := 80) hx hb dX7_told_36 (by decide) ?_
    exact z_lret C P (Option.some.inj h) dX7_told_80
  · refine lv_aload_n hx hb dX7_told_13 rfl (lv_at hl 0 rfl) ?_
    refine lv_iload_n hx hb dX7_told_14 rfl (lv_at hl 2 rfl) ?_
    refine z_callVb C P (As := [.int x2]) (m7_isGood) cW7_192 rfl zm0 rfl (by decide) hl.1 rfl (Nat.le_of_ble_eq_true rfl) dX7_told_15 ⟨Nat.zero_le _, Nat.zero_le _⟩ (fun H locs n15 P => ?_)
    refine z_if_eq (tgt := 33) hx hb dX7_told_18 (by decide) h (fun h => ?_) (fun h => ?_)
    · refine lv_ldc2 (v := (-9000000000000000001)) hx hb C.2.2.2.1 (C.2.2.2.2.1 _ kK7_83) dX7_told_33 ?_
      refine lv_goto (tgt := 80) hx hb dX7_told_36 (by decide) ?_
      exact z_lret C P (Option.some.inj h) dX7_told_80
    · refine lv_iload_n hx hb dX7_told_21 rfl (lv_at hl 3 rfl) ?_
      refine lv_i2l hx hb dX7_told_22 rfl ?_
      refine lv_lconst (v := 0) hx hb dX7_told_23 (by decide) ?_
      refine lv_ldc2 (v := 2) hx hb C.2.2.2.1 (C.2.2.2.2.1 _ kK7_81) dX7_told_24 ?_
      refine z_callSb C P (As := [.long x3.toInt64, .long (0 : Int64), .long (2 : Int64)]) (m7_in) cW7_73 rfl (by decide) hl.1 rfl (Nat.le_of_ble_eq_true rfl) dX7_told_27 ⟨Nat.zero_le _, Nat.zero_le _⟩ (fun H locs n27 P => ?_)
      refine z_if_ne (tgt := 39) hx hb dX7_told_30 (by decide) h (fun h => ?_) (fun h => ?_)
      · refine lv_iload_n hx hb dX7_told_39 rfl (lv_at hl 3 rfl) ?_
        refine z_if_ne (tgt := 58) hx hb dX7_told_40 (by decide) h (fun h => ?_) (fun h => ?_)
        · refine lv_iload_n hx hb dX7_told_58 rfl (lv_at hl 3 rfl) ?_
          refine lv_iconst (v := 1) hx hb dX7_told_59 (by decide) ?_
          refine z_icmp_ne (tgt := 73) hx hb dX7_told_60 (by decide) h (fun h => ?_) (fun h => ?_)
          · refine lv_aload_n hx hb dX7_told_73 rfl (lv_at hl 0 rfl) ?_
            refine gF7_19 C P zm0 rfl dX7_told_74 ?_
            refine lv_iload_n hx hb dX7_told_77 rfl (lv_at hl 2 rfl) ?_
            refine z_iald C P zm4 dX7_told_78 h (fun h hi => ?_)
            refine lv_i2l hx hb dX7_told_79 rfl ?_
            exact z_lret C P (Option.some.inj h) dX7_told_80
          · refine lv_aload_n hx hb dX7_told_63 rfl (lv_at hl 0 rfl) ?_
            refine gF7_22 C P zm0 rfl dX7_told_64 ?_
            refine lv_iload_n hx hb dX7_told_67 rfl (lv_at hl 1 rfl) ?_
            refine z_iald C P zm5 dX7_told_68 h (fun h hi => ?_)
            refine lv_i2l hx hb dX7_told_69 rfl ?_
            refine lv_goto (tgt := 80) hx hb dX7_told_70 (by decide) ?_
            exact z_lret C P (Option.some.inj h) dX7_told_80
        · refine lv_aload_n hx hb dX7_told_43 rfl (lv_at hl 0 rfl) ?_
          refine gF7_25 C P zm0 rfl dX7_told_44 ?_
          refine lv_bipush (v := 6) hx hb dX7_told_47 (by decide) ?_
          refine lv_iload_n hx hb dX7_told_49 rfl (lv_at hl 1 rfl) ?_
          refine lv_imul hx hb dX7_told_50 ?_
          refine lv_iload_n hx hb dX7_told_51 rfl (lv_at hl 2 rfl) ?_
          refine lv_iadd hx hb dX7_told_52 ?_
          refine z_iald C P zm6 dX7_told_53 h (fun h hi => ?_)
          refine lv_i2l hx hb dX7_told_54 rfl ?_
          refine lv_goto (tgt := 80) hx hb dX7_told_55 (by decide) ?_
          exact z_lret C P (Option.some.inj h) dX7_told_80
      · refine lv_ldc2 (v := (-9000000000000000001)) hx hb C.2.2.2.1 (C.2.2.2.2.1 _ kK7_83) dX7_told_33 ?_
        refine lv_goto (tgt := 80) hx hb dX7_told_36 (by decide) ?_
        exact z_lret C P (Option.some.inj h) dX7_told_80
theorem m7_counts {l : Launch} {D : va_G} {cA : Nat → ClassId} {ad : Nat → Nat} {x1 : Int32} {x2 : Int32} {S : Zs} :
    zMb l yX7_counts cX7_counts 3 0 0 D zM ad cA S [.ref (ad 0), .int x1, .int x2] (f7_counts x1 x2, S) := by
  obtain ⟨z, h⟩ : ∃ z, f7_counts x1 x2 = z := ⟨_, rfl⟩
  rw [h]
  refine z_enter (Qc := fun A => zQb D zM ad cA A (z, S)) (by decide +kernel) (Nat.le_of_ble_eq_true rfl) (fun p e s m below meth c A C P ls hl => ?_)
  have hx := C.1
  have hb := C.2.1
  have hl : lv_has ls 3 [(0, .ref (ad 0)), (1, .int x1), (2, .int x2)] := hl
  unfold f7_counts at h
  refine lv_iload_n hx hb dX7_counts_0 rfl (lv_at hl 1 rfl) ?_
  refine lv_iload_n hx hb dX7_counts_1 rfl (lv_at hl 2 rfl) ?_
  refine lv_ishr hx hb dX7_counts_2 ?_
  refine lv_iconst (v := 1) hx hb dX7_counts_3 (by decide) ?_
  refine lv_iand hx hb dX7_counts_4 ?_
  refine lv_iconst (v := 1) hx hb dX7_counts_5 (by decide) ?_
  refine z_icmp_ne (tgt := 13) hx hb dX7_counts_6 (by decide) h (fun h => ?_) (fun h => ?_)
  · refine lv_iconst (v := 0) hx hb dX7_counts_13 (by decide) ?_
    exact z_zret C P (by rw [h]) (by decide) dX7_counts_14
  · refine lv_iconst (v := 1) hx hb dX7_counts_9 (by decide) ?_
    refine lv_goto (tgt := 14) hx hb dX7_counts_10 (by decide) ?_
    exact z_zret C P (by rw [h]) (by decide) dX7_counts_14
theorem m7_costOf {l : Launch} {D : va_G} {cA : Nat → ClassId} {ad : Nat → Nat} {x1 : Int32} {x2 : Int32} {S : Zs} {z : Int64} (h : f7_costOf S x1 x2 = some z) :
    zMl l yX7_costOf cX7_costOf 3 0 0 D zM ad cA S [.ref (ad 0), .int x1, .int x2] (z, S) := by
  refine z_enter (Qc := fun A => zQl D zM ad cA A (z, S)) (by decide +kernel) (Nat.le_of_ble_eq_true rfl) (fun p e s m below meth c A C P ls hl => ?_)
  have hx := C.1
  have hb := C.2.1
  have hl : lv_has ls 3 [(0, .ref (ad 0)), (1, .int x1), (2, .int x2)] := hl
  unfold f7_costOf at h
  refine lv_aload_n hx hb dX7_costOf_0 rfl (lv_at hl 0 rfl) ?_
  refine gF7_25 C P zm0 rfl dX7_costOf_1 ?_
  refine lv_bipush (v := 6) hx hb dX7_costOf_4 (by decide) ?_
  refine lv_iload_n hx hb dX7_costOf_6 rfl (lv_at hl 1 rfl) ?_
  refine lv_imul hx hb dX7_costOf_7 ?_
  refine lv_iload_n hx hb dX7_costOf_8 rfl (lv_at hl 2 rfl) ?_
  refine lv_iadd hx hb dX7_costOf_9 ?_
  refine z_iald C P zm6 dX7_costOf_10 h (fun h hi => ?_)
  refine lv_i2l hx hb dX7_costOf_11 rfl ?_
  refine lv_aload_n hx hb dX7_costOf_12 rfl (lv_at hl 0 rfl) ?_
  refine gF7_40 C P zm0 rfl dX7_costOf_13 ?_
  refine lv_iload_n hx hb dX7_costOf_16 rfl (lv_at hl 1 rfl) ?_
  refine z_lald C P zm11 dX7_costOf_17 h (fun h hi => ?_)
  refine lv_lmul hx hb dX7_costOf_18 ?_
  exact z_lret C P (by rw [Option.some.inj h]) dX7_costOf_19
theorem w7_priceOf_55 (C : zCx p s m args meth c cX7_priceOf 6 RX7 (some .long) D ad cA A) {z : Int64} {S : Zs} {k7 : Int32 → Int32 → Int64 → Int32 → Option Int64} (hk7 : ∀ (x1 : Int32) (x2 : Int32) (x3 : Int64) (x5 : Int32) (H : Heap) (locs : List Loc) (ls : Array Slot), k7 x1 x2 x3 x5 = some z → zP D zM ad cA A S s H locs → lv_has ls 6 [(0, .ref (ad 0)), (1, .int x1), (2, .int x2), (3, .long x3), (5, .int x5)] → W p l e (zrm 1 22) s m args below meth c H locs 0 0 (MQ below (zQl D zM ad cA A (z, S)) args s 0 0 A) (F0 m 7 ls [])) (x1 : Int32) (x2 : Int32) (x5 : Int32) (t0 : Int64) (H : Heap) (locs : List Loc) (ls : Array Slot) (h : f7_priceOf_55 S k7 x1 x2 x5 t0 = some z) (P : zP D zM ad cA A S s H locs) (hl : lv_has ls 6 [(0, .ref (ad 0)), (1, .int x1), (2, .int x2), (5, .int x5)]) :
    W p l e (zrm 1 22) s m args below meth c H locs 0 0 (MQ below (zQl D zM ad cA A (z, S)) args s 0 0 A) (F0 m 55 ls [.long t0]) := by
  have hx := C.1
  have hb := C.2.1
  unfold f7_priceOf_55 at h
  refine lv_lstore_n (lv' := [(3, .long t0), (0, .ref (ad 0)), (1, .int x1), (2, .int x2), (5, .int x5)]) hx hb dX7_priceOf_55 rfl hl (by decide) rfl (fun ls hl => ?_)
  obtain ⟨v56, ev56, h⟩ := z_nm h
  refine lv_iinc (v := v56) (lv' := [(5, .int v56), (3, .long t0), (0, .ref (ad 0)), (1, .int x1), (2, .int x2)]) hx hb dX7_priceOf_56 hl (k := 4) rfl (by rw [ev56]; rfl) (by decide) rfl (fun ls hl => ?_)
  refine lv_goto (tgt := 7) hx hb dX7_priceOf_59 (by decide) ?_
  exact hk7 _ _ _ _ _ _ _ h P (lv_sub hl [2, 3, 4, 1, 0] rfl)
theorem w7_priceOf_54 (C : zCx p s m args meth c cX7_priceOf 6 RX7 (some .long) D ad cA A) {z : Int64} {S : Zs} {k7 : Int32 → Int32 → Int64 → Int32 → Option Int64} (hk7 : ∀ (x1 : Int32) (x2 : Int32) (x3 : Int64) (x5 : Int32) (H : Heap) (locs : List Loc) (ls : Array Slot), k7 x1 x2 x3 x5 = some z → zP D zM ad cA A S s H locs → lv_has ls 6 [(0, .ref (ad 0)), (1, .int x1), (2, .int x2), (3, .long x3), (5, .int x5)] → W p l e (zrm 1 22) s m args below meth c H locs 0 0 (MQ below (zQl D zM ad cA A (z, S)) args s 0 0 A) (F0 m 7 ls [])) (x1 : Int32) (x2 : Int32) (x3 : Int64) (x5 : Int32) (H : Heap) (locs : List Loc) (ls : Array Slot) (h : f7_priceOf_54 S k7 x1 x2 x3 x5 = some z) (P : zP D zM ad cA A S s H locs) (hl : lv_has ls 6 [(0, .ref (ad 0)), (1, .int x1), (2, .int x2), (3, .long x3), (5, .int x5)]) :
    W p l e (zrm 1 22) s m args below meth c H locs 0 0 (MQ below (zQl D zM ad cA A (z, S)) args s 0 0 A) (F0 m 54 ls []) := by
  have hx := C.1
  have hb := C.2.1
  unfold f7_priceOf_54 at h
  refine lv_lload_n hx hb dX7_priceOf_54 rfl (lv_at hl 3 rfl) ?_
  exact w7_priceOf_55 C hk7 _ _ _ _ _ _ _ h P (lv_sub hl [0, 1, 2, 4] rfl)
theorem w7_priceOf_44 (C : zCx p s m args meth c cX7_priceOf 6 RX7 (some .long) D ad cA A) {z : Int64} {S : Zs} {k7 : Int32 → Int32 → Int64 → Int32 → Option Int64} (hk7 : ∀ (x1 : Int32) (x2 : Int32) (x3 : Int64) (x5 : Int32) (H : Heap) (locs : List Loc) (ls : Array Slot), k7 x1 x2 x3 x5 = some z → zP D zM ad cA A S s H locs → lv_has ls 6 [(0, .ref (ad 0)), (1, .int x1), (2, .int x2), (3, .long x3), (5, .int x5)] → W p l e (zrm 1 22) s m args below meth c H locs 0 0 (MQ below (zQl D zM ad cA A (z, S)) args s 0 0 A) (F0 m 7 ls [])) (x1 : Int32) (x2 : Int32) (x5 : Int32) (H : Heap) (locs : List Loc) (ls : Array Slot) (h : f7_priceOf_44 S k7 x1 x2 x5 = some z) (P : zP D zM ad cA A S s H locs) (hl : lv_has ls 6 [(0, .ref (ad 0)), (1, .int x1), (2, .int x2), (5, .int x5)]) :
    W p l e (zrm 1 22) s m args below meth c H locs 0 0 (MQ below (zQl D zM ad cA A (z, S)) args s 0 0 A) (F0 m 44 ls []) := by
  have hx := C.1
  have hb := C.2.1
  unfold f7_priceOf_44 at h
  refine lv_aload_n hx hb dX7_priceOf_44 rfl (lv_at hl 0 rfl) ?_
  refine lv_iload hx hb dX7_priceOf_45 (lv_at hl 3 rfl) ?_
  refine lv_iload_n hx hb dX7_priceOf_47 rfl (lv_at hl 2 rfl) ?_
  obtain ⟨r48, g48, h⟩ := bd1_some h
  refine z_callVl C P (As := [.int x5, .int x2]) (m7_costOf g48) cW7_201 rfl zm0 rfl (by decide) hl.1 rfl (Nat.le_of_ble_eq_true rfl) dX7_priceOf_48 ⟨Nat.zero_le _, Nat.zero_le _⟩ (fun H locs P => ?_)
  refine lv_goto (tgt := 55) hx hb dX7_priceOf_51 (by decide) ?_
  exact w7_priceOf_55 C hk7 _ _ _ _ _ _ _ h P (lv_sub hl [0, 1, 2, 3] rfl)
theorem w7_priceOf_7 (C : zCx p s m args meth c cX7_priceOf 6 RX7 (some .long) D ad cA A) {z : Int64} {S : Zs} :
    ∀ (n : Nat) (x1 : Int32) (x2 : Int32) (x3 : Int64) (x5 : Int32) (H : Heap) (locs : List Loc) (ls : Array Slot), f7_priceOf_7 S n x1 x2 x3 x5 = some z → zP D zM ad cA A S s H locs → lv_has ls 6 [(0, .ref (ad 0)), (1, .int x1), (2, .int x2), (3, .long x3), (5, .int x5)] → W p l e (zrm 1 22) s m args below meth c H locs 0 0 (MQ below (zQl D zM ad cA A (z, S)) args s 0 0 A) (F0 m 7 ls []) := by
  have hx := C.1
  have hb := C.2.1
  intro n
  induction n with
  | zero =>
    intro x1 x2 x3 x5 H locs ls h
    cases h
  | succ n ih =>
    intro x1 x2 x3 x5 H locs ls h P hl
    unfold f7_priceOf_7 at h
    refine lv_iload hx hb dX7_priceOf_7 (lv_at hl 4 rfl) ?_
    refine lv_aload_n hx hb dX7_priceOf_9 rfl (lv_at hl 0 rfl) ?_
    refine gF7_176 C P zm0 rfl dX7_priceOf_10 ?_
    refine z_icmp_ge (tgt := 62) hx hb dX7_priceOf_13 (by decide) h (fun h => ?_) (fun h => ?_)
    · refine lv_lload_n hx hb dX7_priceOf_62 rfl (lv_at hl 3 rfl) ?_
      exact z_lret C P (by rw [Option.some.inj h]) dX7_priceOf_63
    · refine lv_aload_n hx hb dX7_priceOf_16 rfl (lv_at hl 0 rfl) ?_
      refine lv_iload_n hx hb dX7_priceOf_17 rfl (lv_at hl 1 rfl) ?_
      refine lv_iload hx hb dX7_priceOf_18 (lv_at hl 4 rfl) ?_
      refine z_callVb C P (As := [.int x1, .int x5]) (m7_counts) cW7_197 rfl zm0 rfl (by decide) hl.1 rfl (Nat.le_of_ble_eq_true rfl) dX7_priceOf_20 ⟨Nat.zero_le _, Nat.zero_le _⟩ (fun H locs n20 P => ?_)
      refine z_if_eq (tgt := 54) hx hb dX7_priceOf_23 (by decide) h (fun h => ?_) (fun h => ?_)
      · exact w7_priceOf_54 C ih _ _ _ _ _ _ _ h P (lv_sub hl [0, 1, 2, 3, 4] rfl)
      · refine lv_lload_n hx hb dX7_priceOf_26 rfl (lv_at hl 3 rfl) ?_
        refine lv_lconst (v := 0) hx hb dX7_priceOf_27 (by decide) ?_
        refine z_lcmp_lt (tgt := 44) hx hb dX7_priceOf_28 dX7_priceOf_29 (by decide) h (fun h => ?_) (fun h => ?_)
        · exact w7_priceOf_44 C ih _ _ _ _ _ _ h P (lv_sub hl [0, 1, 2, 4] rfl)
        · refine lv_aload_n hx hb dX7_priceOf_32 rfl (lv_at hl 0 rfl) ?_
          refine lv_iload hx hb dX7_priceOf_33 (lv_at hl 4 rfl) ?_
          refine lv_iload_n hx hb dX7_priceOf_35 rfl (lv_at hl 2 rfl) ?_
          obtain ⟨r36, g36, h⟩ := bd1_some h
          refine z_callVl C P (As := [.int x5, .int x2]) (m7_costOf g36) cW7_201 rfl zm0 rfl (by decide) hl.1 rfl (Nat.le_of_ble_eq_true rfl) dX7_priceOf_36 ⟨Nat.zero_le _, Nat.zero_le _⟩ (fun H locs P => ?_)
          refine lv_lload_n hx hb dX7_priceOf_39 rfl (lv_at hl 3 rfl) ?_
          refine z_lcmp_ge (tgt := 54) hx hb dX7_priceOf_40 dX7_priceOf_41 (by decide) h (fun h => ?_) (fun h => ?_)
          · exact w7_priceOf_54 C ih _ _ _ _ _ _ _ h P (lv_sub hl [0, 1, 2, 3, 4] rfl)
          · exact w7_priceOf_44 C ih _ _ _ _ _ _ h P (lv_sub hl [0, 1, 2, 4] rfl)
theorem m7_priceOf {l : Launch} {D : va_G} {cA : Nat → ClassId} {ad : Nat → Nat} {x1 : Int32} {x2 : Int32} {S : Zs} {z : Int64} (h : f7_priceOf S x1 x2 = some z) :
    zMl l yX7_priceOf cX7_priceOf 6 1 22 D zM ad cA S [.ref (ad 0), .int x1, .int x2] (z, S) := by
  refine z_enter (Qc := fun A => zQl D zM ad cA A (z, S)) (by decide +kernel) (Nat.le_of_ble_eq_true rfl) (fun p e s m below meth c A C P ls hl => ?_)
  have hx := C.1
  have hb := C.2.1
  have hl : lv_has ls 6 [(0, .ref (ad 0)), (1, .int x1), (2, .int x2)] := hl
  unfold f7_priceOf at h
  refine lv_ldc2 (v := (-1)) hx hb C.2.2.2.1 (C.2.2.2.2.1 _ kK7_195) dX7_priceOf_0 ?_
  refine lv_lstore_n (lv' := [(3, .long (-1 : Int64)), (0, .ref (ad 0)), (1, .int x1), (2, .int x2)]) hx hb dX7_priceOf_3 rfl hl (by decide) rfl (fun ls hl => ?_)
  refine lv_iconst (v := 0) hx hb dX7_priceOf_4 (by decide) ?_
  refine lv_istore (lv' := [(5, .int (0 : Int32)), (3, .long (-1 : Int64)), (0, .ref (ad 0)), (1, .int x1), (2, .int x2)]) hx hb dX7_priceOf_5 hl (by decide) rfl (fun ls hl => ?_)
  exact w7_priceOf_7 C _ _ _ _ _ _ _ _ h P (lv_sub hl [2, 3, 4, 1, 0] rfl)
theorem w7_makersOf_54 (C : zCx p s m args meth c cX7_makersOf 7 RX7 (some .int) D ad cA A) {z : Int32} {S : Zs} {k13 : Int32 → Int32 → Int64 → Int32 → Int32 → Option Int32} (hk13 : ∀ (x1 : Int32) (x2 : Int32) (x3 : Int64) (x5 : Int32) (x6 : Int32) (H : Heap) (locs : List Loc) (ls : Array Slot), k13 x1 x2 x3 x5 x6 = some z → zP D zM ad cA A S s H locs → lv_has ls 7 [(0, .ref (ad 0)), (1, .int x1), (2, .int x2), (3, .long x3), (5, .int x5), (6, .int x6)] → W p l e (zrm 2 47) s m args below meth c H locs 0 0 (MQ below (zQi D zM ad cA A (z, S)) args s 0 0 A) (F0 m 13 ls [])) (x1 : Int32) (x2 : Int32) (x3 : Int64) (x6 : Int32) (t0 : Int32) (t1 : Int32) (H : Heap) (locs : List Loc) (ls : Array Slot) (h : f7_makersOf_54 S k13 x1 x2 x3 x6 t0 t1 = some z) (P : zP D zM ad cA A S s H locs) (hl : lv_has ls 7 [(0, .ref (ad 0)), (1, .int x1), (2, .int x2), (3, .long x3), (6, .int x6)]) :
    W p l e (zrm 2 47) s m args below meth c H locs 0 0 (MQ below (zQi D zM ad cA A (z, S)) args s 0 0 A) (F0 m 54 ls [.int t0, .int t1]) := by
  have hx := C.1
  have hb := C.2.1
  unfold f7_makersOf_54 at h
  refine lv_ior hx hb dX7_makersOf_54 ?_
  refine z_topi h (fun v55 h => ?_)
  refine lv_istore (lv' := [(5, .int v55), (0, .ref (ad 0)), (1, .int x1), (2, .int x2), (3, .long x3), (6, .int x6)]) hx hb dX7_makersOf_55 hl (by decide) rfl (fun ls hl => ?_)
  obtain ⟨v57, ev57, h⟩ := z_nm h
  refine lv_iinc (v := v57) (lv' := [(6, .int v57), (5, .int v55), (0, .ref (ad 0)), (1, .int x1), (2, .int x2), (3, .long x3)]) hx hb dX7_makersOf_57 hl (k := 5) rfl (by rw [ev57]; rfl) (by decide) rfl (fun ls hl => ?_)
  refine lv_goto (tgt := 13) hx hb dX7_makersOf_60 (by decide) ?_
  exact hk13 _ _ _ _ _ _ _ _ h P (lv_sub hl [2, 3, 4, 5, 1, 0] rfl)
theorem w7_makersOf_53 (C : zCx p s m args meth c cX7_makersOf 7 RX7 (some .int) D ad cA A) {z : Int32} {S : Zs} {k13 : Int32 → Int32 → Int64 → Int32 → Int32 → Option Int32} (hk13 : ∀ (x1 : Int32) (x2 : Int32) (x3 : Int64) (x5 : Int32) (x6 : Int32) (H : Heap) (locs : List Loc) (ls : Array Slot), k13 x1 x2 x3 x5 x6 = some z → zP D zM ad cA A S s H locs → lv_has ls 7 [(0, .ref (ad 0)), (1, .int x1), (2, .int x2), (3, .long x3), (5, .int x5), (6, .int x6)] → W p l e (zrm 2 47) s m args below meth c H locs 0 0 (MQ below (zQi D zM ad cA A (z, S)) args s 0 0 A) (F0 m 13 ls [])) (x1 : Int32) (x2 : Int32) (x3 : Int64) (x6 : Int32) (t0 : Int32) (H : Heap) (locs : List Loc) (ls : Array Slot) (h : f7_makersOf_53 S k13 x1 x2 x3 x6 t0 = some z) (P : zP D zM ad cA A S s H locs) (hl : lv_has ls 7 [(0, .ref (ad 0)), (1, .int x1), (2, .int x2), (3, .long x3), (6, .int x6)]) :
    W p l e (zrm 2 47) s m args below meth c H locs 0 0 (MQ below (zQi D zM ad cA A (z, S)) args s 0 0 A) (F0 m 53 ls [.int t0]) := by
  have hx := C.1
  have hb := C.2.1
  unfold f7_makersOf_53 at h
  refine lv_iconst (v := 0) hx hb dX7_makersOf_53 (by decide) ?_
  exact w7_makersOf_54 C hk13 _ _ _ _ _ _ _ _ _ h P (lv_sub hl [0, 1, 2, 3, 4] rfl)
theorem w7_makersOf_13 (C : zCx p s m args meth c cX7_makersOf 7 RX7 (some .int) D ad cA A) {z : Int32} {S : Zs} :
    ∀ (n : Nat) (x1 : Int32) (x2 : Int32) (x3 : Int64) (x5 : Int32) (x6 : Int32) (H : Heap) (locs : List Loc) (ls : Array Slot), f7_makersOf_13 S n x1 x2 x3 x5 x6 = some z → zP D zM ad cA A S s H locs → lv_has ls 7 [(0, .ref (ad 0)), (1, .int x1), (2, .int x2), (3, .long x3), (5, .int x5), (6, .int x6)] → W p l e (zrm 2 47) s m args below meth c H locs 0 0 (MQ below (zQi D zM ad cA A (z, S)) args s 0 0 A) (F0 m 13 ls []) := by
  have hx := C.1
  have hb := C.2.1
  intro n
  induction n with
  | zero =>
    intro x1 x2 x3 x5 x6 H locs ls h
    cases h
  | succ n ih =>
    intro x1 x2 x3 x5 x6 H locs ls h P hl
    unfold f7_makersOf_13 at h
    refine lv_iload hx hb dX7_makersOf_13 (lv_at hl 5 rfl) ?_
    refine lv_aload_n hx hb dX7_makersOf_15 rfl (lv_at hl 0 rfl) ?_
    refine gF7_176 C P zm0 rfl dX7_makersOf_16 ?_
    refine z_icmp_ge (tgt := 63) hx hb dX7_makersOf_19 (by decide) h (fun h => ?_) (fun h => ?_)
    · refine lv_iload hx hb dX7_makersOf_63 (lv_at hl 4 rfl) ?_
      exact z_iret C P (by rw [Option.some.inj h]) dX7_makersOf_65
    · refine lv_iload hx hb dX7_makersOf_22 (lv_at hl 4 rfl) ?_
      refine lv_aload_n hx hb dX7_makersOf_24 rfl (lv_at hl 0 rfl) ?_
      refine lv_iload_n hx hb dX7_makersOf_25 rfl (lv_at hl 1 rfl) ?_
      refine lv_iload hx hb dX7_makersOf_26 (lv_at hl 5 rfl) ?_
      refine z_callVb C P (As := [.int x1, .int x6]) (m7_counts) cW7_197 rfl zm0 rfl (by decide) hl.1 rfl (Nat.le_of_ble_eq_true rfl) dX7_makersOf_28 ⟨Nat.zero_le _, Nat.zero_le _⟩ (fun H locs n28 P => ?_)
      refine z_if_eq (tgt := 53) hx hb dX7_makersOf_31 (by decide) h (fun h => ?_) (fun h => ?_)
      · exact w7_makersOf_53 C ih _ _ _ _ _ _ _ _ h P (lv_sub hl [0, 1, 2, 3, 5] rfl)
      · refine lv_aload_n hx hb dX7_makersOf_34 rfl (lv_at hl 0 rfl) ?_
        refine lv_iload hx hb dX7_makersOf_35 (lv_at hl 5 rfl) ?_
        refine lv_iload_n hx hb dX7_makersOf_37 rfl (lv_at hl 2 rfl) ?_
        obtain ⟨r38, g38, h⟩ := bd1_some h
        refine z_callVl C P (As := [.int x6, .int x2]) (m7_costOf g38) cW7_201 rfl zm0 rfl (by decide) hl.1 rfl (Nat.le_of_ble_eq_true rfl) dX7_makersOf_38 ⟨Nat.zero_le _, Nat.zero_le _⟩ (fun H locs P => ?_)
        refine lv_lload_n hx hb dX7_makersOf_41 rfl (lv_at hl 3 rfl) ?_
        refine z_lcmp_ne (tgt := 53) hx hb dX7_makersOf_42 dX7_makersOf_43 (by decide) h (fun h => ?_) (fun h => ?_)
        · exact w7_makersOf_53 C ih _ _ _ _ _ _ _ _ h P (lv_sub hl [0, 1, 2, 3, 5] rfl)
        · refine lv_iconst (v := 1) hx hb dX7_makersOf_46 (by decide) ?_
          refine lv_iload hx hb dX7_makersOf_47 (lv_at hl 5 rfl) ?_
          refine lv_ishl hx hb dX7_makersOf_49 ?_
          refine lv_goto (tgt := 54) hx hb dX7_makersOf_50 (by decide) ?_
          exact w7_makersOf_54 C ih _ _ _ _ _ _ _ _ _ h P (lv_sub hl [0, 1, 2, 3, 5] rfl)
theorem m7_makersOf {l : Launch} {D : va_G} {cA : Nat → ClassId} {ad : Nat → Nat} {x1 : Int32} {x2 : Int32} {S : Zs} {z : Int32} (h : f7_makersOf S x1 x2 = some z) :
    zMi l yX7_makersOf cX7_makersOf 7 2 47 D zM ad cA S [.ref (ad 0), .int x1, .int x2] (z, S) := by
  refine z_enter (Qc := fun A => zQi D zM ad cA A (z, S)) (by decide +kernel) (Nat.le_of_ble_eq_true rfl) (fun p e s m below meth c A C P ls hl => ?_)
  have hx := C.1
  have hb := C.2.1
  have hl : lv_has ls 7 [(0, .ref (ad 0)), (1, .int x1), (2, .int x2)] := hl
  unfold f7_makersOf at h
  refine lv_aload_n hx hb dX7_makersOf_0 rfl (lv_at hl 0 rfl) ?_
  refine lv_iload_n hx hb dX7_makersOf_1 rfl (lv_at hl 1 rfl) ?_
  refine lv_iload_n hx hb dX7_makersOf_2 rfl (lv_at hl 2 rfl) ?_
  obtain ⟨r3, g3, h⟩ := bd1_some h
  refine z_callVl C P (As := [.int x1, .int x2]) (m7_priceOf g3) cW7_205 rfl zm0 rfl (by decide) hl.1 rfl (Nat.le_of_ble_eq_true rfl) dX7_makersOf_3 ⟨Nat.zero_le _, Nat.zero_le _⟩ (fun H locs P => ?_)
  refine lv_lstore_n (lv' := [(3, .long r3), (0, .ref (ad 0)), (1, .int x1), (2, .int x2)]) hx hb dX7_makersOf_6 rfl hl (by decide) rfl (fun ls hl => ?_)
  refine lv_iconst (v := 0) hx hb dX7_makersOf_7 (by decide) ?_
  refine lv_istore (lv' := [(5, .int (0 : Int32)), (3, .long r3), (0, .ref (ad 0)), (1, .int x1), (2, .int x2)]) hx hb dX7_makersOf_8 hl (by decide) rfl (fun ls hl => ?_)
  refine lv_iconst (v := 0) hx hb dX7_makersOf_10 (by decide) ?_
  refine lv_istore (lv' := [(6, .int (0 : Int32)), (5, .int (0 : Int32)), (3, .long r3), (0, .ref (ad 0)), (1, .int x1), (2, .int x2)]) hx hb dX7_makersOf_11 hl (by decide) rfl (fun ls hl => ?_)
  exact w7_makersOf_13 C _ _ _ _ _ _ _ _ _ h P (lv_sub hl [3, 4, 5, 2, 1, 0] rfl)
theorem w7_allShares_4 (C : zCx p s m args meth c cX7_allShares 3 RX7 (some .int) D ad cA A) {z : Int32} {S : Zs} :
    ∀ (n : Nat) (x1 : Int32) (x2 : Int32) (H : Heap) (locs : List Loc) (ls : Array Slot), f7_allShares_4 S n x1 x2 = some z → zP D zM ad cA A S s H locs → lv_has ls 3 [(0, .ref (ad 0)), (1, .int x1), (2, .int x2)] → W p l e (zrm 0 0) s m args below meth c H locs 0 0 (MQ below (zQi D zM ad cA A (z, S)) args s 0 0 A) (F0 m 4 ls []) := by
  have hx := C.1
  have hb := C.2.1
  intro n
  induction n with
  | zero =>
    intro x1 x2 H locs ls h
    cases h
  | succ n ih =>
    intro x1 x2 H locs ls h P hl
    unfold f7_allShares_4 at h
    refine lv_iload_n hx hb dX7_allShares_4 rfl (lv_at hl 2 rfl) ?_
    refine lv_aload_n hx hb dX7_allShares_5 rfl (lv_at hl 0 rfl) ?_
    refine gF7_179 C P zm0 rfl dX7_allShares_6 ?_
    refine z_icmp_ge (tgt := 27) hx hb dX7_allShares_9 (by decide) h (fun h => ?_) (fun h => ?_)
    · refine lv_iload_n hx hb dX7_allShares_27 rfl (lv_at hl 1 rfl) ?_
      exact z_iret C P (by rw [Option.some.inj h]) dX7_allShares_28
    · refine lv_iload_n hx hb dX7_allShares_12 rfl (lv_at hl 1 rfl) ?_
      refine lv_aload_n hx hb dX7_allShares_13 rfl (lv_at hl 0 rfl) ?_
      refine gF7_19 C P zm0 rfl dX7_allShares_14 ?_
      refine lv_iload_n hx hb dX7_allShares_17 rfl (lv_at hl 2 rfl) ?_
      refine z_iald C P zm4 dX7_allShares_18 h (fun h hi => ?_)
      refine lv_iadd hx hb dX7_allShares_19 ?_
      refine z_topi h (fun v20 h => ?_)
      refine lv_istore_n (lv' := [(1, .int v20), (0, .ref (ad 0)), (2, .int x2)]) hx hb dX7_allShares_20 rfl hl (by decide) rfl (fun ls hl => ?_)
      obtain ⟨v21, ev21, h⟩ := z_nm h
      refine lv_iinc (v := v21) (lv' := [(2, .int v21), (1, .int v20), (0, .ref (ad 0))]) hx hb dX7_allShares_21 hl (k := 2) rfl (by rw [ev21]; rfl) (by decide) rfl (fun ls hl => ?_)
      refine lv_goto (tgt := 4) hx hb dX7_allShares_24 (by decide) ?_
      exact ih _ _ _ _ _ h P (lv_sub hl [2, 1, 0] rfl)
theorem m7_allShares {l : Launch} {D : va_G} {cA : Nat → ClassId} {ad : Nat → Nat} {S : Zs} {z : Int32} (h : f7_allShares S = some z) :
    zMi l yX7_allShares cX7_allShares 3 0 0 D zM ad cA S [.ref (ad 0)] (z, S) := by
  refine z_enter (Qc := fun A => zQi D zM ad cA A (z, S)) (by decide +kernel) (Nat.le_of_ble_eq_true rfl) (fun p e s m below meth c A C P ls hl => ?_)
  have hx := C.1
  have hb := C.2.1
  have hl : lv_has ls 3 [(0, .ref (ad 0))] := hl
  unfold f7_allShares at h
  refine lv_iconst (v := 0) hx hb dX7_allShares_0 (by decide) ?_
  refine lv_istore_n (lv' := [(1, .int (0 : Int32)), (0, .ref (ad 0))]) hx hb dX7_allShares_1 rfl hl (by decide) rfl (fun ls hl => ?_)
  refine lv_iconst (v := 0) hx hb dX7_allShares_2 (by decide) ?_
  refine lv_istore_n (lv' := [(2, .int (0 : Int32)), (1, .int (0 : Int32)), (0, .ref (ad 0))]) hx hb dX7_allShares_3 rfl hl (by decide) rfl (fun ls hl => ?_)
  exact w7_allShares_4 C _ _ _ _ _ _ h P (lv_sub hl [2, 1, 0] rfl)
theorem w7_incomeOf_45 (C : zCx p s m args meth c cX7_incomeOf 5 RX7 (some .long) D ad cA A) {z : Int64} {S : Zs} {k5 : Int32 → Int64 → Int32 → Option Int64} (hk5 : ∀ (x1 : Int32) (x2 : Int64) (x4 : Int32) (H : Heap) (locs : List Loc) (ls : Array Slot), k5 x1 x2 x4 = some z → zP D zM ad cA A S s H locs → lv_has ls 5 [(0, .ref (ad 0)), (1, .int x1), (2, .long x2), (4, .int x4)] → W p l e (zrm 1 22) s m args below meth c H locs 0 0 (MQ below (zQl D zM ad cA A (z, S)) args s 0 0 A) (F0 m 5 ls [])) (x1 : Int32) (x4 : Int32) (t0 : Int64) (t1 : Int64) (H : Heap) (locs : List Loc) (ls : Array Slot) (h : f7_incomeOf_45 S k5 x1 x4 t0 t1 = some z) (P : zP D zM ad cA A S s H locs) (hl : lv_has ls 5 [(0, .ref (ad 0)), (1, .int x1), (4, .int x4)]) :
    W p l e (zrm 1 22) s m args below meth c H locs 0 0 (MQ below (zQl D zM ad cA A (z, S)) args s 0 0 A) (F0 m 45 ls [.long t0, .long t1]) := by
  have hx := C.1
  have hb := C.2.1
  unfold f7_incomeOf_45 at h
  refine lv_ladd hx hb dX7_incomeOf_45 ?_
  refine z_topl h (fun v46 h => ?_)
  refine lv_lstore_n (lv' := [(2, .long v46), (0, .ref (ad 0)), (1, .int x1), (4, .int x4)]) hx hb dX7_incomeOf_46 rfl hl (by decide) rfl (fun ls hl => ?_)
  obtain ⟨v47, ev47, h⟩ := z_nm h
  refine lv_iinc (v := v47) (lv' := [(4, .int v47), (2, .long v46), (0, .ref (ad 0)), (1, .int x1)]) hx hb dX7_incomeOf_47 hl (k := 3) rfl (by rw [ev47]; rfl) (by decide) rfl (fun ls hl => ?_)
  refine lv_goto (tgt := 5) hx hb dX7_incomeOf_50 (by decide) ?_
  exact hk5 _ _ _ _ _ _ h P (lv_sub hl [2, 3, 1, 0] rfl)
theorem w7_incomeOf_5 (C : zCx p s m args meth c cX7_incomeOf 5 RX7 (some .long) D ad cA A) {z : Int64} {S : Zs} :
    ∀ (n : Nat) (x1 : Int32) (x2 : Int64) (x4 : Int32) (H : Heap) (locs : List Loc) (ls : Array Slot), f7_incomeOf_5 S n x1 x2 x4 = some z → zP D zM ad cA A S s H locs → lv_has ls 5 [(0, .ref (ad 0)), (1, .int x1), (2, .long x2), (4, .int x4)] → W p l e (zrm 1 22) s m args below meth c H locs 0 0 (MQ below (zQl D zM ad cA A (z, S)) args s 0 0 A) (F0 m 5 ls []) := by
  have hx := C.1
  have hb := C.2.1
  intro n
  induction n with
  | zero =>
    intro x1 x2 x4 H locs ls h
    cases h
  | succ n ih =>
    intro x1 x2 x4 H locs ls h P hl
    unfold f7_incomeOf_5 at h
    refine lv_iload hx hb dX7_incomeOf_5 (lv_at hl 3 rfl) ?_
    refine lv_aload_n hx hb dX7_incomeOf_7 rfl (lv_at hl 0 rfl) ?_
    refine gF7_176 C P zm0 rfl dX7_incomeOf_8 ?_
    refine z_icmp_ge (tgt := 53) hx hb dX7_incomeOf_11 (by decide) h (fun h => ?_) (fun h => ?_)
    · refine lv_lload_n hx hb dX7_incomeOf_53 rfl (lv_at hl 2 rfl) ?_
      exact z_lret C P (by rw [Option.some.inj h]) dX7_incomeOf_54
    · refine lv_lload_n hx hb dX7_incomeOf_14 rfl (lv_at hl 2 rfl) ?_
      refine lv_aload_n hx hb dX7_incomeOf_15 rfl (lv_at hl 0 rfl) ?_
      refine lv_iload_n hx hb dX7_incomeOf_16 rfl (lv_at hl 1 rfl) ?_
      refine lv_iload hx hb dX7_incomeOf_17 (lv_at hl 3 rfl) ?_
      refine z_callVb C P (As := [.int x1, .int x4]) (m7_counts) cW7_197 rfl zm0 rfl (by decide) hl.1 rfl (Nat.le_of_ble_eq_true rfl) dX7_incomeOf_19 ⟨Nat.zero_le _, Nat.zero_le _⟩ (fun H locs n19 P => ?_)
      refine z_if_eq (tgt := 44) hx hb dX7_incomeOf_22 (by decide) h (fun h => ?_) (fun h => ?_)
      · refine lv_lconst (v := 0) hx hb dX7_incomeOf_44 (by decide) ?_
        exact w7_incomeOf_45 C ih _ _ _ _ _ _ _ h P (lv_sub hl [0, 1, 3] rfl)
      · refine lv_aload_n hx hb dX7_incomeOf_25 rfl (lv_at hl 0 rfl) ?_
        refine gF7_22 C P zm0 rfl dX7_incomeOf_26 ?_
        refine lv_iload hx hb dX7_incomeOf_29 (lv_at hl 3 rfl) ?_
        refine z_iald C P zm5 dX7_incomeOf_31 h (fun h hi => ?_)
        refine lv_i2l hx hb dX7_incomeOf_32 rfl ?_
        refine lv_aload_n hx hb dX7_incomeOf_33 rfl (lv_at hl 0 rfl) ?_
        refine gF7_40 C P zm0 rfl dX7_incomeOf_34 ?_
        refine lv_iload hx hb dX7_incomeOf_37 (lv_at hl 3 rfl) ?_
        refine z_lald C P zm11 dX7_incomeOf_39 h (fun h hi => ?_)
        refine lv_lmul hx hb dX7_incomeOf_40 ?_
        refine lv_goto (tgt := 45) hx hb dX7_incomeOf_41 (by decide) ?_
        exact w7_incomeOf_45 C ih _ _ _ _ _ _ _ h P (lv_sub hl [0, 1, 3] rfl)
theorem m7_incomeOf {l : Launch} {D : va_G} {cA : Nat → ClassId} {ad : Nat → Nat} {x1 : Int32} {S : Zs} {z : Int64} (h : f7_incomeOf S x1 = some z) :
    zMl l yX7_incomeOf cX7_incomeOf 5 1 22 D zM ad cA S [.ref (ad 0), .int x1] (z, S) := by
  refine z_enter (Qc := fun A => zQl D zM ad cA A (z, S)) (by decide +kernel) (Nat.le_of_ble_eq_true rfl) (fun p e s m below meth c A C P ls hl => ?_)
  have hx := C.1
  have hb := C.2.1
  have hl : lv_has ls 5 [(0, .ref (ad 0)), (1, .int x1)] := hl
  unfold f7_incomeOf at h
  refine lv_lconst (v := 0) hx hb dX7_incomeOf_0 (by decide) ?_
  refine lv_lstore_n (lv' := [(2, .long (0 : Int64)), (0, .ref (ad 0)), (1, .int x1)]) hx hb dX7_incomeOf_1 rfl hl (by decide) rfl (fun ls hl => ?_)
  refine lv_iconst (v := 0) hx hb dX7_incomeOf_2 (by decide) ?_
  refine lv_istore (lv' := [(4, .int (0 : Int32)), (2, .long (0 : Int64)), (0, .ref (ad 0)), (1, .int x1)]) hx hb dX7_incomeOf_3 hl (by decide) rfl (fun ls hl => ?_)
  exact w7_incomeOf_5 C _ _ _ _ _ _ _ h P (lv_sub hl [2, 3, 1, 0] rfl)
theorem w7_idleOf_130 (C : zCx p s m args meth c cX7_idleOf 7 RX7 (some .int) D ad cA A) {z : Int32 × Zs} {k41 : Int32 → Int64 → Int32 → Zs → Option (Int32 × Zs)} (hk41 : ∀ (x1 : Int32) (x2 : Int64) (x4 : Int32) (S : Zs) (H : Heap) (locs : List Loc) (ls : Array Slot), k41 x1 x2 x4 S = some z → zP D zM ad cA A S s H locs → lv_has ls 7 [(0, .ref (ad 0)), (1, .int x1), (2, .long x2), (4, .int x4)] → W p l e (zrm 3 73) s m args below meth c H locs 0 0 (MQ below (zQi D zM ad cA A z) args s 0 0 A) (F0 m 41 ls [])) (x1 : Int32) (x2 : Int64) (x4 : Int32) (S : Zs) (H : Heap) (locs : List Loc) (ls : Array Slot) (h : f7_idleOf_130 k41 x1 x2 x4 S = some z) (P : zP D zM ad cA A S s H locs) (hl : lv_has ls 7 [(0, .ref (ad 0)), (1, .int x1), (2, .long x2), (4, .int x4)]) :
    W p l e (zrm 3 73) s m args below meth c H locs 0 0 (MQ below (zQi D zM ad cA A z) args s 0 0 A) (F0 m 130 ls []) := by
  have hx := C.1
  have hb := C.2.1
  unfold f7_idleOf_130 at h
  obtain ⟨v130, ev130, h⟩ := z_nm h
  refine lv_iinc (v := v130) (lv' := [(4, .int v130), (0, .ref (ad 0)), (1, .int x1), (2, .long x2)]) hx hb dX7_idleOf_130 hl (k := 3) rfl (by rw [ev130]; rfl) (by decide) rfl (fun ls hl => ?_)
  refine lv_goto (tgt := 41) hx hb dX7_idleOf_133 (by decide) ?_
  exact hk41 _ _ _ _ _ _ _ h P (lv_sub hl [1, 2, 3, 0] rfl)
theorem w7_idleOf_97 (C : zCx p s m args meth c cX7_idleOf 7 RX7 (some .int) D ad cA A) {z : Int32 × Zs} {k41 : Int32 → Int64 → Int32 → Zs → Option (Int32 × Zs)} (hk41 : ∀ (x1 : Int32) (x2 : Int64) (x4 : Int32) (S : Zs) (H : Heap) (locs : List Loc) (ls : Array Slot), k41 x1 x2 x4 S = some z → zP D zM ad cA A S s H locs → lv_has ls 7 [(0, .ref (ad 0)), (1, .int x1), (2, .long x2), (4, .int x4)] → W p l e (zrm 3 73) s m args below meth c H locs 0 0 (MQ below (zQi D zM ad cA A z) args s 0 0 A) (F0 m 41 ls [])) {k62 : Int32 → Int64 → Int32 → Int32 → Int32 → Zs → Option (Int32 × Zs)} (hk62 : ∀ (x1 : Int32) (x2 : Int64) (x4 : Int32) (x5 : Int32) (x6 : Int32) (S : Zs) (H : Heap) (locs : List Loc) (ls : Array Slot), k62 x1 x2 x4 x5 x6 S = some z → zP D zM ad cA A S s H locs → lv_has ls 7 [(0, .ref (ad 0)), (1, .int x1), (2, .long x2), (4, .int x4), (5, .int x5), (6, .int x6)] → W p l e (zrm 3 73) s m args below meth c H locs 0 0 (MQ below (zQi D zM ad cA A z) args s 0 0 A) (F0 m 62 ls [])) (x1 : Int32) (x2 : Int64) (x4 : Int32) (x6 : Int32) (t0 : Int32) (t1 : Int32) (S : Zs) (H : Heap) (locs : List Loc) (ls : Array Slot) (h : f7_idleOf_97 k41 k62 x1 x2 x4 x6 t0 t1 S = some z) (P : zP D zM ad cA A S s H locs) (hl : lv_has ls 7 [(0, .ref (ad 0)), (1, .int x1), (2, .long x2), (4, .int x4), (6, .int x6)]) :
    W p l e (zrm 3 73) s m args below meth c H locs 0 0 (MQ below (zQi D zM ad cA A z) args s 0 0 A) (F0 m 97 ls [.int t0, .int t1]) := by
  have hx := C.1
  have hb := C.2.1
  unfold f7_idleOf_97 at h
  refine lv_iadd hx hb dX7_idleOf_97 ?_
  refine z_topi h (fun v98 h => ?_)
  refine lv_istore (lv' := [(5, .int v98), (0, .ref (ad 0)), (1, .int x1), (2, .long x2), (4, .int x4), (6, .int x6)]) hx hb dX7_idleOf_98 hl (by decide) rfl (fun ls hl => ?_)
  obtain ⟨v100, ev100, h⟩ := z_nm h
  refine lv_iinc (v := v100) (lv' := [(6, .int v100), (5, .int v98), (0, .ref (ad 0)), (1, .int x1), (2, .long x2), (4, .int x4)]) hx hb dX7_idleOf_100 hl (k := 5) rfl (by rw [ev100]; rfl) (by decide) rfl (fun ls hl => ?_)
  refine lv_goto (tgt := 62) hx hb dX7_idleOf_103 (by decide) ?_
  exact hk62 _ _ _ _ _ _ _ _ _ h P (lv_sub hl [2, 3, 4, 5, 1, 0] rfl)
theorem w7_idleOf_62 (C : zCx p s m args meth c cX7_idleOf 7 RX7 (some .int) D ad cA A) {z : Int32 × Zs} {k41 : Int32 → Int64 → Int32 → Zs → Option (Int32 × Zs)} (hk41 : ∀ (x1 : Int32) (x2 : Int64) (x4 : Int32) (S : Zs) (H : Heap) (locs : List Loc) (ls : Array Slot), k41 x1 x2 x4 S = some z → zP D zM ad cA A S s H locs → lv_has ls 7 [(0, .ref (ad 0)), (1, .int x1), (2, .long x2), (4, .int x4)] → W p l e (zrm 3 73) s m args below meth c H locs 0 0 (MQ below (zQi D zM ad cA A z) args s 0 0 A) (F0 m 41 ls [])) :
    ∀ (n : Nat) (x1 : Int32) (x2 : Int64) (x4 : Int32) (x5 : Int32) (x6 : Int32) (S : Zs) (H : Heap) (locs : List Loc) (ls : Array Slot), f7_idleOf_62 k41 n x1 x2 x4 x5 x6 S = some z → zP D zM ad cA A S s H locs → lv_has ls 7 [(0, .ref (ad 0)), (1, .int x1), (2, .long x2), (4, .int x4), (5, .int x5), (6, .int x6)] → W p l e (zrm 3 73) s m args below meth c H locs 0 0 (MQ below (zQi D zM ad cA A z) args s 0 0 A) (F0 m 62 ls []) := by
  have hx := C.1
  have hb := C.2.1
  intro n
  induction n with
  | zero =>
    intro x1 x2 x4 x5 x6 S H locs ls h
    cases h
  | succ n ih =>
    intro x1 x2 x4 x5 x6 S H locs ls h P hl
    unfold f7_idleOf_62 at h
    refine lv_iload hx hb dX7_idleOf_62 (lv_at hl 5 rfl) ?_
    refine lv_aload_n hx hb dX7_idleOf_64 rfl (lv_at hl 0 rfl) ?_
    refine gF7_179 C P zm0 rfl dX7_idleOf_65 ?_
    refine z_icmp_ge (tgt := 106) hx hb dX7_idleOf_68 (by decide) h (fun h => ?_) (fun h => ?_)
    · refine lv_aload_n hx hb dX7_idleOf_106 rfl (lv_at hl 0 rfl) ?_
      refine lv_iload hx hb dX7_idleOf_107 (lv_at hl 3 rfl) ?_
      obtain ⟨r109, g109, h⟩ := bd1_some h
      refine z_callVl C P (As := [.int x4]) (m7_incomeOf g109) cW7_208 rfl zm0 rfl (by decide) hl.1 rfl (Nat.le_of_ble_eq_true rfl) dX7_idleOf_109 ⟨Nat.zero_le _, Nat.zero_le _⟩ (fun H locs P => ?_)
      refine lv_aload_n hx hb dX7_idleOf_112 rfl (lv_at hl 0 rfl) ?_
      obtain ⟨r113, g113, h⟩ := bd1_some h
      refine z_callVi C P (As := []) (m7_allShares g113) cW7_215 rfl zm0 rfl (by decide) hl.1 rfl (Nat.le_of_ble_eq_true rfl) dX7_idleOf_113 ⟨Nat.zero_le _, Nat.zero_le _⟩ (fun H locs P => ?_)
      refine lv_i2l hx hb dX7_idleOf_116 rfl ?_
      refine lv_lmul hx hb dX7_idleOf_117 ?_
      refine lv_lload_n hx hb dX7_idleOf_118 rfl (lv_at hl 2 rfl) ?_
      refine lv_iload hx hb dX7_idleOf_119 (lv_at hl 4 rfl) ?_
      refine lv_i2l hx hb dX7_idleOf_121 rfl ?_
      refine lv_lmul hx hb dX7_idleOf_122 ?_
      refine z_lcmp_le (tgt := 130) hx hb dX7_idleOf_123 dX7_idleOf_124 (by decide) h (fun h => ?_) (fun h => ?_)
      · exact w7_idleOf_130 C hk41 _ _ _ _ _ _ _ h P (lv_sub hl [0, 1, 2, 3] rfl)
      · refine lv_iload hx hb dX7_idleOf_127 (lv_at hl 3 rfl) ?_
        exact z_iret C P (Option.some.inj h) dX7_idleOf_129
    · refine lv_iload hx hb dX7_idleOf_71 (lv_at hl 4 rfl) ?_
      refine lv_aload_n hx hb dX7_idleOf_73 rfl (lv_at hl 0 rfl) ?_
      refine gF7_44 C P zm0 rfl dX7_idleOf_74 ?_
      refine lv_iload hx hb dX7_idleOf_77 (lv_at hl 5 rfl) ?_
      refine z_iald C P zm12 dX7_idleOf_79 h (fun h hi => ?_)
      refine lv_iload hx hb dX7_idleOf_80 (lv_at hl 3 rfl) ?_
      refine lv_iand hx hb dX7_idleOf_82 ?_
      refine z_if_ne (tgt := 90) hx hb dX7_idleOf_83 (by decide) h (fun h => ?_) (fun h => ?_)
      · refine lv_aload_n hx hb dX7_idleOf_90 rfl (lv_at hl 0 rfl) ?_
        refine gF7_19 C P zm0 rfl dX7_idleOf_91 ?_
        refine lv_iload hx hb dX7_idleOf_94 (lv_at hl 5 rfl) ?_
        refine z_iald C P zm4 dX7_idleOf_96 h (fun h hi => ?_)
        exact w7_idleOf_97 C hk41 ih _ _ _ _ _ _ _ _ _ _ h P (lv_sub hl [0, 1, 2, 3, 5] rfl)
      · refine lv_iconst (v := 0) hx hb dX7_idleOf_86 (by decide) ?_
        refine lv_goto (tgt := 97) hx hb dX7_idleOf_87 (by decide) ?_
        exact w7_idleOf_97 C hk41 ih _ _ _ _ _ _ _ _ _ _ h P (lv_sub hl [0, 1, 2, 3, 5] rfl)
theorem w7_idleOf_41 (C : zCx p s m args meth c cX7_idleOf 7 RX7 (some .int) D ad cA A) {z : Int32 × Zs} :
    ∀ (n : Nat) (x1 : Int32) (x2 : Int64) (x4 : Int32) (S : Zs) (H : Heap) (locs : List Loc) (ls : Array Slot), f7_idleOf_41 n x1 x2 x4 S = some z → zP D zM ad cA A S s H locs → lv_has ls 7 [(0, .ref (ad 0)), (1, .int x1), (2, .long x2), (4, .int x4)] → W p l e (zrm 3 73) s m args below meth c H locs 0 0 (MQ below (zQi D zM ad cA A z) args s 0 0 A) (F0 m 41 ls []) := by
  have hx := C.1
  have hb := C.2.1
  intro n
  induction n with
  | zero =>
    intro x1 x2 x4 S H locs ls h
    cases h
  | succ n ih =>
    intro x1 x2 x4 S H locs ls h P hl
    unfold f7_idleOf_41 at h
    refine lv_iload hx hb dX7_idleOf_41 (lv_at hl 3 rfl) ?_
    refine lv_iload_n hx hb dX7_idleOf_43 rfl (lv_at hl 1 rfl) ?_
    refine z_icmp_gt (tgt := 136) hx hb dX7_idleOf_44 (by decide) h (fun h => ?_) (fun h => ?_)
    · refine lv_iconst (v := 0) hx hb dX7_idleOf_136 (by decide) ?_
      exact z_iret C P (Option.some.inj h) dX7_idleOf_137
    · refine lv_iload hx hb dX7_idleOf_47 (lv_at hl 3 rfl) ?_
      refine lv_iload_n hx hb dX7_idleOf_49 rfl (lv_at hl 1 rfl) ?_
      refine lv_iconst (v := (-1)) hx hb dX7_idleOf_50 (by decide) ?_
      refine lv_ixor hx hb dX7_idleOf_51 ?_
      refine lv_iand hx hb dX7_idleOf_52 ?_
      refine z_if_ne (tgt := 130) hx hb dX7_idleOf_53 (by decide) h (fun h => ?_) (fun h => ?_)
      · exact w7_idleOf_130 C ih _ _ _ _ _ _ _ h P (lv_sub hl [0, 1, 2, 3] rfl)
      · refine lv_iconst (v := 0) hx hb dX7_idleOf_56 (by decide) ?_
        refine lv_istore (lv' := [(5, .int (0 : Int32)), (0, .ref (ad 0)), (1, .int x1), (2, .long x2), (4, .int x4)]) hx hb dX7_idleOf_57 hl (by decide) rfl (fun ls hl => ?_)
        refine lv_iconst (v := 0) hx hb dX7_idleOf_59 (by decide) ?_
        refine lv_istore (lv' := [(6, .int (0 : Int32)), (5, .int (0 : Int32)), (0, .ref (ad 0)), (1, .int x1), (2, .long x2), (4, .int x4)]) hx hb dX7_idleOf_60 hl (by decide) rfl (fun ls hl => ?_)
        exact w7_idleOf_62 C ih _ _ _ _ _ _ _ _ _ _ h P (lv_sub hl [2, 3, 4, 5, 1, 0] rfl)
theorem w7_idleOf_9 (C : zCx p s m args meth c cX7_idleOf 7 RX7 (some .int) D ad cA A) {z : Int32 × Zs} :
    ∀ (n : Nat) (x1 : Int32) (x2 : Int64) (x4 : Int32) (S : Zs) (H : Heap) (locs : List Loc) (ls : Array Slot), f7_idleOf_9 n x1 x2 x4 S = some z → zP D zM ad cA A S s H locs → lv_has ls 7 [(0, .ref (ad 0)), (1, .int x1), (2, .long x2), (4, .int x4)] → W p l e (zrm 3 73) s m args below meth c H locs 0 0 (MQ below (zQi D zM ad cA A z) args s 0 0 A) (F0 m 9 ls []) := by
  have hx := C.1
  have hb := C.2.1
  intro n
  induction n with
  | zero =>
    intro x1 x2 x4 S H locs ls h
    cases h
  | succ n ih =>
    intro x1 x2 x4 S H locs ls h P hl
    unfold f7_idleOf_9 at h
    refine lv_iload hx hb dX7_idleOf_9 (lv_at hl 3 rfl) ?_
    refine lv_aload_n hx hb dX7_idleOf_11 rfl (lv_at hl 0 rfl) ?_
    refine gF7_179 C P zm0 rfl dX7_idleOf_12 ?_
    refine z_icmp_ge (tgt := 38) hx hb dX7_idleOf_15 (by decide) h (fun h => ?_) (fun h => ?_)
    · refine lv_iconst (v := 1) hx hb dX7_idleOf_38 (by decide) ?_
      refine lv_istore (lv' := [(4, .int (1 : Int32)), (0, .ref (ad 0)), (1, .int x1), (2, .long x2)]) hx hb dX7_idleOf_39 hl (by decide) rfl (fun ls hl => ?_)
      exact w7_idleOf_41 C _ _ _ _ _ _ _ _ h P (lv_sub hl [1, 2, 3, 0] rfl)
    · refine lv_aload_n hx hb dX7_idleOf_18 rfl (lv_at hl 0 rfl) ?_
      refine gF7_44 C P zm0 rfl dX7_idleOf_19 ?_
      refine lv_iload hx hb dX7_idleOf_22 (lv_at hl 3 rfl) ?_
      refine lv_aload_n hx hb dX7_idleOf_24 rfl (lv_at hl 0 rfl) ?_
      refine lv_iload_n hx hb dX7_idleOf_25 rfl (lv_at hl 1 rfl) ?_
      refine lv_iload hx hb dX7_idleOf_26 (lv_at hl 3 rfl) ?_
      obtain ⟨r28, g28, h⟩ := bd1_some h
      refine z_callVi C P (As := [.int x1, .int x4]) (m7_makersOf g28) cW7_211 rfl zm0 rfl (by decide) hl.1 rfl (Nat.le_of_ble_eq_true rfl) dX7_idleOf_28 ⟨Nat.zero_le _, Nat.zero_le _⟩ (fun H locs P => ?_)
      refine z_iast C P zm12 dX7_idleOf_31 h (fun S31 H locs h P => ?_)
      obtain ⟨v32, ev32, h⟩ := z_nm h
      refine lv_iinc (v := v32) (lv' := [(4, .int v32), (0, .ref (ad 0)), (1, .int x1), (2, .long x2)]) hx hb dX7_idleOf_32 hl (k := 3) rfl (by rw [ev32]; rfl) (by decide) rfl (fun ls hl => ?_)
      refine lv_goto (tgt := 9) hx hb dX7_idleOf_35 (by decide) ?_
      exact ih _ _ _ _ _ _ _ h P (lv_sub hl [1, 2, 3, 0] rfl)
theorem m7_idleOf {l : Launch} {D : va_G} {cA : Nat → ClassId} {ad : Nat → Nat} {x1 : Int32} {S : Zs} {z : Int32 × Zs} (h : f7_idleOf x1 S = some z) :
    zMi l yX7_idleOf cX7_idleOf 7 3 73 D zM ad cA S [.ref (ad 0), .int x1] z := by
  refine z_enter (Qc := fun A => zQi D zM ad cA A z) (by decide +kernel) (Nat.le_of_ble_eq_true rfl) (fun p e s m below meth c A C P ls hl => ?_)
  have hx := C.1
  have hb := C.2.1
  have hl : lv_has ls 7 [(0, .ref (ad 0)), (1, .int x1)] := hl
  unfold f7_idleOf at h
  refine lv_aload_n hx hb dX7_idleOf_0 rfl (lv_at hl 0 rfl) ?_
  refine lv_iload_n hx hb dX7_idleOf_1 rfl (lv_at hl 1 rfl) ?_
  obtain ⟨r2, g2, h⟩ := bd1_some h
  refine z_callVl C P (As := [.int x1]) (m7_incomeOf g2) cW7_208 rfl zm0 rfl (by decide) hl.1 rfl (Nat.le_of_ble_eq_true rfl) dX7_idleOf_2 ⟨Nat.zero_le _, Nat.zero_le _⟩ (fun H locs P => ?_)
  refine lv_lstore_n (lv' := [(2, .long r2), (0, .ref (ad 0)), (1, .int x1)]) hx hb dX7_idleOf_5 rfl hl (by decide) rfl (fun ls hl => ?_)
  refine lv_iconst (v := 0) hx hb dX7_idleOf_6 (by decide) ?_
  refine lv_istore (lv' := [(4, .int (0 : Int32)), (2, .long r2), (0, .ref (ad 0)), (1, .int x1)]) hx hb dX7_idleOf_7 hl (by decide) rfl (fun ls hl => ?_)
  exact w7_idleOf_9 C _ _ _ _ _ _ _ _ h P (lv_sub hl [2, 3, 1, 0] rfl)
theorem m7_isRest {l : Launch} {D : va_G} {cA : Nat → ClassId} {ad : Nat → Nat} {x1 : Int32} {x2 : Int64} {x4 : Int64} {x6 : Int64} {S : Zs} {z : Int32 × Zs} (h : f7_isRest x1 x2 x4 x6 S = some z) :
    zMb l yX7_isRest cX7_isRest 8 4 99 D zM ad cA S [.ref (ad 0), .int x1, .long x2, .long x4, .long x6] z := by
  refine z_enter (Qc := fun A => zQb D zM ad cA A z) (by decide +kernel) (Nat.le_of_ble_eq_true rfl) (fun p e s m below meth c A C P ls hl => ?_)
  have hx := C.1
  have hb := C.2.1
  have hl : lv_has ls 8 [(0, .ref (ad 0)), (1, .int x1), (2, .long x2), (4, .long x4), (6, .long x6)] := hl
  unfold f7_isRest at h
  refine lv_aload_n hx hb dX7_isRest_0 rfl (lv_at hl 0 rfl) ?_
  refine gF7_40 C P zm0 rfl dX7_isRest_1 ?_
  refine lv_iconst (v := 0) hx hb dX7_isRest_4 (by decide) ?_
  refine lv_lload_n hx hb dX7_isRest_5 rfl (lv_at hl 2 rfl) ?_
  refine z_last C P zm11 dX7_isRest_6 h (fun S6 H locs h P => ?_)
  refine lv_aload_n hx hb dX7_isRest_7 rfl (lv_at hl 0 rfl) ?_
  refine gF7_40 C P zm0 rfl dX7_isRest_8 ?_
  refine lv_iconst (v := 1) hx hb dX7_isRest_11 (by decide) ?_
  refine lv_lload hx hb dX7_isRest_12 (lv_at hl 3 rfl) ?_
  refine z_last C P zm11 dX7_isRest_14 h (fun S14 H locs h P => ?_)
  refine lv_aload_n hx hb dX7_isRest_15 rfl (lv_at hl 0 rfl) ?_
  refine gF7_40 C P zm0 rfl dX7_isRest_16 ?_
  refine lv_iconst (v := 2) hx hb dX7_isRest_19 (by decide) ?_
  refine lv_lload hx hb dX7_isRest_20 (lv_at hl 4 rfl) ?_
  refine z_last C P zm11 dX7_isRest_22 h (fun S22 H locs h P => ?_)
  refine lv_lload_n hx hb dX7_isRest_23 rfl (lv_at hl 2 rfl) ?_
  refine lv_lconst (v := 0) hx hb dX7_isRest_24 (by decide) ?_
  refine z_lcmp_le (tgt := 55) hx hb dX7_isRest_25 dX7_isRest_26 (by decide) h (fun h => ?_) (fun h => ?_)
  · refine lv_iconst (v := 0) hx hb dX7_isRest_55 (by decide) ?_
    exact z_zret C P (Option.some.inj h) (by decide) dX7_isRest_56
  · refine lv_lload hx hb dX7_isRest_29 (lv_at hl 3 rfl) ?_
    refine lv_lconst (v := 0) hx hb dX7_isRest_31 (by decide) ?_
    refine z_lcmp_le (tgt := 55) hx hb dX7_isRest_32 dX7_isRest_33 (by decide) h (fun h => ?_) (fun h => ?_)
    · refine lv_iconst (v := 0) hx hb dX7_isRest_55 (by decide) ?_
      exact z_zret C P (Option.some.inj h) (by decide) dX7_isRest_56
    · refine lv_lload hx hb dX7_isRest_36 (lv_at hl 4 rfl) ?_
      refine lv_lconst (v := 0) hx hb dX7_isRest_38 (by decide) ?_
      refine z_lcmp_le (tgt := 55) hx hb dX7_isRest_39 dX7_isRest_40 (by decide) h (fun h => ?_) (fun h => ?_)
      · refine lv_iconst (v := 0) hx hb dX7_isRest_55 (by decide) ?_
        exact z_zret C P (Option.some.inj h) (by decide) dX7_isRest_56
      · refine lv_aload_n hx hb dX7_isRest_43 rfl (lv_at hl 0 rfl) ?_
        refine lv_iload_n hx hb dX7_isRest_44 rfl (lv_at hl 1 rfl) ?_
        obtain ⟨r45, S45, g45, h⟩ := bd2_some h
        refine z_callVi C P (As := [.int x1]) (m7_idleOf g45) cW7_219 rfl zm0 rfl (by decide) hl.1 rfl (Nat.le_of_ble_eq_true rfl) dX7_isRest_45 ⟨Nat.zero_le _, Nat.zero_le _⟩ (fun H locs P => ?_)
        refine z_if_ne (tgt := 55) hx hb dX7_isRest_48 (by decide) h (fun h => ?_) (fun h => ?_)
        · refine lv_iconst (v := 0) hx hb dX7_isRest_55 (by decide) ?_
          exact z_zret C P (Option.some.inj h) (by decide) dX7_isRest_56
        · refine lv_iconst (v := 1) hx hb dX7_isRest_51 (by decide) ?_
          refine lv_goto (tgt := 56) hx hb dX7_isRest_52 (by decide) ?_
          exact z_zret C P (Option.some.inj h) (by decide) dX7_isRest_56
end ZVM2
