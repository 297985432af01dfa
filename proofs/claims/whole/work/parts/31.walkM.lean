section ZVM1
variable {p : Program} {l : Launch} {e : Env} {s : State} {m : MethodId} {args : Array Value} {below : List Frame} {meth : Method} {c : Code} {D : va_G} {cA : Nat → ClassId} {A : Nat → Prop} {ad : Nat → Nat}
theorem w7_next_26 (C : zCx p s m args meth c cX7_next 2 RX7 none D ad cA A) {z : Zs} {k0 : Zs → Option Zs} (hk0 : ∀ (S : Zs) (H : Heap) (locs : List Loc) (ls : Array Slot), k0 S = some z → zP D zM ad cA A S s H locs → lv_has ls 2 [(0, .ref (ad 0))] → W p l e (zrm 1 21) s m args below meth c H locs 0 0 (MQ below (zQv D zM ad cA A z) args s 0 0 A) (F0 m 0 ls [])) (S : Zs) (H : Heap) (locs : List Loc) (ls : Array Slot) (h : f7_next_26 k0 S = some z) (P : zP D zM ad cA A S s H locs) (hl : lv_has ls 2 [(0, .ref (ad 0))]) :
    W p l e (zrm 1 21) s m args below meth c H locs 0 0 (MQ below (zQv D zM ad cA A z) args s 0 0 A) (F0 m 26 ls []) := by
  have hx := C.1
  have hb := C.2.1
  unfold f7_next_26 at h
  refine lv_aload_n hx hb dX7_next_26 rfl (lv_at hl 0 rfl) ?_
  refine lv_dup hx hb dX7_next_27 rfl ?_
  refine gF7_102 C P zm0 rfl dX7_next_28 ?_
  refine lv_iconst (v := 1) hx hb dX7_next_31 (by decide) ?_
  refine lv_iadd hx hb dX7_next_32 ?_
  refine pF7_102 C P zm0 rfl dX7_next_33 h (fun S33 H locs h P => ?_)
  refine lv_goto (tgt := 0) hx hb dX7_next_36 (by decide) ?_
  exact hk0 _ _ _ _ h P (lv_sub hl [0] rfl)
theorem w7_next_196 (C : zCx p s m args meth c cX7_next 2 RX7 none D ad cA A) {z : Zs} (S : Zs) (H : Heap) (locs : List Loc) (ls : Array Slot) (h : f7_next_196 S = some z) (P : zP D zM ad cA A S s H locs) (hl : lv_has ls 2 [(0, .ref (ad 0))]) :
    W p l e (zrm 1 21) s m args below meth c H locs 0 0 (MQ below (zQv D zM ad cA A z) args s 0 0 A) (F0 m 196 ls []) := by
  have hx := C.1
  have hb := C.2.1
  unfold f7_next_196 at h
  refine lv_aload_n hx hb dX7_next_196 rfl (lv_at hl 0 rfl) ?_
  refine lv_aload_n hx hb dX7_next_197 rfl (lv_at hl 0 rfl) ?_
  refine gF7_102 C P zm0 rfl dX7_next_198 ?_
  refine pF7_121 C P zm0 rfl dX7_next_201 h (fun S201 H locs h P => ?_)
  exact z_vret C P (Option.some.inj h) dX7_next_204
theorem w7_next_193 (C : zCx p s m args meth c cX7_next 2 RX7 none D ad cA A) {z : Zs} (t0 : Int32) (S : Zs) (H : Heap) (locs : List Loc) (ls : Array Slot) (h : f7_next_193 t0 S = some z) (P : zP D zM ad cA A S s H locs) (hl : lv_has ls 2 [(0, .ref (ad 0))]) :
    W p l e (zrm 1 21) s m args below meth c H locs 0 0 (MQ below (zQv D zM ad cA A z) args s 0 0 A) (F0 m 193 ls [.int t0, .ref (ad 0)]) := by
  have hx := C.1
  have hb := C.2.1
  unfold f7_next_193 at h
  refine pF7_112 C P zm0 rfl dX7_next_193 h (fun S193 H locs h P => ?_)
  exact w7_next_196 C _ _ _ _ h P (lv_sub hl [0] rfl)
theorem w7_next_165 (C : zCx p s m args meth c cX7_next 2 RX7 none D ad cA A) {z : Zs} (t0 : Int32) (S : Zs) (H : Heap) (locs : List Loc) (ls : Array Slot) (h : f7_next_165 t0 S = some z) (P : zP D zM ad cA A S s H locs) (hl : lv_has ls 2 [(0, .ref (ad 0))]) :
    W p l e (zrm 1 21) s m args below meth c H locs 0 0 (MQ below (zQv D zM ad cA A z) args s 0 0 A) (F0 m 165 ls [.int t0, .ref (ad 0)]) := by
  have hx := C.1
  have hb := C.2.1
  unfold f7_next_165 at h
  refine pF7_112 C P zm0 rfl dX7_next_165 h (fun S165 H locs h P => ?_)
  refine lv_goto (tgt := 196) hx hb dX7_next_168 (by decide) ?_
  exact w7_next_196 C _ _ _ _ h P (lv_sub hl [0] rfl)
theorem w7_next_119 (C : zCx p s m args meth c cX7_next 2 RX7 none D ad cA A) {z : Zs} :
    ∀ (n : Nat) (S : Zs) (H : Heap) (locs : List Loc) (ls : Array Slot), f7_next_119 n S = some z → zP D zM ad cA A S s H locs → lv_has ls 2 [(0, .ref (ad 0))] → W p l e (zrm 1 21) s m args below meth c H locs 0 0 (MQ below (zQv D zM ad cA A z) args s 0 0 A) (F0 m 119 ls []) := by
  have hx := C.1
  have hb := C.2.1
  intro n
  induction n with
  | zero =>
    intro S H locs ls h
    cases h
  | succ n ih =>
    intro S H locs ls h P hl
    unfold f7_next_119 at h
    refine lv_aload_n hx hb dX7_next_119 rfl (lv_at hl 0 rfl) ?_
    refine lv_aload_n hx hb dX7_next_120 rfl (lv_at hl 0 rfl) ?_
    refine gF7_102 C P zm0 rfl dX7_next_121 ?_
    obtain ⟨r124, g124, h⟩ := bd1_some h
    refine z_callVi C P (As := [.int (S.1 0 19)]) (m7_byteAt g124) cW7_105 rfl zm0 rfl (by decide) hl.1 rfl (Nat.le_of_ble_eq_true rfl) dX7_next_124 ⟨Nat.zero_le _, Nat.zero_le _⟩ (fun H locs P => ?_)
    refine z_callSb C P (As := [.int r124]) (m7_isFigure) cW7_118 rfl (by decide) hl.1 rfl (Nat.le_of_ble_eq_true rfl) dX7_next_127 ⟨Nat.zero_le _, Nat.zero_le _⟩ (fun H locs n127 P => ?_)
    refine z_if_eq (tgt := 146) hx hb dX7_next_130 (by decide) h (fun h => ?_) (fun h => ?_)
    · refine lv_aload_n hx hb dX7_next_146 rfl (lv_at hl 0 rfl) ?_
      refine lv_aload_n hx hb dX7_next_147 rfl (lv_at hl 0 rfl) ?_
      refine gF7_102 C P zm0 rfl dX7_next_148 ?_
      refine lv_aload_n hx hb dX7_next_151 rfl (lv_at hl 0 rfl) ?_
      refine gF7_109 C P zm0 rfl dX7_next_152 ?_
      refine lv_isub hx hb dX7_next_155 ?_
      refine lv_iconst (v := 2) hx hb dX7_next_156 (by decide) ?_
      refine z_icmp_le (tgt := 164) hx hb dX7_next_157 (by decide) h (fun h => ?_) (fun h => ?_)
      · refine lv_iconst (v := 3) hx hb dX7_next_164 (by decide) ?_
        exact w7_next_165 C _ _ _ _ _ h P (lv_sub hl [0] rfl)
      · refine lv_iconst (v := 0) hx hb dX7_next_160 (by decide) ?_
        refine lv_goto (tgt := 165) hx hb dX7_next_161 (by decide) ?_
        exact w7_next_165 C _ _ _ _ _ h P (lv_sub hl [0] rfl)
    · refine lv_aload_n hx hb dX7_next_133 rfl (lv_at hl 0 rfl) ?_
      refine lv_dup hx hb dX7_next_134 rfl ?_
      refine gF7_102 C P zm0 rfl dX7_next_135 ?_
      refine lv_iconst (v := 1) hx hb dX7_next_138 (by decide) ?_
      refine lv_iadd hx hb dX7_next_139 ?_
      refine pF7_102 C P zm0 rfl dX7_next_140 h (fun S140 H locs h P => ?_)
      refine lv_goto (tgt := 119) hx hb dX7_next_143 (by decide) ?_
      exact ih _ _ _ _ h P (lv_sub hl [0] rfl)
theorem w7_next_77 (C : zCx p s m args meth c cX7_next 2 RX7 none D ad cA A) {z : Zs} :
    ∀ (n : Nat) (S : Zs) (H : Heap) (locs : List Loc) (ls : Array Slot), f7_next_77 n S = some z → zP D zM ad cA A S s H locs → lv_has ls 2 [(0, .ref (ad 0))] → W p l e (zrm 1 21) s m args below meth c H locs 0 0 (MQ below (zQv D zM ad cA A z) args s 0 0 A) (F0 m 77 ls []) := by
  have hx := C.1
  have hb := C.2.1
  intro n
  induction n with
  | zero =>
    intro S H locs ls h
    cases h
  | succ n ih =>
    intro S H locs ls h P hl
    unfold f7_next_77 at h
    refine lv_aload_n hx hb dX7_next_77 rfl (lv_at hl 0 rfl) ?_
    refine lv_aload_n hx hb dX7_next_78 rfl (lv_at hl 0 rfl) ?_
    refine gF7_102 C P zm0 rfl dX7_next_79 ?_
    obtain ⟨r82, g82, h⟩ := bd1_some h
    refine z_callVi C P (As := [.int (S.1 0 19)]) (m7_byteAt g82) cW7_105 rfl zm0 rfl (by decide) hl.1 rfl (Nat.le_of_ble_eq_true rfl) dX7_next_82 ⟨Nat.zero_le _, Nat.zero_le _⟩ (fun H locs P => ?_)
    refine z_callSb C P (As := [.int r82]) (m7_isLetter) cW7_115 rfl (by decide) hl.1 rfl (Nat.le_of_ble_eq_true rfl) dX7_next_85 ⟨Nat.zero_le _, Nat.zero_le _⟩ (fun H locs n85 P => ?_)
    refine z_if_eq (tgt := 104) hx hb dX7_next_88 (by decide) h (fun h => ?_) (fun h => ?_)
    · refine lv_aload_n hx hb dX7_next_104 rfl (lv_at hl 0 rfl) ?_
      refine lv_iconst (v := 2) hx hb dX7_next_105 (by decide) ?_
      refine pF7_112 C P zm0 rfl dX7_next_106 h (fun S106 H locs h P => ?_)
      refine lv_goto (tgt := 196) hx hb dX7_next_109 (by decide) ?_
      exact w7_next_196 C _ _ _ _ h P (lv_sub hl [0] rfl)
    · refine lv_aload_n hx hb dX7_next_91 rfl (lv_at hl 0 rfl) ?_
      refine lv_dup hx hb dX7_next_92 rfl ?_
      refine gF7_102 C P zm0 rfl dX7_next_93 ?_
      refine lv_iconst (v := 1) hx hb dX7_next_96 (by decide) ?_
      refine lv_iadd hx hb dX7_next_97 ?_
      refine pF7_102 C P zm0 rfl dX7_next_98 h (fun S98 H locs h P => ?_)
      refine lv_goto (tgt := 77) hx hb dX7_next_101 (by decide) ?_
      exact ih _ _ _ _ h P (lv_sub hl [0] rfl)
theorem w7_next_0 (C : zCx p s m args meth c cX7_next 2 RX7 none D ad cA A) {z : Zs} :
    ∀ (n : Nat) (S : Zs) (H : Heap) (locs : List Loc) (ls : Array Slot), f7_next_0 n S = some z → zP D zM ad cA A S s H locs → lv_has ls 2 [(0, .ref (ad 0))] → W p l e (zrm 1 21) s m args below meth c H locs 0 0 (MQ below (zQv D zM ad cA A z) args s 0 0 A) (F0 m 0 ls []) := by
  have hx := C.1
  have hb := C.2.1
  intro n
  induction n with
  | zero =>
    intro S H locs ls h
    cases h
  | succ n ih =>
    intro S H locs ls h P hl
    unfold f7_next_0 at h
    refine lv_aload_n hx hb dX7_next_0 rfl (lv_at hl 0 rfl) ?_
    refine lv_aload_n hx hb dX7_next_1 rfl (lv_at hl 0 rfl) ?_
    refine gF7_102 C P zm0 rfl dX7_next_2 ?_
    obtain ⟨r5, g5, h⟩ := bd1_some h
    refine z_callVi C P (As := [.int (S.1 0 19)]) (m7_byteAt g5) cW7_105 rfl zm0 rfl (by decide) hl.1 rfl (Nat.le_of_ble_eq_true rfl) dX7_next_5 ⟨Nat.zero_le _, Nat.zero_le _⟩ (fun H locs P => ?_)
    refine lv_bipush (v := 32) hx hb dX7_next_8 (by decide) ?_
    refine z_icmp_eq (tgt := 26) hx hb dX7_next_10 (by decide) h (fun h => ?_) (fun h => ?_)
    · exact w7_next_26 C ih _ _ _ _ h P (lv_sub hl [0] rfl)
    · refine lv_aload_n hx hb dX7_next_13 rfl (lv_at hl 0 rfl) ?_
      refine lv_aload_n hx hb dX7_next_14 rfl (lv_at hl 0 rfl) ?_
      refine gF7_102 C P zm0 rfl dX7_next_15 ?_
      obtain ⟨r18, g18, h⟩ := bd1_some h
      refine z_callVi C P (As := [.int (S.1 0 19)]) (m7_byteAt g18) cW7_105 rfl zm0 rfl (by decide) hl.1 rfl (Nat.le_of_ble_eq_true rfl) dX7_next_18 ⟨Nat.zero_le _, Nat.zero_le _⟩ (fun H locs P => ?_)
      refine lv_bipush (v := 10) hx hb dX7_next_21 (by decide) ?_
      refine z_icmp_ne (tgt := 39) hx hb dX7_next_23 (by decide) h (fun h => ?_) (fun h => ?_)
      · refine lv_aload_n hx hb dX7_next_39 rfl (lv_at hl 0 rfl) ?_
        refine lv_aload_n hx hb dX7_next_40 rfl (lv_at hl 0 rfl) ?_
        refine gF7_102 C P zm0 rfl dX7_next_41 ?_
        refine pF7_109 C P zm0 rfl dX7_next_44 h (fun S44 H locs h P => ?_)
        refine lv_aload_n hx hb dX7_next_47 rfl (lv_at hl 0 rfl) ?_
        refine lv_aload_n hx hb dX7_next_48 rfl (lv_at hl 0 rfl) ?_
        refine gF7_102 C P zm0 rfl dX7_next_49 ?_
        obtain ⟨r52, g52, h⟩ := bd1_some h
        refine z_callVi C P (As := [.int (S44.1 0 19)]) (m7_byteAt g52) cW7_105 rfl zm0 rfl (by decide) hl.1 rfl (Nat.le_of_ble_eq_true rfl) dX7_next_52 ⟨Nat.zero_le _, Nat.zero_le _⟩ (fun H locs P => ?_)
        refine lv_istore_n (lv' := [(1, .int r52), (0, .ref (ad 0))]) hx hb dX7_next_55 rfl hl (by decide) rfl (fun ls hl => ?_)
        refine lv_iload_n hx hb dX7_next_56 rfl (lv_at hl 0 rfl) ?_
        refine lv_ldc (v := (-1000000)) hx hb C.2.2.2.1 (C.2.2.2.2.1 _ kK7_101) dX7_next_57 ?_
        refine z_icmp_ne (tgt := 70) hx hb dX7_next_59 (by decide) h (fun h => ?_) (fun h => ?_)
        · refine lv_iload_n hx hb dX7_next_70 rfl (lv_at hl 0 rfl) ?_
          refine z_callSb C P (As := [.int r52]) (m7_isLetter) cW7_115 rfl (by decide) hl.1 rfl (Nat.le_of_ble_eq_true rfl) dX7_next_71 ⟨Nat.zero_le _, Nat.zero_le _⟩ (fun H locs n71 P => ?_)
          refine z_if_eq (tgt := 112) hx hb dX7_next_74 (by decide) h (fun h => ?_) (fun h => ?_)
          · refine lv_iload_n hx hb dX7_next_112 rfl (lv_at hl 0 rfl) ?_
            refine z_callSb C P (As := [.int r52]) (m7_isFigure) cW7_118 rfl (by decide) hl.1 rfl (Nat.le_of_ble_eq_true rfl) dX7_next_113 ⟨Nat.zero_le _, Nat.zero_le _⟩ (fun H locs n113 P => ?_)
            refine z_if_eq (tgt := 171) hx hb dX7_next_116 (by decide) h (fun h => ?_) (fun h => ?_)
            · refine lv_aload_n hx hb dX7_next_171 rfl (lv_at hl 1 rfl) ?_
              refine lv_dup hx hb dX7_next_172 rfl ?_
              refine gF7_102 C P zm0 rfl dX7_next_173 ?_
              refine lv_iconst (v := 1) hx hb dX7_next_176 (by decide) ?_
              refine lv_iadd hx hb dX7_next_177 ?_
              refine pF7_102 C P zm0 rfl dX7_next_178 h (fun S178 H locs h P => ?_)
              refine lv_aload_n hx hb dX7_next_181 rfl (lv_at hl 1 rfl) ?_
              refine lv_iload_n hx hb dX7_next_182 rfl (lv_at hl 0 rfl) ?_
              refine lv_bipush (v := 59) hx hb dX7_next_183 (by decide) ?_
              refine z_icmp_ne (tgt := 192) hx hb dX7_next_185 (by decide) h (fun h => ?_) (fun h => ?_)
              · refine lv_iconst (v := 0) hx hb dX7_next_192 (by decide) ?_
                exact w7_next_193 C _ _ _ _ _ h P (lv_sub hl [1] rfl)
              · refine lv_iconst (v := 4) hx hb dX7_next_188 (by decide) ?_
                refine lv_goto (tgt := 193) hx hb dX7_next_189 (by decide) ?_
                exact w7_next_193 C _ _ _ _ _ h P (lv_sub hl [1] rfl)
            · exact w7_next_119 C _ _ _ _ _ h P (lv_sub hl [1] rfl)
          · exact w7_next_77 C _ _ _ _ _ h P (lv_sub hl [1] rfl)
        · refine lv_aload_n hx hb dX7_next_62 rfl (lv_at hl 1 rfl) ?_
          refine lv_iconst (v := 1) hx hb dX7_next_63 (by decide) ?_
          refine pF7_112 C P zm0 rfl dX7_next_64 h (fun S64 H locs h P => ?_)
          refine lv_goto (tgt := 196) hx hb dX7_next_67 (by decide) ?_
          exact w7_next_196 C _ _ _ _ h P (lv_sub hl [1] rfl)
      · exact w7_next_26 C ih _ _ _ _ h P (lv_sub hl [0] rfl)
theorem m7_next {l : Launch} {D : va_G} {cA : Nat → ClassId} {ad : Nat → Nat} {S : Zs} {z : Zs} (h : f7_next S = some z) :
    zMv l yX7_next cX7_next 2 1 21 D zM ad cA S [.ref (ad 0)] z := by
  refine z_enter (Qc := fun A => zQv D zM ad cA A z) (by decide +kernel) (Nat.le_of_ble_eq_true rfl) (fun p e s m below meth c A C P ls hl => ?_)
  have hx := C.1
  have hb := C.2.1
  have hl : lv_has ls 2 [(0, .ref (ad 0))] := hl
  unfold f7_next at h
  exact w7_next_0 C _ _ _ _ _ h P (lv_sub hl [0] rfl)
theorem m7_bad {l : Launch} {D : va_G} {cA : Nat → ClassId} {ad : Nat → Nat} {x1 : Int32} {S : Zs} {z : Zs} (h : f7_bad x1 S = some z) :
    zMv l yX7_bad cX7_bad 2 0 0 D zM ad cA S [.ref (ad 0), .int x1] z := by
  refine z_enter (Qc := fun A => zQv D zM ad cA A z) (by decide +kernel) (Nat.le_of_ble_eq_true rfl) (fun p e s m below meth c A C P ls hl => ?_)
  have hx := C.1
  have hb := C.2.1
  have hl : lv_has ls 2 [(0, .ref (ad 0)), (1, .int x1)] := hl
  unfold f7_bad at h
  refine lv_aload_n hx hb dX7_bad_0 rfl (lv_at hl 0 rfl) ?_
  refine gF7_124 C P zm0 rfl dX7_bad_1 ?_
  refine z_if_ne (tgt := 20) hx hb dX7_bad_4 (by decide) h (fun h => ?_) (fun h => ?_)
  · exact z_vret C P (Option.some.inj h) dX7_bad_20
  · refine lv_aload_n hx hb dX7_bad_7 rfl (lv_at hl 0 rfl) ?_
    refine lv_iload_n hx hb dX7_bad_8 rfl (lv_at hl 1 rfl) ?_
    refine pF7_124 C P zm0 rfl dX7_bad_9 h (fun S9 H locs h P => ?_)
    refine lv_aload_n hx hb dX7_bad_12 rfl (lv_at hl 0 rfl) ?_
    refine lv_aload_n hx hb dX7_bad_13 rfl (lv_at hl 0 rfl) ?_
    refine gF7_109 C P zm0 rfl dX7_bad_14 ?_
    refine pF7_127 C P zm0 rfl dX7_bad_17 h (fun S17 H locs h P => ?_)
    exact z_vret C P (Option.some.inj h) dX7_bad_20
theorem w7_must_9 (C : zCx p s m args meth c cX7_must 2 RX7 none D ad cA A) {z : Zs} (S : Zs) (H : Heap) (locs : List Loc) (ls : Array Slot) (h : f7_must_9 S = some z) (P : zP D zM ad cA A S s H locs) (hl : lv_has ls 2 [(0, .ref (ad 0))]) :
    W p l e (zrm 2 42) s m args below meth c H locs 0 0 (MQ below (zQv D zM ad cA A z) args s 0 0 A) (F0 m 9 ls []) := by
  have hx := C.1
  have hb := C.2.1
  unfold f7_must_9 at h
  refine lv_aload_n hx hb dX7_must_9 rfl (lv_at hl 0 rfl) ?_
  refine gF7_124 C P zm0 rfl dX7_must_10 ?_
  refine z_if_ne (tgt := 20) hx hb dX7_must_13 (by decide) h (fun h => ?_) (fun h => ?_)
  · exact z_vret C P (Option.some.inj h) dX7_must_20
  · refine lv_aload_n hx hb dX7_must_16 rfl (lv_at hl 0 rfl) ?_
    obtain ⟨S17, g17, h⟩ := bd1_some h
    refine z_callVv C P (As := []) (m7_next g17) cW7_134 rfl zm0 rfl (by decide) hl.1 rfl (Nat.le_of_ble_eq_true rfl) dX7_must_17 ⟨Nat.zero_le _, Nat.zero_le _⟩ (fun H locs P => ?_)
    exact z_vret C P (Option.some.inj h) dX7_must_20
theorem m7_must {l : Launch} {D : va_G} {cA : Nat → ClassId} {ad : Nat → Nat} {x1 : Int32} {S : Zs} {z : Zs} (h : f7_must x1 S = some z) :
    zMv l yX7_must cX7_must 2 2 42 D zM ad cA S [.ref (ad 0), .int x1] z := by
  refine z_enter (Qc := fun A => zQv D zM ad cA A z) (by decide +kernel) (Nat.le_of_ble_eq_true rfl) (fun p e s m below meth c A C P ls hl => ?_)
  have hx := C.1
  have hb := C.2.1
  have hl : lv_has ls 2 [(0, .ref (ad 0)), (1, .int x1)] := hl
  unfold f7_must at h
  refine lv_iload_n hx hb dX7_must_0 rfl (lv_at hl 1 rfl) ?_
  refine z_if_ne (tgt := 9) hx hb dX7_must_1 (by decide) h (fun h => ?_) (fun h => ?_)
  · exact w7_must_9 C _ _ _ _ h P (lv_sub hl [0] rfl)
  · refine lv_aload_n hx hb dX7_must_4 rfl (lv_at hl 0 rfl) ?_
    refine lv_iconst (v := 1) hx hb dX7_must_5 (by decide) ?_
    obtain ⟨S6, g6, h⟩ := bd1_some h
    refine z_callVv C P (As := [.int (1 : Int32)]) (m7_bad g6) cW7_130 rfl zm0 rfl (by decide) hl.1 rfl (Nat.le_of_ble_eq_true rfl) dX7_must_6 ⟨Nat.zero_le _, Nat.zero_le _⟩ (fun H locs P => ?_)
    exact w7_must_9 C _ _ _ _ h P (lv_sub hl [0] rfl)
theorem w7_word_7 (C : zCx p s m args meth c cX7_word 4 RX7 (some .long) D ad cA A) {z : Int64} {S : Zs} :
    ∀ (n : Nat) (x1 : Int64) (x3 : Int32) (H : Heap) (locs : List Loc) (ls : Array Slot), f7_word_7 S n x1 x3 = some z → zP D zM ad cA A S s H locs → lv_has ls 4 [(0, .ref (ad 0)), (1, .long x1), (3, .int x3)] → W p l e (zrm 0 0) s m args below meth c H locs 0 0 (MQ below (zQl D zM ad cA A (z, S)) args s 0 0 A) (F0 m 7 ls []) := by
  have hx := C.1
  have hb := C.2.1
  intro n
  induction n with
  | zero =>
    intro x1 x3 H locs ls h
    cases h
  | succ n ih =>
    intro x1 x3 H locs ls h P hl
    unfold f7_word_7 at h
    refine lv_iload_n hx hb dX7_word_7 rfl (lv_at hl 2 rfl) ?_
    refine lv_aload_n hx hb dX7_word_8 rfl (lv_at hl 0 rfl) ?_
    refine gF7_121 C P zm0 rfl dX7_word_9 ?_
    refine z_icmp_ge (tgt := 56) hx hb dX7_word_12 (by decide) h (fun h => ?_) (fun h => ?_)
    · refine lv_lload_n hx hb dX7_word_56 rfl (lv_at hl 1 rfl) ?_
      exact z_lret C P (by rw [Option.some.inj h]) dX7_word_57
    · refine lv_aload_n hx hb dX7_word_15 rfl (lv_at hl 0 rfl) ?_
      refine gF7_112 C P zm0 rfl dX7_word_16 ?_
      refine lv_iconst (v := 2) hx hb dX7_word_19 (by decide) ?_
      refine z_icmp_ne (tgt := 56) hx hb dX7_word_20 (by decide) h (fun h => ?_) (fun h => ?_)
      · refine lv_lload_n hx hb dX7_word_56 rfl (lv_at hl 1 rfl) ?_
        exact z_lret C P (by rw [Option.some.inj h]) dX7_word_57
      · refine lv_aload_n hx hb dX7_word_23 rfl (lv_at hl 0 rfl) ?_
        refine gF7_121 C P zm0 rfl dX7_word_24 ?_
        refine lv_aload_n hx hb dX7_word_27 rfl (lv_at hl 0 rfl) ?_
        refine gF7_109 C P zm0 rfl dX7_word_28 ?_
        refine lv_isub hx hb dX7_word_31 ?_
        refine lv_bipush (v := 8) hx hb dX7_word_32 (by decide) ?_
        refine z_icmp_ge (tgt := 56) hx hb dX7_word_34 (by decide) h (fun h => ?_) (fun h => ?_)
        · refine lv_lload_n hx hb dX7_word_56 rfl (lv_at hl 1 rfl) ?_
          exact z_lret C P (by rw [Option.some.inj h]) dX7_word_57
        · refine lv_lload_n hx hb dX7_word_37 rfl (lv_at hl 1 rfl) ?_
          refine lv_bipush (v := 8) hx hb dX7_word_38 (by decide) ?_
          refine lv_lshl hx hb dX7_word_40 rfl ?_
          refine lv_aload_n hx hb dX7_word_41 rfl (lv_at hl 0 rfl) ?_
          refine gF7_37 C P zm0 rfl dX7_word_42 ?_
          refine lv_iload_n hx hb dX7_word_45 rfl (lv_at hl 2 rfl) ?_
          refine z_iald C P zm10 dX7_word_46 h (fun h hi => ?_)
          refine lv_i2l hx hb dX7_word_47 rfl ?_
          refine lv_lor hx hb dX7_word_48 ?_
          refine z_topl h (fun v49 h => ?_)
          refine lv_lstore_n (lv' := [(1, .long v49), (0, .ref (ad 0)), (3, .int x3)]) hx hb dX7_word_49 rfl hl (by decide) rfl (fun ls hl => ?_)
          obtain ⟨v50, ev50, h⟩ := z_nm h
          refine lv_iinc (v := v50) (lv' := [(3, .int v50), (1, .long v49), (0, .ref (ad 0))]) hx hb dX7_word_50 hl (k := 2) rfl (by rw [ev50]; rfl) (by decide) rfl (fun ls hl => ?_)
          refine lv_goto (tgt := 7) hx hb dX7_word_53 (by decide) ?_
          exact ih _ _ _ _ _ h P (lv_sub hl [2, 1, 0] rfl)
theorem m7_word {l : Launch} {D : va_G} {cA : Nat → ClassId} {ad : Nat → Nat} {S : Zs} {z : Int64} (h : f7_word S = some z) :
    zMl l yX7_word cX7_word 4 0 0 D zM ad cA S [.ref (ad 0)] (z, S) := by
  refine z_enter (Qc := fun A => zQl D zM ad cA A (z, S)) (by decide +kernel) (Nat.le_of_ble_eq_true rfl) (fun p e s m below meth c A C P ls hl => ?_)
  have hx := C.1
  have hb := C.2.1
  have hl : lv_has ls 4 [(0, .ref (ad 0))] := hl
  unfold f7_word at h
  refine lv_lconst (v := 0) hx hb dX7_word_0 (by decide) ?_
  refine lv_lstore_n (lv' := [(1, .long (0 : Int64)), (0, .ref (ad 0))]) hx hb dX7_word_1 rfl hl (by decide) rfl (fun ls hl => ?_)
  refine lv_aload_n hx hb dX7_word_2 rfl (lv_at hl 1 rfl) ?_
  refine gF7_109 C P zm0 rfl dX7_word_3 ?_
  refine z_topi h (fun v6 h => ?_)
  refine lv_istore_n (lv' := [(3, .int v6), (1, .long (0 : Int64)), (0, .ref (ad 0))]) hx hb dX7_word_6 rfl hl (by decide) rfl (fun ls hl => ?_)
  exact w7_word_7 C _ _ _ _ _ _ h P (lv_sub hl [2, 1, 0] rfl)
theorem w7_numberTo_91 (C : zCx p s m args meth c cX7_numberTo 4 RX7 (some .int) D ad cA A) {z : Int32 × Zs} (x2 : Int32) (t0 : Int32) (S : Zs) (H : Heap) (locs : List Loc) (ls : Array Slot) (h : f7_numberTo_91 x2 t0 S = some z) (P : zP D zM ad cA A S s H locs) (hl : lv_has ls 4 [(0, .ref (ad 0)), (2, .int x2)]) :
    W p l e (zrm 3 63) s m args below meth c H locs 0 0 (MQ below (zQi D zM ad cA A z) args s 0 0 A) (F0 m 91 ls [.int t0, .ref (ad 0)]) := by
  have hx := C.1
  have hb := C.2.1
  unfold f7_numberTo_91 at h
  obtain ⟨S91, g91, h⟩ := bd1_some h
  refine z_callVv C P (As := [.int t0]) (m7_must g91) cW7_137 rfl zm0 rfl (by decide) hl.1 rfl (Nat.le_of_ble_eq_true rfl) dX7_numberTo_91 ⟨Nat.zero_le _, Nat.zero_le _⟩ (fun H locs P => ?_)
  refine lv_iload_n hx hb dX7_numberTo_94 rfl (lv_at hl 1 rfl) ?_
  exact z_iret C P (Option.some.inj h) dX7_numberTo_95
theorem w7_numberTo_77 (C : zCx p s m args meth c cX7_numberTo 4 RX7 (some .int) D ad cA A) {z : Int32 × Zs} (x2 : Int32) (S : Zs) (H : Heap) (locs : List Loc) (ls : Array Slot) (h : f7_numberTo_77 x2 S = some z) (P : zP D zM ad cA A S s H locs) (hl : lv_has ls 4 [(0, .ref (ad 0)), (2, .int x2)]) :
    W p l e (zrm 3 63) s m args below meth c H locs 0 0 (MQ below (zQi D zM ad cA A z) args s 0 0 A) (F0 m 77 ls []) := by
  have hx := C.1
  have hb := C.2.1
  unfold f7_numberTo_77 at h
  refine lv_aload_n hx hb dX7_numberTo_77 rfl (lv_at hl 0 rfl) ?_
  refine lv_aload_n hx hb dX7_numberTo_78 rfl (lv_at hl 0 rfl) ?_
  refine gF7_112 C P zm0 rfl dX7_numberTo_79 ?_
  refine lv_iconst (v := 3) hx hb dX7_numberTo_82 (by decide) ?_
  refine z_icmp_ne (tgt := 90) hx hb dX7_numberTo_83 (by decide) h (fun h => ?_) (fun h => ?_)
  · refine lv_iconst (v := 0) hx hb dX7_numberTo_90 (by decide) ?_
    exact w7_numberTo_91 C _ _ _ _ _ _ h P (lv_sub hl [0, 1] rfl)
  · refine lv_iconst (v := 1) hx hb dX7_numberTo_86 (by decide) ?_
    refine lv_goto (tgt := 91) hx hb dX7_numberTo_87 (by decide) ?_
    exact w7_numberTo_91 C _ _ _ _ _ _ h P (lv_sub hl [0, 1] rfl)
theorem w7_numberTo_53 (C : zCx p s m args meth c cX7_numberTo 4 RX7 (some .int) D ad cA A) {z : Int32 × Zs} (x1 : Int32) (x2 : Int32) (S : Zs) (H : Heap) (locs : List Loc) (ls : Array Slot) (h : f7_numberTo_53 x1 x2 S = some z) (P : zP D zM ad cA A S s H locs) (hl : lv_has ls 4 [(0, .ref (ad 0)), (1, .int x1), (2, .int x2)]) :
    W p l e (zrm 3 63) s m args below meth c H locs 0 0 (MQ below (zQi D zM ad cA A z) args s 0 0 A) (F0 m 53 ls []) := by
  have hx := C.1
  have hb := C.2.1
  unfold f7_numberTo_53 at h
  refine lv_aload_n hx hb dX7_numberTo_53 rfl (lv_at hl 0 rfl) ?_
  refine gF7_112 C P zm0 rfl dX7_numberTo_54 ?_
  refine lv_iconst (v := 3) hx hb dX7_numberTo_57 (by decide) ?_
  refine z_icmp_ne (tgt := 77) hx hb dX7_numberTo_58 (by decide) h (fun h => ?_) (fun h => ?_)
  · exact w7_numberTo_77 C _ _ _ _ _ h P (lv_sub hl [0, 2] rfl)
  · refine lv_iload_n hx hb dX7_numberTo_61 rfl (lv_at hl 2 rfl) ?_
    refine lv_i2l hx hb dX7_numberTo_62 rfl ?_
    refine lv_lconst (v := 1) hx hb dX7_numberTo_63 (by decide) ?_
    refine lv_iload_n hx hb dX7_numberTo_64 rfl (lv_at hl 1 rfl) ?_
    refine lv_i2l hx hb dX7_numberTo_65 rfl ?_
    refine z_callSb C P (As := [.long x2.toInt64, .long (1 : Int64), .long x1.toInt64]) (m7_in) cW7_73 rfl (by decide) hl.1 rfl (Nat.le_of_ble_eq_true rfl) dX7_numberTo_66 ⟨Nat.zero_le _, Nat.zero_le _⟩ (fun H locs n66 P => ?_)
    refine z_if_ne (tgt := 77) hx hb dX7_numberTo_69 (by decide) h (fun h => ?_) (fun h => ?_)
    · exact w7_numberTo_77 C _ _ _ _ _ h P (lv_sub hl [0, 2] rfl)
    · refine lv_aload_n hx hb dX7_numberTo_72 rfl (lv_at hl 0 rfl) ?_
      refine lv_iconst (v := 2) hx hb dX7_numberTo_73 (by decide) ?_
      obtain ⟨S74, g74, h⟩ := bd1_some h
      refine z_callVv C P (As := [.int (2 : Int32)]) (m7_bad g74) cW7_130 rfl zm0 rfl (by decide) hl.1 rfl (Nat.le_of_ble_eq_true rfl) dX7_numberTo_74 ⟨Nat.zero_le _, Nat.zero_le _⟩ (fun H locs P => ?_)
      exact w7_numberTo_77 C _ _ _ _ _ h P (lv_sub hl [0, 2] rfl)
theorem w7_numberTo_16 (C : zCx p s m args meth c cX7_numberTo 4 RX7 (some .int) D ad cA A) {z : Int32 × Zs} :
    ∀ (n : Nat) (x1 : Int32) (x2 : Int32) (x3 : Int32) (S : Zs) (H : Heap) (locs : List Loc) (ls : Array Slot), f7_numberTo_16 n x1 x2 x3 S = some z → zP D zM ad cA A S s H locs → lv_has ls 4 [(0, .ref (ad 0)), (1, .int x1), (2, .int x2), (3, .int x3)] → W p l e (zrm 3 63) s m args below meth c H locs 0 0 (MQ below (zQi D zM ad cA A z) args s 0 0 A) (F0 m 16 ls []) := by
  have hx := C.1
  have hb := C.2.1
  intro n
  induction n with
  | zero =>
    intro x1 x2 x3 S H locs ls h
    cases h
  | succ n ih =>
    intro x1 x2 x3 S H locs ls h P hl
    unfold f7_numberTo_16 at h
    refine lv_iload_n hx hb dX7_numberTo_16 rfl (lv_at hl 3 rfl) ?_
    refine lv_aload_n hx hb dX7_numberTo_17 rfl (lv_at hl 0 rfl) ?_
    refine gF7_121 C P zm0 rfl dX7_numberTo_18 ?_
    refine z_icmp_ge (tgt := 53) hx hb dX7_numberTo_21 (by decide) h (fun h => ?_) (fun h => ?_)
    · exact w7_numberTo_53 C _ _ _ _ _ _ h P (lv_sub hl [0, 1, 2] rfl)
    · refine lv_aload_n hx hb dX7_numberTo_24 rfl (lv_at hl 0 rfl) ?_
      refine gF7_112 C P zm0 rfl dX7_numberTo_25 ?_
      refine lv_iconst (v := 3) hx hb dX7_numberTo_28 (by decide) ?_
      refine z_icmp_ne (tgt := 53) hx hb dX7_numberTo_29 (by decide) h (fun h => ?_) (fun h => ?_)
      · exact w7_numberTo_53 C _ _ _ _ _ _ h P (lv_sub hl [0, 1, 2] rfl)
      · refine lv_bipush (v := 10) hx hb dX7_numberTo_32 (by decide) ?_
        refine lv_iload_n hx hb dX7_numberTo_34 rfl (lv_at hl 2 rfl) ?_
        refine lv_imul hx hb dX7_numberTo_35 ?_
        refine lv_aload_n hx hb dX7_numberTo_36 rfl (lv_at hl 0 rfl) ?_
        refine gF7_37 C P zm0 rfl dX7_numberTo_37 ?_
        refine lv_iload_n hx hb dX7_numberTo_40 rfl (lv_at hl 3 rfl) ?_
        refine z_iald C P zm10 dX7_numberTo_41 h (fun h hi => ?_)
        refine lv_iadd hx hb dX7_numberTo_42 ?_
        refine lv_bipush (v := 48) hx hb dX7_numberTo_43 (by decide) ?_
        refine lv_isub hx hb dX7_numberTo_45 ?_
        refine z_topi h (fun v46 h => ?_)
        refine lv_istore_n (lv' := [(2, .int v46), (0, .ref (ad 0)), (1, .int x1), (3, .int x3)]) hx hb dX7_numberTo_46 rfl hl (by decide) rfl (fun ls hl => ?_)
        obtain ⟨v47, ev47, h⟩ := z_nm h
        refine lv_iinc (v := v47) (lv' := [(3, .int v47), (2, .int v46), (0, .ref (ad 0)), (1, .int x1)]) hx hb dX7_numberTo_47 hl (k := 3) rfl (by rw [ev47]; rfl) (by decide) rfl (fun ls hl => ?_)
        refine lv_goto (tgt := 16) hx hb dX7_numberTo_50 (by decide) ?_
        exact ih _ _ _ _ _ _ _ h P (lv_sub hl [2, 3, 1, 0] rfl)
theorem m7_numberTo {l : Launch} {D : va_G} {cA : Nat → ClassId} {ad : Nat → Nat} {x1 : Int32} {S : Zs} {z : Int32 × Zs} (h : f7_numberTo x1 S = some z) :
    zMi l yX7_numberTo cX7_numberTo 4 3 63 D zM ad cA S [.ref (ad 0), .int x1] z := by
  refine z_enter (Qc := fun A => zQi D zM ad cA A z) (by decide +kernel) (Nat.le_of_ble_eq_true rfl) (fun p e s m below meth c A C P ls hl => ?_)
  have hx := C.1
  have hb := C.2.1
  have hl : lv_has ls 4 [(0, .ref (ad 0)), (1, .int x1)] := hl
  unfold f7_numberTo at h
  refine lv_aload_n hx hb dX7_numberTo_0 rfl (lv_at hl 0 rfl) ?_
  refine gF7_124 C P zm0 rfl dX7_numberTo_1 ?_
  refine z_if_le (tgt := 9) hx hb dX7_numberTo_4 (by decide) h (fun h => ?_) (fun h => ?_)
  · refine lv_iconst (v := 0) hx hb dX7_numberTo_9 (by decide) ?_
    refine lv_istore_n (lv' := [(2, .int (0 : Int32)), (0, .ref (ad 0)), (1, .int x1)]) hx hb dX7_numberTo_10 rfl hl (by decide) rfl (fun ls hl => ?_)
    refine lv_aload_n hx hb dX7_numberTo_11 rfl (lv_at hl 1 rfl) ?_
    refine gF7_109 C P zm0 rfl dX7_numberTo_12 ?_
    refine z_topi h (fun v15 h => ?_)
    refine lv_istore_n (lv' := [(3, .int v15), (2, .int (0 : Int32)), (0, .ref (ad 0)), (1, .int x1)]) hx hb dX7_numberTo_15 rfl hl (by decide) rfl (fun ls hl => ?_)
    exact w7_numberTo_16 C _ _ _ _ _ _ _ _ h P (lv_sub hl [2, 3, 1, 0] rfl)
  · refine lv_iconst (v := 0) hx hb dX7_numberTo_7 (by decide) ?_
    exact z_iret C P (Option.some.inj h) dX7_numberTo_8
theorem m7_isWord {l : Launch} {D : va_G} {cA : Nat → ClassId} {ad : Nat → Nat} {x1 : Int64} {S : Zs} {z : Int32} (h : f7_isWord S x1 = some z) :
    zMb l yX7_isWord cX7_isWord 3 1 23 D zM ad cA S [.ref (ad 0), .long x1] (z, S) := by
  refine z_enter (Qc := fun A => zQb D zM ad cA A (z, S)) (by decide +kernel) (Nat.le_of_ble_eq_true rfl) (fun p e s m below meth c A C P ls hl => ?_)
  have hx := C.1
  have hb := C.2.1
  have hl : lv_has ls 3 [(0, .ref (ad 0)), (1, .long x1)] := hl
  unfold f7_isWord at h
  refine lv_aload_n hx hb dX7_isWord_0 rfl (lv_at hl 0 rfl) ?_
  refine gF7_124 C P zm0 rfl dX7_isWord_1 ?_
  refine z_if_ne (tgt := 20) hx hb dX7_isWord_4 (by decide) h (fun h => ?_) (fun h => ?_)
  · refine lv_iconst (v := 0) hx hb dX7_isWord_20 (by decide) ?_
    exact z_zret C P (by rw [Option.some.inj h]) (by decide) dX7_isWord_21
  · refine lv_aload_n hx hb dX7_isWord_7 rfl (lv_at hl 0 rfl) ?_
    obtain ⟨r8, g8, h⟩ := bd1_some h
    refine z_callVl C P (As := []) (m7_word g8) cW7_141 rfl zm0 rfl (by decide) hl.1 rfl (Nat.le_of_ble_eq_true rfl) dX7_isWord_8 ⟨Nat.zero_le _, Nat.zero_le _⟩ (fun H locs P => ?_)
    refine lv_lload_n hx hb dX7_isWord_11 rfl (lv_at hl 1 rfl) ?_
    refine z_lcmp_ne (tgt := 20) hx hb dX7_isWord_12 dX7_isWord_13 (by decide) h (fun h => ?_) (fun h => ?_)
    · refine lv_iconst (v := 0) hx hb dX7_isWord_20 (by decide) ?_
      exact z_zret C P (by rw [Option.some.inj h]) (by decide) dX7_isWord_21
    · refine lv_iconst (v := 1) hx hb dX7_isWord_16 (by decide) ?_
      refine lv_goto (tgt := 21) hx hb dX7_isWord_17 (by decide) ?_
      exact z_zret C P (by rw [Option.some.inj h]) (by decide) dX7_isWord_21
theorem w7_mustEnd_21 (C : zCx p s m args meth c cX7_mustEnd 1 RX7 none D ad cA A) {z : Zs} (t0 : Int32) (S : Zs) (H : Heap) (locs : List Loc) (ls : Array Slot) (h : f7_mustEnd_21 t0 S = some z) (P : zP D zM ad cA A S s H locs) (hl : lv_has ls 1 [(0, .ref (ad 0))]) :
    W p l e (zrm 3 63) s m args below meth c H locs 0 0 (MQ below (zQv D zM ad cA A z) args s 0 0 A) (F0 m 21 ls [.int t0, .ref (ad 0)]) := by
  have hx := C.1
  have hb := C.2.1
  unfold f7_mustEnd_21 at h
  obtain ⟨S21, g21, h⟩ := bd1_some h
  refine z_callVv C P (As := [.int t0]) (m7_must g21) cW7_137 rfl zm0 rfl (by decide) hl.1 rfl (Nat.le_of_ble_eq_true rfl) dX7_mustEnd_21 ⟨Nat.zero_le _, Nat.zero_le _⟩ (fun H locs P => ?_)
  exact z_vret C P (Option.some.inj h) dX7_mustEnd_24
theorem m7_mustEnd {l : Launch} {D : va_G} {cA : Nat → ClassId} {ad : Nat → Nat} {S : Zs} {z : Zs} (h : f7_mustEnd S = some z) :
    zMv l yX7_mustEnd cX7_mustEnd 1 3 63 D zM ad cA S [.ref (ad 0)] z := by
  refine z_enter (Qc := fun A => zQv D zM ad cA A z) (by decide +kernel) (Nat.le_of_ble_eq_true rfl) (fun p e s m below meth c A C P ls hl => ?_)
  have hx := C.1
  have hb := C.2.1
  have hl : lv_has ls 1 [(0, .ref (ad 0))] := hl
  unfold f7_mustEnd at h
  refine lv_aload_n hx hb dX7_mustEnd_0 rfl (lv_at hl 0 rfl) ?_
  refine gF7_124 C P zm0 rfl dX7_mustEnd_1 ?_
  refine z_if_ne (tgt := 24) hx hb dX7_mustEnd_4 (by decide) h (fun h => ?_) (fun h => ?_)
  · exact z_vret C P (Option.some.inj h) dX7_mustEnd_24
  · refine lv_aload_n hx hb dX7_mustEnd_7 rfl (lv_at hl 0 rfl) ?_
    refine lv_aload_n hx hb dX7_mustEnd_8 rfl (lv_at hl 0 rfl) ?_
    refine gF7_112 C P zm0 rfl dX7_mustEnd_9 ?_
    refine lv_iconst (v := 4) hx hb dX7_mustEnd_12 (by decide) ?_
    refine z_icmp_ne (tgt := 20) hx hb dX7_mustEnd_13 (by decide) h (fun h => ?_) (fun h => ?_)
    · refine lv_iconst (v := 0) hx hb dX7_mustEnd_20 (by decide) ?_
      exact w7_mustEnd_21 C _ _ _ _ _ h P (lv_sub hl [0] rfl)
    · refine lv_iconst (v := 1) hx hb dX7_mustEnd_16 (by decide) ?_
      refine lv_goto (tgt := 21) hx hb dX7_mustEnd_17 (by decide) ?_
      exact w7_mustEnd_21 C _ _ _ _ _ h P (lv_sub hl [0] rfl)
theorem w7_readGood_69 (C : zCx p s m args meth c cX7_readGood 2 RX7 none D ad cA A) {z : Zs} (S : Zs) (H : Heap) (locs : List Loc) (ls : Array Slot) (h : f7_readGood_69 S = some z) (P : zP D zM ad cA A S s H locs) (hl : lv_has ls 2 [(0, .ref (ad 0))]) :
    W p l e (zrm 4 86) s m args below meth c H locs 0 0 (MQ below (zQv D zM ad cA A z) args s 0 0 A) (F0 m 69 ls []) := by
  have hx := C.1
  have hb := C.2.1
  unfold f7_readGood_69 at h
  refine lv_aload_n hx hb dX7_readGood_69 rfl (lv_at hl 0 rfl) ?_
  obtain ⟨S70, g70, h⟩ := bd1_some h
  refine z_callVv C P (As := []) (m7_mustEnd g70) cW7_157 rfl zm0 rfl (by decide) hl.1 rfl (Nat.le_of_ble_eq_true rfl) dX7_readGood_70 ⟨Nat.zero_le _, Nat.zero_le _⟩ (fun H locs P => ?_)
  exact z_vret C P (Option.some.inj h) dX7_readGood_73
theorem w7_readGood_24 (C : zCx p s m args meth c cX7_readGood 2 RX7 none D ad cA A) {z : Zs} (S : Zs) (H : Heap) (locs : List Loc) (ls : Array Slot) (h : f7_readGood_24 S = some z) (P : zP D zM ad cA A S s H locs) (hl : lv_has ls 2 [(0, .ref (ad 0))]) :
    W p l e (zrm 4 86) s m args below meth c H locs 0 0 (MQ below (zQv D zM ad cA A z) args s 0 0 A) (F0 m 24 ls []) := by
  have hx := C.1
  have hb := C.2.1
  unfold f7_readGood_24 at h
  refine lv_aload_n hx hb dX7_readGood_24 rfl (lv_at hl 0 rfl) ?_
  refine lv_aload_n hx hb dX7_readGood_25 rfl (lv_at hl 0 rfl) ?_
  refine lv_ldc2 (v := 1735356260) hx hb C.2.2.2.1 (C.2.2.2.2.1 _ kK7_145) dX7_readGood_26 ?_
  obtain ⟨r29, g29, h⟩ := bd1_some h
  refine z_callVb C P (As := [.long (1735356260 : Int64)]) (m7_isWord g29) cW7_147 rfl zm0 rfl (by decide) hl.1 rfl (Nat.le_of_ble_eq_true rfl) dX7_readGood_29 ⟨Nat.zero_le _, Nat.zero_le _⟩ (fun H locs n29 P => ?_)
  obtain ⟨S32, g32, h⟩ := bd1_some h
  refine z_callVv C P (As := [.int r29]) (m7_must g32) cW7_137 rfl zm0 rfl (by decide) hl.1 rfl (Nat.le_of_ble_eq_true rfl) dX7_readGood_32 ⟨Nat.zero_le _, Nat.zero_le _⟩ (fun H locs P => ?_)
  refine lv_aload_n hx hb dX7_readGood_35 rfl (lv_at hl 0 rfl) ?_
  refine lv_bipush (v := 20) hx hb dX7_readGood_36 (by decide) ?_
  obtain ⟨r38, S38, g38, h⟩ := bd2_some h
  refine z_callVi C P (As := [.int (20 : Int32)]) (m7_numberTo g38) cW7_154 rfl zm0 rfl (by decide) hl.1 rfl (Nat.le_of_ble_eq_true rfl) dX7_readGood_38 ⟨Nat.zero_le _, Nat.zero_le _⟩ (fun H locs P => ?_)
  refine lv_istore_n (lv' := [(1, .int r38), (0, .ref (ad 0))]) hx hb dX7_readGood_41 rfl hl (by decide) rfl (fun ls hl => ?_)
  refine lv_aload_n hx hb dX7_readGood_42 rfl (lv_at hl 1 rfl) ?_
  refine gF7_124 C P zm0 rfl dX7_readGood_43 ?_
  refine z_if_ne (tgt := 69) hx hb dX7_readGood_46 (by decide) h (fun h => ?_) (fun h => ?_)
  · exact w7_readGood_69 C _ _ _ _ h P (lv_sub hl [1] rfl)
  · refine lv_aload_n hx hb dX7_readGood_49 rfl (lv_at hl 1 rfl) ?_
    refine gF7_28 C P zm0 rfl dX7_readGood_50 ?_
    refine lv_aload_n hx hb dX7_readGood_53 rfl (lv_at hl 1 rfl) ?_
    refine gF7_151 C P zm0 rfl dX7_readGood_54 ?_
    refine lv_iload_n hx hb dX7_readGood_57 rfl (lv_at hl 0 rfl) ?_
    refine z_iast C P zm7 dX7_readGood_58 h (fun S58 H locs h P => ?_)
    refine lv_aload_n hx hb dX7_readGood_59 rfl (lv_at hl 1 rfl) ?_
    refine lv_dup hx hb dX7_readGood_60 rfl ?_
    refine gF7_151 C P zm0 rfl dX7_readGood_61 ?_
    refine lv_iconst (v := 1) hx hb dX7_readGood_64 (by decide) ?_
    refine lv_iadd hx hb dX7_readGood_65 ?_
    refine pF7_151 C P zm0 rfl dX7_readGood_66 h (fun S66 H locs h P => ?_)
    exact w7_readGood_69 C _ _ _ _ h P (lv_sub hl [1] rfl)
theorem m7_readGood {l : Launch} {D : va_G} {cA : Nat → ClassId} {ad : Nat → Nat} {S : Zs} {z : Zs} (h : f7_readGood S = some z) :
    zMv l yX7_readGood cX7_readGood 2 4 86 D zM ad cA S [.ref (ad 0)] z := by
  refine z_enter (Qc := fun A => zQv D zM ad cA A z) (by decide +kernel) (Nat.le_of_ble_eq_true rfl) (fun p e s m below meth c A C P ls hl => ?_)
  have hx := C.1
  have hb := C.2.1
  have hl : lv_has ls 2 [(0, .ref (ad 0))] := hl
  unfold f7_readGood at h
  refine lv_aload_n hx hb dX7_readGood_0 rfl (lv_at hl 0 rfl) ?_
  refine lv_ldc2 (v := 1735356260) hx hb C.2.2.2.1 (C.2.2.2.2.1 _ kK7_145) dX7_readGood_1 ?_
  obtain ⟨r4, g4, h⟩ := bd1_some h
  refine z_callVb C P (As := [.long (1735356260 : Int64)]) (m7_isWord g4) cW7_147 rfl zm0 rfl (by decide) hl.1 rfl (Nat.le_of_ble_eq_true rfl) dX7_readGood_4 ⟨Nat.zero_le _, Nat.zero_le _⟩ (fun H locs n4 P => ?_)
  refine z_if_eq (tgt := 24) hx hb dX7_readGood_7 (by decide) h (fun h => ?_) (fun h => ?_)
  · exact w7_readGood_24 C _ _ _ _ h P (lv_sub hl [0] rfl)
  · refine lv_aload_n hx hb dX7_readGood_10 rfl (lv_at hl 0 rfl) ?_
    refine gF7_151 C P zm0 rfl dX7_readGood_11 ?_
    refine lv_bipush (v := 6) hx hb dX7_readGood_14 (by decide) ?_
    refine z_icmp_ne (tgt := 24) hx hb dX7_readGood_16 (by decide) h (fun h => ?_) (fun h => ?_)
    · exact w7_readGood_24 C _ _ _ _ h P (lv_sub hl [0] rfl)
    · refine lv_aload_n hx hb dX7_readGood_19 rfl (lv_at hl 0 rfl) ?_
      refine lv_iconst (v := 3) hx hb dX7_readGood_20 (by decide) ?_
      obtain ⟨S21, g21, h⟩ := bd1_some h
      refine z_callVv C P (As := [.int (3 : Int32)]) (m7_bad g21) cW7_130 rfl zm0 rfl (by decide) hl.1 rfl (Nat.le_of_ble_eq_true rfl) dX7_readGood_21 ⟨Nat.zero_le _, Nat.zero_le _⟩ (fun H locs P => ?_)
      exact w7_readGood_24 C _ _ _ _ h P (lv_sub hl [0] rfl)
theorem w7_readLand_113 (C : zCx p s m args meth c cX7_readLand 4 RX7 none D ad cA A) {z : Zs} (S : Zs) (H : Heap) (locs : List Loc) (ls : Array Slot) (h : f7_readLand_113 S = some z) (P : zP D zM ad cA A S s H locs) (hl : lv_has ls 4 [(0, .ref (ad 0))]) :
    W p l e (zrm 4 86) s m args below meth c H locs 0 0 (MQ below (zQv D zM ad cA A z) args s 0 0 A) (F0 m 113 ls []) := by
  have hx := C.1
  have hb := C.2.1
  unfold f7_readLand_113 at h
  refine lv_aload_n hx hb dX7_readLand_113 rfl (lv_at hl 0 rfl) ?_
  obtain ⟨S114, g114, h⟩ := bd1_some h
  refine z_callVv C P (As := []) (m7_mustEnd g114) cW7_157 rfl zm0 rfl (by decide) hl.1 rfl (Nat.le_of_ble_eq_true rfl) dX7_readLand_114 ⟨Nat.zero_le _, Nat.zero_le _⟩ (fun H locs P => ?_)
  exact z_vret C P (Option.some.inj h) dX7_readLand_117
theorem w7_readLand_80 (C : zCx p s m args meth c cX7_readLand 4 RX7 none D ad cA A) {z : Zs} {k43 : Int32 → Int32 → Zs → Option Zs} (hk43 : ∀ (x1 : Int32) (x2 : Int32) (S : Zs) (H : Heap) (locs : List Loc) (ls : Array Slot), k43 x1 x2 S = some z → zP D zM ad cA A S s H locs → lv_has ls 4 [(0, .ref (ad 0)), (1, .int x1), (2, .int x2)] → W p l e (zrm 4 86) s m args below meth c H locs 0 0 (MQ below (zQv D zM ad cA A z) args s 0 0 A) (F0 m 43 ls [])) (x1 : Int32) (x2 : Int32) (S : Zs) (H : Heap) (locs : List Loc) (ls : Array Slot) (h : f7_readLand_80 k43 x1 x2 S = some z) (P : zP D zM ad cA A S s H locs) (hl : lv_has ls 4 [(0, .ref (ad 0)), (1, .int x1), (2, .int x2)]) :
    W p l e (zrm 4 86) s m args below meth c H locs 0 0 (MQ below (zQv D zM ad cA A z) args s 0 0 A) (F0 m 80 ls []) := by
  have hx := C.1
  have hb := C.2.1
  unfold f7_readLand_80 at h
  obtain ⟨v80, ev80, h⟩ := z_nm h
  refine lv_iinc (v := v80) (lv' := [(2, .int v80), (0, .ref (ad 0)), (1, .int x1)]) hx hb dX7_readLand_80 hl (k := 2) rfl (by rw [ev80]; rfl) (by decide) rfl (fun ls hl => ?_)
  refine lv_goto (tgt := 43) hx hb dX7_readLand_83 (by decide) ?_
  exact hk43 _ _ _ _ _ _ h P (lv_sub hl [1, 2, 0] rfl)
theorem w7_readLand_43 (C : zCx p s m args meth c cX7_readLand 4 RX7 none D ad cA A) {z : Zs} :
    ∀ (n : Nat) (x1 : Int32) (x2 : Int32) (S : Zs) (H : Heap) (locs : List Loc) (ls : Array Slot), f7_readLand_43 n x1 x2 S = some z → zP D zM ad cA A S s H locs → lv_has ls 4 [(0, .ref (ad 0)), (1, .int x1), (2, .int x2)] → W p l e (zrm 4 86) s m args below meth c H locs 0 0 (MQ below (zQv D zM ad cA A z) args s 0 0 A) (F0 m 43 ls []) := by
  have hx := C.1
  have hb := C.2.1
  intro n
  induction n with
  | zero =>
    intro x1 x2 S H locs ls h
    cases h
  | succ n ih =>
    intro x1 x2 S H locs ls h P hl
    unfold f7_readLand_43 at h
    refine lv_iload_n hx hb dX7_readLand_43 rfl (lv_at hl 2 rfl) ?_
    refine lv_aload_n hx hb dX7_readLand_44 rfl (lv_at hl 0 rfl) ?_
    refine gF7_151 C P zm0 rfl dX7_readLand_45 ?_
    refine z_icmp_ge (tgt := 86) hx hb dX7_readLand_48 (by decide) h (fun h => ?_) (fun h => ?_)
    · refine lv_aload_n hx hb dX7_readLand_86 rfl (lv_at hl 0 rfl) ?_
      refine gF7_124 C P zm0 rfl dX7_readLand_87 ?_
      refine z_if_ne (tgt := 113) hx hb dX7_readLand_90 (by decide) h (fun h => ?_) (fun h => ?_)
      · exact w7_readLand_113 C _ _ _ _ h P (lv_sub hl [0] rfl)
      · refine lv_aload_n hx hb dX7_readLand_93 rfl (lv_at hl 0 rfl) ?_
        refine gF7_31 C P zm0 rfl dX7_readLand_94 ?_
        refine lv_aload_n hx hb dX7_readLand_97 rfl (lv_at hl 0 rfl) ?_
        refine gF7_162 C P zm0 rfl dX7_readLand_98 ?_
        refine lv_iload_n hx hb dX7_readLand_101 rfl (lv_at hl 1 rfl) ?_
        refine z_iast C P zm8 dX7_readLand_102 h (fun S102 H locs h P => ?_)
        refine lv_aload_n hx hb dX7_readLand_103 rfl (lv_at hl 0 rfl) ?_
        refine lv_dup hx hb dX7_readLand_104 rfl ?_
        refine gF7_162 C P zm0 rfl dX7_readLand_105 ?_
        refine lv_iconst (v := 1) hx hb dX7_readLand_108 (by decide) ?_
        refine lv_iadd hx hb dX7_readLand_109 ?_
        refine pF7_162 C P zm0 rfl dX7_readLand_110 h (fun S110 H locs h P => ?_)
        exact w7_readLand_113 C _ _ _ _ h P (lv_sub hl [0] rfl)
    · refine lv_aload_n hx hb dX7_readLand_51 rfl (lv_at hl 0 rfl) ?_
      refine lv_bipush (v := 20) hx hb dX7_readLand_52 (by decide) ?_
      obtain ⟨r54, S54, g54, h⟩ := bd2_some h
      refine z_callVi C P (As := [.int (20 : Int32)]) (m7_numberTo g54) cW7_154 rfl zm0 rfl (by decide) hl.1 rfl (Nat.le_of_ble_eq_true rfl) dX7_readLand_54 ⟨Nat.zero_le _, Nat.zero_le _⟩ (fun H locs P => ?_)
      refine lv_istore_n (lv' := [(3, .int r54), (0, .ref (ad 0)), (1, .int x1), (2, .int x2)]) hx hb dX7_readLand_57 rfl hl (by decide) rfl (fun ls hl => ?_)
      refine lv_aload_n hx hb dX7_readLand_58 rfl (lv_at hl 1 rfl) ?_
      refine gF7_124 C P zm0 rfl dX7_readLand_59 ?_
      refine z_if_ne (tgt := 80) hx hb dX7_readLand_62 (by decide) h (fun h => ?_) (fun h => ?_)
      · exact w7_readLand_80 C ih _ _ _ _ _ _ h P (lv_sub hl [1, 2, 3] rfl)
      · refine lv_aload_n hx hb dX7_readLand_65 rfl (lv_at hl 1 rfl) ?_
        refine gF7_34 C P zm0 rfl dX7_readLand_66 ?_
        refine lv_bipush (v := 6) hx hb dX7_readLand_69 (by decide) ?_
        refine lv_aload_n hx hb dX7_readLand_71 rfl (lv_at hl 1 rfl) ?_
        refine gF7_162 C P zm0 rfl dX7_readLand_72 ?_
        refine lv_imul hx hb dX7_readLand_75 ?_
        refine lv_iload_n hx hb dX7_readLand_76 rfl (lv_at hl 3 rfl) ?_
        refine lv_iadd hx hb dX7_readLand_77 ?_
        refine lv_iload_n hx hb dX7_readLand_78 rfl (lv_at hl 0 rfl) ?_
        refine z_iast C P zm9 dX7_readLand_79 h (fun S79 H locs h P => ?_)
        exact w7_readLand_80 C ih _ _ _ _ _ _ h P (lv_sub hl [1, 2, 3] rfl)
theorem w7_readLand_23 (C : zCx p s m args meth c cX7_readLand 4 RX7 none D ad cA A) {z : Zs} (S : Zs) (H : Heap) (locs : List Loc) (ls : Array Slot) (h : f7_readLand_23 S = some z) (P : zP D zM ad cA A S s H locs) (hl : lv_has ls 4 [(0, .ref (ad 0))]) :
    W p l e (zrm 4 86) s m args below meth c H locs 0 0 (MQ below (zQv D zM ad cA A z) args s 0 0 A) (F0 m 23 ls []) := by
  have hx := C.1
  have hb := C.2.1
  unfold f7_readLand_23 at h
  refine lv_aload_n hx hb dX7_readLand_23 rfl (lv_at hl 0 rfl) ?_
  refine lv_aload_n hx hb dX7_readLand_24 rfl (lv_at hl 0 rfl) ?_
  refine lv_ldc2 (v := 1818324580) hx hb C.2.2.2.1 (C.2.2.2.2.1 _ kK7_160) dX7_readLand_25 ?_
  obtain ⟨r28, g28, h⟩ := bd1_some h
  refine z_callVb C P (As := [.long (1818324580 : Int64)]) (m7_isWord g28) cW7_147 rfl zm0 rfl (by decide) hl.1 rfl (Nat.le_of_ble_eq_true rfl) dX7_readLand_28 ⟨Nat.zero_le _, Nat.zero_le _⟩ (fun H locs n28 P => ?_)
  obtain ⟨S31, g31, h⟩ := bd1_some h
  refine z_callVv C P (As := [.int r28]) (m7_must g31) cW7_137 rfl zm0 rfl (by decide) hl.1 rfl (Nat.le_of_ble_eq_true rfl) dX7_readLand_31 ⟨Nat.zero_le _, Nat.zero_le _⟩ (fun H locs P => ?_)
  refine lv_aload_n hx hb dX7_readLand_34 rfl (lv_at hl 0 rfl) ?_
  refine lv_bipush (v := 99) hx hb dX7_readLand_35 (by decide) ?_
  obtain ⟨r37, S37, g37, h⟩ := bd2_some h
  refine z_callVi C P (As := [.int (99 : Int32)]) (m7_numberTo g37) cW7_154 rfl zm0 rfl (by decide) hl.1 rfl (Nat.le_of_ble_eq_true rfl) dX7_readLand_37 ⟨Nat.zero_le _, Nat.zero_le _⟩ (fun H locs P => ?_)
  refine lv_istore_n (lv' := [(1, .int r37), (0, .ref (ad 0))]) hx hb dX7_readLand_40 rfl hl (by decide) rfl (fun ls hl => ?_)
  refine lv_iconst (v := 0) hx hb dX7_readLand_41 (by decide) ?_
  refine lv_istore_n (lv' := [(2, .int (0 : Int32)), (1, .int r37), (0, .ref (ad 0))]) hx hb dX7_readLand_42 rfl hl (by decide) rfl (fun ls hl => ?_)
  exact w7_readLand_43 C _ _ _ _ _ _ _ h P (lv_sub hl [2, 1, 0] rfl)
theorem m7_readLand {l : Launch} {D : va_G} {cA : Nat → ClassId} {ad : Nat → Nat} {S : Zs} {z : Zs} (h : f7_readLand S = some z) :
    zMv l yX7_readLand cX7_readLand 4 4 86 D zM ad cA S [.ref (ad 0)] z := by
  refine z_enter (Qc := fun A => zQv D zM ad cA A z) (by decide +kernel) (Nat.le_of_ble_eq_true rfl) (fun p e s m below meth c A C P ls hl => ?_)
  have hx := C.1
  have hb := C.2.1
  have hl : lv_has ls 4 [(0, .ref (ad 0))] := hl
  unfold f7_readLand at h
  refine lv_aload_n hx hb dX7_readLand_0 rfl (lv_at hl 0 rfl) ?_
  refine lv_ldc2 (v := 1818324580) hx hb C.2.2.2.1 (C.2.2.2.2.1 _ kK7_160) dX7_readLand_1 ?_
  obtain ⟨r4, g4, h⟩ := bd1_some h
  refine z_callVb C P (As := [.long (1818324580 : Int64)]) (m7_isWord g4) cW7_147 rfl zm0 rfl (by decide) hl.1 rfl (Nat.le_of_ble_eq_true rfl) dX7_readLand_4 ⟨Nat.zero_le _, Nat.zero_le _⟩ (fun H locs n4 P => ?_)
  refine z_if_eq (tgt := 23) hx hb dX7_readLand_7 (by decide) h (fun h => ?_) (fun h => ?_)
  · exact w7_readLand_23 C _ _ _ _ h P (lv_sub hl [0] rfl)
  · refine lv_aload_n hx hb dX7_readLand_10 rfl (lv_at hl 0 rfl) ?_
    refine gF7_162 C P zm0 rfl dX7_readLand_11 ?_
    refine lv_iconst (v := 3) hx hb dX7_readLand_14 (by decide) ?_
    refine z_icmp_ne (tgt := 23) hx hb dX7_readLand_15 (by decide) h (fun h => ?_) (fun h => ?_)
    · exact w7_readLand_23 C _ _ _ _ h P (lv_sub hl [0] rfl)
    · refine lv_aload_n hx hb dX7_readLand_18 rfl (lv_at hl 0 rfl) ?_
      refine lv_iconst (v := 3) hx hb dX7_readLand_19 (by decide) ?_
      obtain ⟨S20, g20, h⟩ := bd1_some h
      refine z_callVv C P (As := [.int (3 : Int32)]) (m7_bad g20) cW7_130 rfl zm0 rfl (by decide) hl.1 rfl (Nat.le_of_ble_eq_true rfl) dX7_readLand_20 ⟨Nat.zero_le _, Nat.zero_le _⟩ (fun H locs P => ?_)
      exact w7_readLand_23 C _ _ _ _ h P (lv_sub hl [0] rfl)
end ZVM1
