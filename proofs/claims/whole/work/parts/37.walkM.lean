section ZVM7
variable {p : Program} {l : Launch} {e : Env} {s : State} {m : MethodId} {args : Array Value} {below : List Frame} {meth : Method} {c : Code} {D : va_G} {cA : Nat → ClassId} {A : Nat → Prop} {ad : Nat → Nat}
theorem w7_movesOne_61 (C : zCx p s m args meth c cX7_movesOne 4 RX7 (some .boolean) D ad cA A) {z : Int32 × Zs} {k10 : Int32 → Int32 → Int32 → Zs → Option (Int32 × Zs)} (hk10 : ∀ (x1 : Int32) (x2 : Int32) (x3 : Int32) (S : Zs) (H : Heap) (locs : List Loc) (ls : Array Slot), k10 x1 x2 x3 S = some z → zP D zM ad cA A S s H locs → lv_has ls 4 [(0, .ref (ad 0)), (1, .int x1), (2, .int x2), (3, .int x3)] → W p l e (zrm 9 222) s m args below meth c H locs 0 0 (MQ below (zQb D zM ad cA A z) args s 0 0 A) (F0 m 10 ls [])) (x1 : Int32) (x3 : Int32) (t0 : Int32) (S : Zs) (H : Heap) (locs : List Loc) (ls : Array Slot) (h : f7_movesOne_61 k10 x1 x3 t0 S = some z) (P : zP D zM ad cA A S s H locs) (hl : lv_has ls 4 [(0, .ref (ad 0)), (1, .int x1), (3, .int x3)]) :
    W p l e (zrm 9 222) s m args below meth c H locs 0 0 (MQ below (zQb D zM ad cA A z) args s 0 0 A) (F0 m 61 ls [.int t0]) := by
  have hx := C.1
  have hb := C.2.1
  unfold f7_movesOne_61 at h
  refine lv_istore_n (lv' := [(2, .int t0), (0, .ref (ad 0)), (1, .int x1), (3, .int x3)]) hx hb dX7_movesOne_61 rfl hl (by decide) rfl (fun ls hl => ?_)
  obtain ⟨v62, ev62, h⟩ := z_nm h
  refine lv_iinc (v := v62) (lv' := [(3, .int v62), (2, .int t0), (0, .ref (ad 0)), (1, .int x1)]) hx hb dX7_movesOne_62 hl (k := 3) rfl (by rw [ev62]; rfl) (by decide) rfl (fun ls hl => ?_)
  refine lv_goto (tgt := 10) hx hb dX7_movesOne_65 (by decide) ?_
  exact hk10 _ _ _ _ _ _ _ h P (lv_sub hl [2, 3, 1, 0] rfl)
theorem w7_movesOne_39 (C : zCx p s m args meth c cX7_movesOne 4 RX7 (some .boolean) D ad cA A) {z : Int32 × Zs} {k10 : Int32 → Int32 → Int32 → Zs → Option (Int32 × Zs)} (hk10 : ∀ (x1 : Int32) (x2 : Int32) (x3 : Int32) (S : Zs) (H : Heap) (locs : List Loc) (ls : Array Slot), k10 x1 x2 x3 S = some z → zP D zM ad cA A S s H locs → lv_has ls 4 [(0, .ref (ad 0)), (1, .int x1), (2, .int x2), (3, .int x3)] → W p l e (zrm 9 222) s m args below meth c H locs 0 0 (MQ below (zQb D zM ad cA A z) args s 0 0 A) (F0 m 10 ls [])) (x2 : Int32) (x3 : Int32) (t0 : Int32) (S : Zs) (H : Heap) (locs : List Loc) (ls : Array Slot) (h : f7_movesOne_39 k10 x2 x3 t0 S = some z) (P : zP D zM ad cA A S s H locs) (hl : lv_has ls 4 [(0, .ref (ad 0)), (2, .int x2), (3, .int x3)]) :
    W p l e (zrm 9 222) s m args below meth c H locs 0 0 (MQ below (zQb D zM ad cA A z) args s 0 0 A) (F0 m 39 ls [.int t0]) := by
  have hx := C.1
  have hb := C.2.1
  unfold f7_movesOne_39 at h
  refine lv_istore_n (lv' := [(1, .int t0), (0, .ref (ad 0)), (2, .int x2), (3, .int x3)]) hx hb dX7_movesOne_39 rfl hl (by decide) rfl (fun ls hl => ?_)
  refine lv_aload_n hx hb dX7_movesOne_40 rfl (lv_at hl 1 rfl) ?_
  refine gF7_40 C P zm0 rfl dX7_movesOne_41 ?_
  refine lv_iload_n hx hb dX7_movesOne_44 rfl (lv_at hl 3 rfl) ?_
  refine z_lald C P zm11 dX7_movesOne_45 h (fun h hi => ?_)
  refine lv_aload_n hx hb dX7_movesOne_46 rfl (lv_at hl 1 rfl) ?_
  refine gF7_40 C P zm0 rfl dX7_movesOne_47 ?_
  refine lv_iload_n hx hb dX7_movesOne_50 rfl (lv_at hl 2 rfl) ?_
  refine z_lald C P zm11 dX7_movesOne_51 h (fun h hi => ?_)
  refine z_lcmp_le (tgt := 60) hx hb dX7_movesOne_52 dX7_movesOne_53 (by decide) h (fun h => ?_) (fun h => ?_)
  · refine lv_iload_n hx hb dX7_movesOne_60 rfl (lv_at hl 2 rfl) ?_
    exact w7_movesOne_61 C hk10 _ _ _ _ _ _ _ h P (lv_sub hl [1, 0, 3] rfl)
  · refine lv_iload_n hx hb dX7_movesOne_56 rfl (lv_at hl 3 rfl) ?_
    refine lv_goto (tgt := 61) hx hb dX7_movesOne_57 (by decide) ?_
    exact w7_movesOne_61 C hk10 _ _ _ _ _ _ _ h P (lv_sub hl [1, 0, 3] rfl)
theorem w7_movesOne_10 (C : zCx p s m args meth c cX7_movesOne 4 RX7 (some .boolean) D ad cA A) {z : Int32 × Zs} :
    ∀ (n : Nat) (x1 : Int32) (x2 : Int32) (x3 : Int32) (S : Zs) (H : Heap) (locs : List Loc) (ls : Array Slot), f7_movesOne_10 n x1 x2 x3 S = some z → zP D zM ad cA A S s H locs → lv_has ls 4 [(0, .ref (ad 0)), (1, .int x1), (2, .int x2), (3, .int x3)] → W p l e (zrm 9 222) s m args below meth c H locs 0 0 (MQ below (zQb D zM ad cA A z) args s 0 0 A) (F0 m 10 ls []) := by
  have hx := C.1
  have hb := C.2.1
  intro n
  induction n with
  | zero =>
    intro x1 x2 x3 S H locs ls h
    cases h
  | succ n ih =>
    intro x1 x2 x3 S H locs ls h P hl
    unfold f7_movesOne_10 at h
    refine lv_iload_n hx hb dX7_movesOne_10 rfl (lv_at hl 3 rfl) ?_
    refine lv_aload_n hx hb dX7_movesOne_11 rfl (lv_at hl 0 rfl) ?_
    refine gF7_176 C P zm0 rfl dX7_movesOne_12 ?_
    refine z_icmp_ge (tgt := 68) hx hb dX7_movesOne_15 (by decide) h (fun h => ?_) (fun h => ?_)
    · refine lv_iload_n hx hb dX7_movesOne_68 rfl (lv_at hl 1 rfl) ?_
      refine lv_iload_n hx hb dX7_movesOne_69 rfl (lv_at hl 2 rfl) ?_
      refine z_icmp_eq (tgt := 94) hx hb dX7_movesOne_70 (by decide) h (fun h => ?_) (fun h => ?_)
      · refine lv_iconst (v := 0) hx hb dX7_movesOne_94 (by decide) ?_
        exact z_zret C P (Option.some.inj h) (by decide) dX7_movesOne_95
      · refine lv_aload_n hx hb dX7_movesOne_73 rfl (lv_at hl 0 rfl) ?_
        refine gF7_22 C P zm0 rfl dX7_movesOne_74 ?_
        refine lv_iload_n hx hb dX7_movesOne_77 rfl (lv_at hl 1 rfl) ?_
        refine z_iald C P zm5 dX7_movesOne_78 h (fun h hi => ?_)
        refine lv_iconst (v := 2) hx hb dX7_movesOne_79 (by decide) ?_
        refine z_icmp_lt (tgt := 94) hx hb dX7_movesOne_80 (by decide) h (fun h => ?_) (fun h => ?_)
        · refine lv_iconst (v := 0) hx hb dX7_movesOne_94 (by decide) ?_
          exact z_zret C P (Option.some.inj h) (by decide) dX7_movesOne_95
        · refine lv_aload_n hx hb dX7_movesOne_83 rfl (lv_at hl 0 rfl) ?_
          refine gF7_22 C P zm0 rfl dX7_movesOne_84 ?_
          refine lv_iload_n hx hb dX7_movesOne_87 rfl (lv_at hl 2 rfl) ?_
          refine z_iald C P zm5 dX7_movesOne_88 h (fun h hi => ?_)
          refine lv_bipush (v := 98) hx hb dX7_movesOne_89 (by decide) ?_
          refine z_icmp_le (tgt := 96) hx hb dX7_movesOne_91 (by decide) h (fun h => ?_) (fun h => ?_)
          · refine lv_aload_n hx hb dX7_movesOne_96 rfl (lv_at hl 0 rfl) ?_
            refine gF7_22 C P zm0 rfl dX7_movesOne_97 ?_
            refine lv_iload_n hx hb dX7_movesOne_100 rfl (lv_at hl 1 rfl) ?_
            refine lv_dup2_11 hx hb dX7_movesOne_101 rfl rfl ?_
            refine z_iald C P zm5 dX7_movesOne_102 h (fun h hi => ?_)
            refine lv_iconst (v := 1) hx hb dX7_movesOne_103 (by decide) ?_
            refine lv_isub hx hb dX7_movesOne_104 ?_
            refine z_iast C P zm5 dX7_movesOne_105 h (fun S105 H locs h P => ?_)
            refine lv_aload_n hx hb dX7_movesOne_106 rfl (lv_at hl 0 rfl) ?_
            refine gF7_22 C P zm0 rfl dX7_movesOne_107 ?_
            refine lv_iload_n hx hb dX7_movesOne_110 rfl (lv_at hl 2 rfl) ?_
            refine lv_dup2_11 hx hb dX7_movesOne_111 rfl rfl ?_
            refine z_iald C P zm5 dX7_movesOne_112 h (fun h hi => ?_)
            refine lv_iconst (v := 1) hx hb dX7_movesOne_113 (by decide) ?_
            refine lv_iadd hx hb dX7_movesOne_114 ?_
            refine z_iast C P zm5 dX7_movesOne_115 h (fun S115 H locs h P => ?_)
            refine lv_aload_n hx hb dX7_movesOne_116 rfl (lv_at hl 0 rfl) ?_
            refine lv_iconst (v := 0) hx hb dX7_movesOne_117 (by decide) ?_
            refine pF7_186 C P zm0 rfl dX7_movesOne_118 (by decide) (by decide) h (fun S118 H locs h P => ?_)
            refine lv_aload_n hx hb dX7_movesOne_121 rfl (lv_at hl 0 rfl) ?_
            obtain ⟨S122, g122, h⟩ := bd1_some h
            refine z_callVv C P (As := []) (m7_restAll g122) cW7_254 rfl zm0 rfl (by decide) hl.1 rfl (Nat.le_of_ble_eq_true rfl) dX7_movesOne_122 ⟨Nat.zero_le _, Nat.zero_le _⟩ (fun H locs P => ?_)
            refine lv_aload_n hx hb dX7_movesOne_125 rfl (lv_at hl 0 rfl) ?_
            refine gF7_40 C P zm0 rfl dX7_movesOne_126 ?_
            refine lv_iload_n hx hb dX7_movesOne_129 rfl (lv_at hl 2 rfl) ?_
            refine z_lald C P zm11 dX7_movesOne_130 h (fun h hi => ?_)
            refine lv_aload_n hx hb dX7_movesOne_131 rfl (lv_at hl 0 rfl) ?_
            refine gF7_40 C P zm0 rfl dX7_movesOne_132 ?_
            refine lv_iload_n hx hb dX7_movesOne_135 rfl (lv_at hl 1 rfl) ?_
            refine z_lald C P zm11 dX7_movesOne_136 h (fun h hi => ?_)
            refine z_lcmp_lt (tgt := 143) hx hb dX7_movesOne_137 dX7_movesOne_138 (by decide) h (fun h => ?_) (fun h => ?_)
            · refine lv_aload_n hx hb dX7_movesOne_143 rfl (lv_at hl 0 rfl) ?_
              refine gF7_22 C P zm0 rfl dX7_movesOne_144 ?_
              refine lv_iload_n hx hb dX7_movesOne_147 rfl (lv_at hl 1 rfl) ?_
              refine lv_dup2_11 hx hb dX7_movesOne_148 rfl rfl ?_
              refine z_iald C P zm5 dX7_movesOne_149 h (fun h hi => ?_)
              refine lv_iconst (v := 1) hx hb dX7_movesOne_150 (by decide) ?_
              refine lv_iadd hx hb dX7_movesOne_151 ?_
              refine z_iast C P zm5 dX7_movesOne_152 h (fun S152 H locs h P => ?_)
              refine lv_aload_n hx hb dX7_movesOne_153 rfl (lv_at hl 0 rfl) ?_
              refine gF7_22 C P zm0 rfl dX7_movesOne_154 ?_
              refine lv_iload_n hx hb dX7_movesOne_157 rfl (lv_at hl 2 rfl) ?_
              refine lv_dup2_11 hx hb dX7_movesOne_158 rfl rfl ?_
              refine z_iald C P zm5 dX7_movesOne_159 h (fun h hi => ?_)
              refine lv_iconst (v := 1) hx hb dX7_movesOne_160 (by decide) ?_
              refine lv_isub hx hb dX7_movesOne_161 ?_
              refine z_iast C P zm5 dX7_movesOne_162 h (fun S162 H locs h P => ?_)
              refine lv_aload_n hx hb dX7_movesOne_163 rfl (lv_at hl 0 rfl) ?_
              refine lv_iconst (v := 0) hx hb dX7_movesOne_164 (by decide) ?_
              refine pF7_186 C P zm0 rfl dX7_movesOne_165 (by decide) (by decide) h (fun S165 H locs h P => ?_)
              refine lv_iconst (v := 0) hx hb dX7_movesOne_168 (by decide) ?_
              exact z_zret C P (Option.some.inj h) (by decide) dX7_movesOne_169
            · refine lv_iconst (v := 1) hx hb dX7_movesOne_141 (by decide) ?_
              exact z_zret C P (Option.some.inj h) (by decide) dX7_movesOne_142
          · refine lv_iconst (v := 0) hx hb dX7_movesOne_94 (by decide) ?_
            exact z_zret C P (Option.some.inj h) (by decide) dX7_movesOne_95
    · refine lv_aload_n hx hb dX7_movesOne_18 rfl (lv_at hl 0 rfl) ?_
      refine gF7_40 C P zm0 rfl dX7_movesOne_19 ?_
      refine lv_iload_n hx hb dX7_movesOne_22 rfl (lv_at hl 3 rfl) ?_
      refine z_lald C P zm11 dX7_movesOne_23 h (fun h hi => ?_)
      refine lv_aload_n hx hb dX7_movesOne_24 rfl (lv_at hl 0 rfl) ?_
      refine gF7_40 C P zm0 rfl dX7_movesOne_25 ?_
      refine lv_iload_n hx hb dX7_movesOne_28 rfl (lv_at hl 1 rfl) ?_
      refine z_lald C P zm11 dX7_movesOne_29 h (fun h hi => ?_)
      refine z_lcmp_ge (tgt := 38) hx hb dX7_movesOne_30 dX7_movesOne_31 (by decide) h (fun h => ?_) (fun h => ?_)
      · refine lv_iload_n hx hb dX7_movesOne_38 rfl (lv_at hl 1 rfl) ?_
        exact w7_movesOne_39 C ih _ _ _ _ _ _ _ h P (lv_sub hl [0, 2, 3] rfl)
      · refine lv_iload_n hx hb dX7_movesOne_34 rfl (lv_at hl 3 rfl) ?_
        refine lv_goto (tgt := 39) hx hb dX7_movesOne_35 (by decide) ?_
        exact w7_movesOne_39 C ih _ _ _ _ _ _ _ h P (lv_sub hl [0, 2, 3] rfl)
theorem m7_movesOne {l : Launch} {D : va_G} {cA : Nat → ClassId} {ad : Nat → Nat} {S : Zs} {z : Int32 × Zs} (h : f7_movesOne S = some z) :
    zMb l yX7_movesOne cX7_movesOne 4 9 222 D zM ad cA S [.ref (ad 0)] z := by
  refine z_enter (Qc := fun A => zQb D zM ad cA A z) (by decide +kernel) (Nat.le_of_ble_eq_true rfl) (fun p e s m below meth c A C P ls hl => ?_)
  have hx := C.1
  have hb := C.2.1
  have hl : lv_has ls 4 [(0, .ref (ad 0))] := hl
  unfold f7_movesOne at h
  refine lv_aload_n hx hb dX7_movesOne_0 rfl (lv_at hl 0 rfl) ?_
  obtain ⟨S1, g1, h⟩ := bd1_some h
  refine z_callVv C P (As := []) (m7_restAll g1) cW7_254 rfl zm0 rfl (by decide) hl.1 rfl (Nat.le_of_ble_eq_true rfl) dX7_movesOne_1 ⟨Nat.zero_le _, Nat.zero_le _⟩ (fun H locs P => ?_)
  refine lv_iconst (v := 0) hx hb dX7_movesOne_4 (by decide) ?_
  refine lv_istore_n (lv' := [(1, .int (0 : Int32)), (0, .ref (ad 0))]) hx hb dX7_movesOne_5 rfl hl (by decide) rfl (fun ls hl => ?_)
  refine lv_iconst (v := 0) hx hb dX7_movesOne_6 (by decide) ?_
  refine lv_istore_n (lv' := [(2, .int (0 : Int32)), (1, .int (0 : Int32)), (0, .ref (ad 0))]) hx hb dX7_movesOne_7 rfl hl (by decide) rfl (fun ls hl => ?_)
  refine lv_iconst (v := 1) hx hb dX7_movesOne_8 (by decide) ?_
  refine lv_istore_n (lv' := [(3, .int (1 : Int32)), (2, .int (0 : Int32)), (1, .int (0 : Int32)), (0, .ref (ad 0))]) hx hb dX7_movesOne_9 rfl hl (by decide) rfl (fun ls hl => ?_)
  exact w7_movesOne_10 C _ _ _ _ _ _ _ _ h P (lv_sub hl [3, 2, 1, 0] rfl)
theorem w7_move_38 (C : zCx p s m args meth c cX7_move 3 RX7 (some .long) D ad cA A) {z : Int64 × Zs} :
    ∀ (n : Nat) (x1 : Int32) (x2 : Int32) (S : Zs) (H : Heap) (locs : List Loc) (ls : Array Slot), f7_move_38 n x1 x2 S = some z → zP D zM ad cA A S s H locs → lv_has ls 3 [(0, .ref (ad 0)), (1, .int x1), (2, .int x2)] → W p l e (zrm 10 246) s m args below meth c H locs 0 0 (MQ below (zQl D zM ad cA A z) args s 0 0 A) (F0 m 38 ls []) := by
  have hx := C.1
  have hb := C.2.1
  intro n
  induction n with
  | zero =>
    intro x1 x2 S H locs ls h
    cases h
  | succ n ih =>
    intro x1 x2 S H locs ls h P hl
    unfold f7_move_38 at h
    refine lv_iload_n hx hb dX7_move_38 rfl (lv_at hl 2 rfl) ?_
    refine lv_iload_n hx hb dX7_move_39 rfl (lv_at hl 1 rfl) ?_
    refine z_icmp_ge (tgt := 56) hx hb dX7_move_40 (by decide) h (fun h => ?_) (fun h => ?_)
    · refine lv_iload_n hx hb dX7_move_56 rfl (lv_at hl 2 rfl) ?_
      refine lv_i2l hx hb dX7_move_57 rfl ?_
      exact z_lret C P (Option.some.inj h) dX7_move_58
    · refine lv_aload_n hx hb dX7_move_43 rfl (lv_at hl 0 rfl) ?_
      obtain ⟨r44, S44, g44, h⟩ := bd2_some h
      refine z_callVb C P (As := []) (m7_movesOne g44) cW7_305 rfl zm0 rfl (by decide) hl.1 rfl (Nat.le_of_ble_eq_true rfl) dX7_move_44 ⟨Nat.zero_le _, Nat.zero_le _⟩ (fun H locs n44 P => ?_)
      refine z_if_eq (tgt := 56) hx hb dX7_move_47 (by decide) h (fun h => ?_) (fun h => ?_)
      · refine lv_iload_n hx hb dX7_move_56 rfl (lv_at hl 2 rfl) ?_
        refine lv_i2l hx hb dX7_move_57 rfl ?_
        exact z_lret C P (Option.some.inj h) dX7_move_58
      · obtain ⟨v50, ev50, h⟩ := z_nm h
        refine lv_iinc (v := v50) (lv' := [(2, .int v50), (0, .ref (ad 0)), (1, .int x1)]) hx hb dX7_move_50 hl (k := 2) rfl (by rw [ev50]; rfl) (by decide) rfl (fun ls hl => ?_)
        refine lv_goto (tgt := 38) hx hb dX7_move_53 (by decide) ?_
        exact ih _ _ _ _ _ _ h P (lv_sub hl [1, 2, 0] rfl)
theorem m7_move {l : Launch} {D : va_G} {cA : Nat → ClassId} {ad : Nat → Nat} {x1 : Int32} {S : Zs} {z : Int64 × Zs} (h : f7_move x1 S = some z) :
    zMl l yX7_move cX7_move 3 10 246 D zM ad cA S [.ref (ad 0), .int x1] z := by
  refine z_enter (Qc := fun A => zQl D zM ad cA A z) (by decide +kernel) (Nat.le_of_ble_eq_true rfl) (fun p e s m below meth c A C P ls hl => ?_)
  have hx := C.1
  have hb := C.2.1
  have hl : lv_has ls 3 [(0, .ref (ad 0)), (1, .int x1)] := hl
  unfold f7_move at h
  refine lv_aload_n hx hb dX7_move_0 rfl (lv_at hl 0 rfl) ?_
  refine lv_iconst (v := 0) hx hb dX7_move_1 (by decide) ?_
  refine pF7_62 C P zm0 rfl dX7_move_2 h (fun S2 H locs h P => ?_)
  refine lv_iload_n hx hb dX7_move_5 rfl (lv_at hl 1 rfl) ?_
  refine lv_i2l hx hb dX7_move_6 rfl ?_
  refine lv_lconst (v := 1) hx hb dX7_move_7 (by decide) ?_
  refine lv_ldc2 (v := 5) hx hb C.2.2.2.1 (C.2.2.2.2.1 _ kK7_303) dX7_move_8 ?_
  refine z_callSb C P (As := [.long x1.toInt64, .long (1 : Int64), .long (5 : Int64)]) (m7_in) cW7_73 rfl (by decide) hl.1 rfl (Nat.le_of_ble_eq_true rfl) dX7_move_11 ⟨Nat.zero_le _, Nat.zero_le _⟩ (fun H locs n11 P => ?_)
  refine z_if_ne (tgt := 21) hx hb dX7_move_14 (by decide) h (fun h => ?_) (fun h => ?_)
  · refine lv_aload_n hx hb dX7_move_21 rfl (lv_at hl 0 rfl) ?_
    refine gF7_176 C P zm0 rfl dX7_move_22 ?_
    refine z_if_ne (tgt := 32) hx hb dX7_move_25 (by decide) h (fun h => ?_) (fun h => ?_)
    · refine lv_aload_n hx hb dX7_move_32 rfl (lv_at hl 0 rfl) ?_
      obtain ⟨S33, g33, h⟩ := bd1_some h
      refine z_callVv C P (As := []) (m7_note g33) cW7_295 rfl zm0 rfl (by decide) hl.1 rfl (Nat.le_of_ble_eq_true rfl) dX7_move_33 ⟨Nat.zero_le _, Nat.zero_le _⟩ (fun H locs P => ?_)
      refine lv_iconst (v := 0) hx hb dX7_move_36 (by decide) ?_
      refine lv_istore_n (lv' := [(2, .int (0 : Int32)), (0, .ref (ad 0)), (1, .int x1)]) hx hb dX7_move_37 rfl hl (by decide) rfl (fun ls hl => ?_)
      exact w7_move_38 C _ _ _ _ _ _ _ h P (lv_sub hl [1, 2, 0] rfl)
    · refine lv_ldc2 (v := (-9000000000000000002)) hx hb C.2.2.2.1 (C.2.2.2.2.1 _ kK7_261) dX7_move_28 ?_
      exact z_lret C P (Option.some.inj h) dX7_move_31
  · refine lv_ldc2 (v := (-9000000000000000001)) hx hb C.2.2.2.1 (C.2.2.2.2.1 _ kK7_83) dX7_move_17 ?_
    exact z_lret C P (Option.some.inj h) dX7_move_20
theorem m7_bits {l : Launch} {D : va_G} {cA : Nat → ClassId} {ad : Nat → Nat} {x0 : Int32} {S : Zs} :
    zMi l yX7_bits cX7_bits 1 0 0 D zM ad cA S [.int x0] (f7_bits x0, S) := by
  obtain ⟨z, h⟩ : ∃ z, f7_bits x0 = z := ⟨_, rfl⟩
  rw [h]
  refine z_enter (Qc := fun A => zQi D zM ad cA A (z, S)) (by decide +kernel) (Nat.le_of_ble_eq_true rfl) (fun p e s m below meth c A C P ls hl => ?_)
  have hx := C.1
  have hb := C.2.1
  have hl : lv_has ls 1 [(0, .int x0)] := hl
  unfold f7_bits at h
  refine lv_iload_n hx hb dX7_bits_0 rfl (lv_at hl 0 rfl) ?_
  refine lv_iconst (v := 1) hx hb dX7_bits_1 (by decide) ?_
  refine lv_iand hx hb dX7_bits_2 ?_
  refine lv_iload_n hx hb dX7_bits_3 rfl (lv_at hl 0 rfl) ?_
  refine lv_iconst (v := 1) hx hb dX7_bits_4 (by decide) ?_
  refine lv_ishr hx hb dX7_bits_5 ?_
  refine lv_iconst (v := 1) hx hb dX7_bits_6 (by decide) ?_
  refine lv_iand hx hb dX7_bits_7 ?_
  refine lv_iadd hx hb dX7_bits_8 ?_
  refine lv_iload_n hx hb dX7_bits_9 rfl (lv_at hl 0 rfl) ?_
  refine lv_iconst (v := 2) hx hb dX7_bits_10 (by decide) ?_
  refine lv_ishr hx hb dX7_bits_11 ?_
  refine lv_iconst (v := 1) hx hb dX7_bits_12 (by decide) ?_
  refine lv_iand hx hb dX7_bits_13 ?_
  refine lv_iadd hx hb dX7_bits_14 ?_
  exact z_iret C P (by rw [h]) dX7_bits_15
theorem m7_kindOf {l : Launch} {D : va_G} {cA : Nat → ClassId} {ad : Nat → Nat} {x1 : Int32} {S : Zs} {z : Int32 × Zs} (h : f7_kindOf x1 S = some z) :
    zMi l yX7_kindOf cX7_kindOf 3 9 222 D zM ad cA S [.ref (ad 0), .int x1] z := by
  refine z_enter (Qc := fun A => zQi D zM ad cA A z) (by decide +kernel) (Nat.le_of_ble_eq_true rfl) (fun p e s m below meth c A C P ls hl => ?_)
  have hx := C.1
  have hb := C.2.1
  have hl : lv_has ls 3 [(0, .ref (ad 0)), (1, .int x1)] := hl
  unfold f7_kindOf at h
  refine lv_aload_n hx hb dX7_kindOf_0 rfl (lv_at hl 0 rfl) ?_
  obtain ⟨S1, g1, h⟩ := bd1_some h
  refine z_callVv C P (As := []) (m7_restAll g1) cW7_254 rfl zm0 rfl (by decide) hl.1 rfl (Nat.le_of_ble_eq_true rfl) dX7_kindOf_1 ⟨Nat.zero_le _, Nat.zero_le _⟩ (fun H locs P => ?_)
  refine lv_aload_n hx hb dX7_kindOf_4 rfl (lv_at hl 0 rfl) ?_
  refine lv_aload_n hx hb dX7_kindOf_5 rfl (lv_at hl 0 rfl) ?_
  refine z_callVi C P (As := []) (m7_every) cW7_244 rfl zm0 rfl (by decide) hl.1 rfl (Nat.le_of_ble_eq_true rfl) dX7_kindOf_6 ⟨Nat.zero_le _, Nat.zero_le _⟩ (fun H locs P => ?_)
  refine lv_iload_n hx hb dX7_kindOf_9 rfl (lv_at hl 1 rfl) ?_
  obtain ⟨r10, g10, h⟩ := bd1_some h
  refine z_callVi C P (As := [.int (f7_every S1), .int x1]) (m7_makersOf g10) cW7_211 rfl zm0 rfl (by decide) hl.1 rfl (Nat.le_of_ble_eq_true rfl) dX7_kindOf_10 ⟨Nat.zero_le _, Nat.zero_le _⟩ (fun H locs P => ?_)
  refine lv_istore_n (lv' := [(2, .int r10), (0, .ref (ad 0)), (1, .int x1)]) hx hb dX7_kindOf_13 rfl hl (by decide) rfl (fun ls hl => ?_)
  refine lv_iload_n hx hb dX7_kindOf_14 rfl (lv_at hl 0 rfl) ?_
  refine z_callSi C P (As := [.int r10]) (m7_bits) cW7_309 rfl (by decide) hl.1 rfl (Nat.le_of_ble_eq_true rfl) dX7_kindOf_15 ⟨Nat.zero_le _, Nat.zero_le _⟩ (fun H locs P => ?_)
  refine lv_iconst (v := 1) hx hb dX7_kindOf_18 (by decide) ?_
  refine z_icmp_le (tgt := 36) hx hb dX7_kindOf_19 (by decide) h (fun h => ?_) (fun h => ?_)
  · refine lv_iload_n hx hb dX7_kindOf_36 rfl (lv_at hl 0 rfl) ?_
    refine lv_iconst (v := 1) hx hb dX7_kindOf_37 (by decide) ?_
    refine z_icmp_eq (tgt := 45) hx hb dX7_kindOf_38 (by decide) h (fun h => ?_) (fun h => ?_)
    · refine lv_aload_n hx hb dX7_kindOf_45 rfl (lv_at hl 1 rfl) ?_
      refine lv_aload_n hx hb dX7_kindOf_46 rfl (lv_at hl 1 rfl) ?_
      refine z_callVi C P (As := []) (m7_every) cW7_244 rfl zm0 rfl (by decide) hl.1 rfl (Nat.le_of_ble_eq_true rfl) dX7_kindOf_47 ⟨Nat.zero_le _, Nat.zero_le _⟩ (fun H locs P => ?_)
      refine lv_iload_n hx hb dX7_kindOf_50 rfl (lv_at hl 2 rfl) ?_
      obtain ⟨r51, g51, h⟩ := bd1_some h
      refine z_callVl C P (As := [.int (f7_every S1), .int x1]) (m7_priceOf g51) cW7_205 rfl zm0 rfl (by decide) hl.1 rfl (Nat.le_of_ble_eq_true rfl) dX7_kindOf_51 ⟨Nat.zero_le _, Nat.zero_le _⟩ (fun H locs P => ?_)
      refine lv_ldc2 (v := 10) hx hb C.2.2.2.1 (C.2.2.2.2.1 _ kK7_312) dX7_kindOf_54 ?_
      refine lv_aload_n hx hb dX7_kindOf_57 rfl (lv_at hl 1 rfl) ?_
      refine gF7_40 C P zm0 rfl dX7_kindOf_58 ?_
      refine lv_iconst (v := 0) hx hb dX7_kindOf_61 (by decide) ?_
      refine z_lald C P zm11 dX7_kindOf_62 h (fun h hi => ?_)
      refine lv_lmul hx hb dX7_kindOf_63 ?_
      refine z_lcmp_lt (tgt := 72) hx hb dX7_kindOf_64 dX7_kindOf_65 (by decide) h (fun h => ?_) (fun h => ?_)
      · refine lv_iconst (v := 4) hx hb dX7_kindOf_72 (by decide) ?_
        exact z_iret C P (Option.some.inj h) dX7_kindOf_73
      · refine lv_iconst (v := 5) hx hb dX7_kindOf_68 (by decide) ?_
        refine lv_goto (tgt := 73) hx hb dX7_kindOf_69 (by decide) ?_
        exact z_iret C P (Option.some.inj h) dX7_kindOf_73
    · refine lv_iconst (v := 1) hx hb dX7_kindOf_41 (by decide) ?_
      refine lv_goto (tgt := 73) hx hb dX7_kindOf_42 (by decide) ?_
      exact z_iret C P (Option.some.inj h) dX7_kindOf_73
  · refine lv_iload_n hx hb dX7_kindOf_22 rfl (lv_at hl 0 rfl) ?_
    refine lv_aload_n hx hb dX7_kindOf_23 rfl (lv_at hl 1 rfl) ?_
    refine z_callVi C P (As := []) (m7_every) cW7_244 rfl zm0 rfl (by decide) hl.1 rfl (Nat.le_of_ble_eq_true rfl) dX7_kindOf_24 ⟨Nat.zero_le _, Nat.zero_le _⟩ (fun H locs P => ?_)
    refine z_icmp_ne (tgt := 34) hx hb dX7_kindOf_27 (by decide) h (fun h => ?_) (fun h => ?_)
    · refine lv_iconst (v := 2) hx hb dX7_kindOf_34 (by decide) ?_
      exact z_iret C P (Option.some.inj h) dX7_kindOf_35
    · refine lv_iconst (v := 3) hx hb dX7_kindOf_30 (by decide) ?_
      refine lv_goto (tgt := 35) hx hb dX7_kindOf_31 (by decide) ?_
      exact z_iret C P (Option.some.inj h) dX7_kindOf_35
theorem w7_isOf_34 (C : zCx p s m args meth c cX7_isOf 2 RX7 (some .boolean) D ad cA A) {z : Int32} {S : Zs} (x0 : Int32) (x1 : Int32) (H : Heap) (locs : List Loc) (ls : Array Slot) (h : f7_isOf_34 x0 x1 = z) (P : zP D zM ad cA A S s H locs) (hl : lv_has ls 2 [(0, .int x0), (1, .int x1)]) :
    W p l e (zrm 0 0) s m args below meth c H locs 0 0 (MQ below (zQb D zM ad cA A (z, S)) args s 0 0 A) (F0 m 34 ls []) := by
  have hx := C.1
  have hb := C.2.1
  unfold f7_isOf_34 at h
  refine lv_iload_n hx hb dX7_isOf_34 rfl (lv_at hl 1 rfl) ?_
  refine lv_iconst (v := 4) hx hb dX7_isOf_35 (by decide) ?_
  refine z_icmp_ne (tgt := 48) hx hb dX7_isOf_36 (by decide) h (fun h => ?_) (fun h => ?_)
  · refine lv_iconst (v := 0) hx hb dX7_isOf_48 (by decide) ?_
    exact z_zret C P (by rw [h]) (by decide) dX7_isOf_49
  · refine lv_iload_n hx hb dX7_isOf_39 rfl (lv_at hl 0 rfl) ?_
    refine lv_iconst (v := 5) hx hb dX7_isOf_40 (by decide) ?_
    refine z_icmp_ne (tgt := 48) hx hb dX7_isOf_41 (by decide) h (fun h => ?_) (fun h => ?_)
    · refine lv_iconst (v := 0) hx hb dX7_isOf_48 (by decide) ?_
      exact z_zret C P (by rw [h]) (by decide) dX7_isOf_49
    · refine lv_iconst (v := 1) hx hb dX7_isOf_44 (by decide) ?_
      refine lv_goto (tgt := 49) hx hb dX7_isOf_45 (by decide) ?_
      exact z_zret C P (by rw [h]) (by decide) dX7_isOf_49
theorem w7_isOf_19 (C : zCx p s m args meth c cX7_isOf 2 RX7 (some .boolean) D ad cA A) {z : Int32} {S : Zs} (x0 : Int32) (x1 : Int32) (H : Heap) (locs : List Loc) (ls : Array Slot) (h : f7_isOf_19 x0 x1 = z) (P : zP D zM ad cA A S s H locs) (hl : lv_has ls 2 [(0, .int x0), (1, .int x1)]) :
    W p l e (zrm 0 0) s m args below meth c H locs 0 0 (MQ below (zQb D zM ad cA A (z, S)) args s 0 0 A) (F0 m 19 ls []) := by
  have hx := C.1
  have hb := C.2.1
  unfold f7_isOf_19 at h
  refine lv_iload_n hx hb dX7_isOf_19 rfl (lv_at hl 1 rfl) ?_
  refine lv_iconst (v := 1) hx hb dX7_isOf_20 (by decide) ?_
  refine z_icmp_ne (tgt := 34) hx hb dX7_isOf_21 (by decide) h (fun h => ?_) (fun h => ?_)
  · exact w7_isOf_34 C _ _ _ _ _ h P (lv_sub hl [0, 1] rfl)
  · refine lv_iload_n hx hb dX7_isOf_24 rfl (lv_at hl 0 rfl) ?_
    refine lv_iconst (v := 2) hx hb dX7_isOf_25 (by decide) ?_
    refine z_icmp_le (tgt := 34) hx hb dX7_isOf_26 (by decide) h (fun h => ?_) (fun h => ?_)
    · exact w7_isOf_34 C _ _ _ _ _ h P (lv_sub hl [0, 1] rfl)
    · refine lv_iload_n hx hb dX7_isOf_29 rfl (lv_at hl 0 rfl) ?_
      refine lv_iconst (v := 3) hx hb dX7_isOf_30 (by decide) ?_
      refine z_icmp_ne (tgt := 44) hx hb dX7_isOf_31 (by decide) h (fun h => ?_) (fun h => ?_)
      · refine lv_iconst (v := 1) hx hb dX7_isOf_44 (by decide) ?_
        refine lv_goto (tgt := 49) hx hb dX7_isOf_45 (by decide) ?_
        exact z_zret C P (by rw [h]) (by decide) dX7_isOf_49
      · exact w7_isOf_34 C _ _ _ _ _ h P (lv_sub hl [0, 1] rfl)
theorem m7_isOf {l : Launch} {D : va_G} {cA : Nat → ClassId} {ad : Nat → Nat} {x0 : Int32} {x1 : Int32} {S : Zs} :
    zMb l yX7_isOf cX7_isOf 2 0 0 D zM ad cA S [.int x0, .int x1] (f7_isOf x0 x1, S) := by
  obtain ⟨z, h⟩ : ∃ z, f7_isOf x0 x1 = z := ⟨_, rfl⟩
  rw [h]
  refine z_enter (Qc := fun A => zQb D zM ad cA A (z, S)) (by decide +kernel) (Nat.le_of_ble_eq_true rfl) (fun p e s m below meth c A C P ls hl => ?_)
  have hx := C.1
  have hb := C.2.1
  have hl : lv_has ls 2 [(0, .int x0), (1, .int x1)] := hl
  unfold f7_isOf at h
  refine lv_iload_n hx hb dX7_isOf_0 rfl (lv_at hl 1 rfl) ?_
  refine z_if_eq (tgt := 44) hx hb dX7_isOf_1 (by decide) h (fun h => ?_) (fun h => ?_)
  · refine lv_iconst (v := 1) hx hb dX7_isOf_44 (by decide) ?_
    refine lv_goto (tgt := 49) hx hb dX7_isOf_45 (by decide) ?_
    exact z_zret C P (by rw [h]) (by decide) dX7_isOf_49
  · refine lv_iload_n hx hb dX7_isOf_4 rfl (lv_at hl 0 rfl) ?_
    refine lv_iload_n hx hb dX7_isOf_5 rfl (lv_at hl 1 rfl) ?_
    refine z_icmp_eq (tgt := 44) hx hb dX7_isOf_6 (by decide) h (fun h => ?_) (fun h => ?_)
    · refine lv_iconst (v := 1) hx hb dX7_isOf_44 (by decide) ?_
      refine lv_goto (tgt := 49) hx hb dX7_isOf_45 (by decide) ?_
      exact z_zret C P (by rw [h]) (by decide) dX7_isOf_49
    · refine lv_iload_n hx hb dX7_isOf_9 rfl (lv_at hl 1 rfl) ?_
      refine lv_iconst (v := 2) hx hb dX7_isOf_10 (by decide) ?_
      refine z_icmp_ne (tgt := 19) hx hb dX7_isOf_11 (by decide) h (fun h => ?_) (fun h => ?_)
      · exact w7_isOf_19 C _ _ _ _ _ h P (lv_sub hl [0, 1] rfl)
      · refine lv_iload_n hx hb dX7_isOf_14 rfl (lv_at hl 0 rfl) ?_
        refine lv_iconst (v := 3) hx hb dX7_isOf_15 (by decide) ?_
        refine z_icmp_eq (tgt := 44) hx hb dX7_isOf_16 (by decide) h (fun h => ?_) (fun h => ?_)
        · refine lv_iconst (v := 1) hx hb dX7_isOf_44 (by decide) ?_
          refine lv_goto (tgt := 49) hx hb dX7_isOf_45 (by decide) ?_
          exact z_zret C P (by rw [h]) (by decide) dX7_isOf_49
        · exact w7_isOf_19 C _ _ _ _ _ h P (lv_sub hl [0, 1] rfl)
theorem m7_kind {l : Launch} {D : va_G} {cA : Nat → ClassId} {ad : Nat → Nat} {x1 : Int32} {S : Zs} {z : Int64 × Zs} (h : f7_kind x1 S = some z) :
    zMl l yX7_kind cX7_kind 2 10 244 D zM ad cA S [.ref (ad 0), .int x1] z := by
  refine z_enter (Qc := fun A => zQl D zM ad cA A z) (by decide +kernel) (Nat.le_of_ble_eq_true rfl) (fun p e s m below meth c A C P ls hl => ?_)
  have hx := C.1
  have hb := C.2.1
  have hl : lv_has ls 2 [(0, .ref (ad 0)), (1, .int x1)] := hl
  unfold f7_kind at h
  refine lv_aload_n hx hb dX7_kind_0 rfl (lv_at hl 0 rfl) ?_
  refine lv_iconst (v := 0) hx hb dX7_kind_1 (by decide) ?_
  refine pF7_62 C P zm0 rfl dX7_kind_2 h (fun S2 H locs h P => ?_)
  refine lv_aload_n hx hb dX7_kind_5 rfl (lv_at hl 0 rfl) ?_
  refine lv_iload_n hx hb dX7_kind_6 rfl (lv_at hl 1 rfl) ?_
  refine z_callVb C P (As := [.int x1]) (m7_isGood) cW7_192 rfl zm0 rfl (by decide) hl.1 rfl (Nat.le_of_ble_eq_true rfl) dX7_kind_7 ⟨Nat.zero_le _, Nat.zero_le _⟩ (fun H locs n7 P => ?_)
  refine z_if_eq (tgt := 22) hx hb dX7_kind_10 (by decide) h (fun h => ?_) (fun h => ?_)
  · refine lv_ldc2 (v := (-9000000000000000001)) hx hb C.2.2.2.1 (C.2.2.2.2.1 _ kK7_83) dX7_kind_22 ?_
    exact z_lret C P (Option.some.inj h) dX7_kind_25
  · refine lv_aload_n hx hb dX7_kind_13 rfl (lv_at hl 0 rfl) ?_
    refine lv_iload_n hx hb dX7_kind_14 rfl (lv_at hl 1 rfl) ?_
    obtain ⟨r15, S15, g15, h⟩ := bd2_some h
    refine z_callVi C P (As := [.int x1]) (m7_kindOf g15) cW7_314 rfl zm0 rfl (by decide) hl.1 rfl (Nat.le_of_ble_eq_true rfl) dX7_kind_15 ⟨Nat.zero_le _, Nat.zero_le _⟩ (fun H locs P => ?_)
    refine lv_i2l hx hb dX7_kind_18 rfl ?_
    refine lv_goto (tgt := 25) hx hb dX7_kind_19 (by decide) ?_
    exact z_lret C P (Option.some.inj h) dX7_kind_25
theorem m7_as {l : Launch} {D : va_G} {cA : Nat → ClassId} {ad : Nat → Nat} {x1 : Int32} {x2 : Int32} {S : Zs} {z : Int64 × Zs} (h : f7_as x1 x2 S = some z) :
    zMl l yX7_as cX7_as 3 10 244 D zM ad cA S [.ref (ad 0), .int x1, .int x2] z := by
  refine z_enter (Qc := fun A => zQl D zM ad cA A z) (by decide +kernel) (Nat.le_of_ble_eq_true rfl) (fun p e s m below meth c A C P ls hl => ?_)
  have hx := C.1
  have hb := C.2.1
  have hl : lv_has ls 3 [(0, .ref (ad 0)), (1, .int x1), (2, .int x2)] := hl
  unfold f7_as at h
  refine lv_aload_n hx hb dX7_as_0 rfl (lv_at hl 0 rfl) ?_
  refine lv_iconst (v := 0) hx hb dX7_as_1 (by decide) ?_
  refine pF7_62 C P zm0 rfl dX7_as_2 h (fun S2 H locs h P => ?_)
  refine lv_aload_n hx hb dX7_as_5 rfl (lv_at hl 0 rfl) ?_
  refine lv_iload_n hx hb dX7_as_6 rfl (lv_at hl 1 rfl) ?_
  refine z_callVb C P (As := [.int x1]) (m7_isGood) cW7_192 rfl zm0 rfl (by decide) hl.1 rfl (Nat.le_of_ble_eq_true rfl) dX7_as_7 ⟨Nat.zero_le _, Nat.zero_le _⟩ (fun H locs n7 P => ?_)
  refine z_if_eq (tgt := 25) hx hb dX7_as_10 (by decide) h (fun h => ?_) (fun h => ?_)
  · refine lv_ldc2 (v := (-9000000000000000001)) hx hb C.2.2.2.1 (C.2.2.2.2.1 _ kK7_83) dX7_as_25 ?_
    exact z_lret C P (Option.some.inj h) dX7_as_28
  · refine lv_iload_n hx hb dX7_as_13 rfl (lv_at hl 2 rfl) ?_
    refine lv_i2l hx hb dX7_as_14 rfl ?_
    refine lv_lconst (v := 0) hx hb dX7_as_15 (by decide) ?_
    refine lv_ldc2 (v := 5) hx hb C.2.2.2.1 (C.2.2.2.2.1 _ kK7_303) dX7_as_16 ?_
    refine z_callSb C P (As := [.long x2.toInt64, .long (0 : Int64), .long (5 : Int64)]) (m7_in) cW7_73 rfl (by decide) hl.1 rfl (Nat.le_of_ble_eq_true rfl) dX7_as_19 ⟨Nat.zero_le _, Nat.zero_le _⟩ (fun H locs n19 P => ?_)
    refine z_if_ne (tgt := 29) hx hb dX7_as_22 (by decide) h (fun h => ?_) (fun h => ?_)
    · refine lv_aload_n hx hb dX7_as_29 rfl (lv_at hl 0 rfl) ?_
      refine lv_iconst (v := 0) hx hb dX7_as_30 (by decide) ?_
      refine pF7_66 C P zm0 rfl dX7_as_31 h (fun S31 H locs h P => ?_)
      refine lv_aload_n hx hb dX7_as_34 rfl (lv_at hl 0 rfl) ?_
      refine lv_iload_n hx hb dX7_as_35 rfl (lv_at hl 1 rfl) ?_
      obtain ⟨r36, S36, g36, h⟩ := bd2_some h
      refine z_callVi C P (As := [.int x1]) (m7_kindOf g36) cW7_314 rfl zm0 rfl (by decide) hl.1 rfl (Nat.le_of_ble_eq_true rfl) dX7_as_36 ⟨Nat.zero_le _, Nat.zero_le _⟩ (fun H locs P => ?_)
      refine lv_iload_n hx hb dX7_as_39 rfl (lv_at hl 2 rfl) ?_
      refine z_callSb C P (As := [.int r36, .int x2]) (m7_isOf) cW7_317 rfl (by decide) hl.1 rfl (Nat.le_of_ble_eq_true rfl) dX7_as_40 ⟨Nat.zero_le _, Nat.zero_le _⟩ (fun H locs n40 P => ?_)
      refine z_if_eq (tgt := 51) hx hb dX7_as_43 (by decide) h (fun h => ?_) (fun h => ?_)
      · refine lv_aload_n hx hb dX7_as_51 rfl (lv_at hl 0 rfl) ?_
        refine lv_iconst (v := 3) hx hb dX7_as_52 (by decide) ?_
        obtain ⟨r53, S53, g53, h⟩ := bd2_some h
        refine z_callVl C P (As := [.int (3 : Int32)]) (m7_finding g53) cW7_85 rfl zm0 rfl (by decide) hl.1 rfl (Nat.le_of_ble_eq_true rfl) dX7_as_53 ⟨Nat.zero_le _, Nat.zero_le _⟩ (fun H locs P => ?_)
        exact z_lret C P (Option.some.inj h) dX7_as_56
      · refine lv_iload_n hx hb dX7_as_46 rfl (lv_at hl 1 rfl) ?_
        refine lv_i2l hx hb dX7_as_47 rfl ?_
        refine lv_goto (tgt := 56) hx hb dX7_as_48 (by decide) ?_
        exact z_lret C P (Option.some.inj h) dX7_as_56
    · refine lv_ldc2 (v := (-9000000000000000001)) hx hb C.2.2.2.1 (C.2.2.2.2.1 _ kK7_83) dX7_as_25 ?_
      exact z_lret C P (Option.some.inj h) dX7_as_28
theorem m7_began {l : Launch} {D : va_G} {cA : Nat → ClassId} {ad : Nat → Nat} {x1 : Int32} {S : Zs} {z : Zs} (h : f7_began x1 S = some z) :
    zMv l yX7_began cX7_began 2 0 0 D zM ad cA S [.ref (ad 0), .int x1] z := by
  refine z_enter (Qc := fun A => zQv D zM ad cA A z) (by decide +kernel) (Nat.le_of_ble_eq_true rfl) (fun p e s m below meth c A C P ls hl => ?_)
  have hx := C.1
  have hb := C.2.1
  have hl : lv_has ls 2 [(0, .ref (ad 0)), (1, .int x1)] := hl
  unfold f7_began at h
  refine lv_aload_n hx hb dX7_began_0 rfl (lv_at hl 0 rfl) ?_
  refine gF7_320 C P zm0 rfl dX7_began_1 ?_
  refine lv_bipush (v := 16) hx hb dX7_began_4 (by decide) ?_
  refine z_icmp_ge (tgt := 29) hx hb dX7_began_6 (by decide) h (fun h => ?_) (fun h => ?_)
  · exact z_vret C P (Option.some.inj h) dX7_began_29
  · refine lv_aload_n hx hb dX7_began_9 rfl (lv_at hl 0 rfl) ?_
    refine gF7_59 C P zm0 rfl dX7_began_10 ?_
    refine lv_aload_n hx hb dX7_began_13 rfl (lv_at hl 0 rfl) ?_
    refine gF7_320 C P zm0 rfl dX7_began_14 ?_
    refine lv_iload_n hx hb dX7_began_17 rfl (lv_at hl 1 rfl) ?_
    refine z_iast C P zm17 dX7_began_18 h (fun S18 H locs h P => ?_)
    refine lv_aload_n hx hb dX7_began_19 rfl (lv_at hl 0 rfl) ?_
    refine lv_dup hx hb dX7_began_20 rfl ?_
    refine gF7_320 C P zm0 rfl dX7_began_21 ?_
    refine lv_iconst (v := 1) hx hb dX7_began_24 (by decide) ?_
    refine lv_iadd hx hb dX7_began_25 ?_
    refine pF7_320 C P zm0 rfl dX7_began_26 h (fun S26 H locs h P => ?_)
    exact z_vret C P (Option.some.inj h) dX7_began_29
theorem m7_shareOf {l : Launch} {D : va_G} {cA : Nat → ClassId} {ad : Nat → Nat} {x1 : Int32} {S : Zs} {z : Int32 × Zs} (h : f7_shareOf x1 S = some z) :
    zMi l yX7_shareOf cX7_shareOf 2 1 21 D zM ad cA S [.ref (ad 0), .int x1] z := by
  refine z_enter (Qc := fun A => zQi D zM ad cA A z) (by decide +kernel) (Nat.le_of_ble_eq_true rfl) (fun p e s m below meth c A C P ls hl => ?_)
  have hx := C.1
  have hb := C.2.1
  have hl : lv_has ls 2 [(0, .ref (ad 0)), (1, .int x1)] := hl
  unfold f7_shareOf at h
  refine lv_aload_n hx hb dX7_shareOf_0 rfl (lv_at hl 0 rfl) ?_
  refine lv_bipush (v := 10) hx hb dX7_shareOf_1 (by decide) ?_
  obtain ⟨S3, g3, h⟩ := bd1_some h
  refine z_callVv C P (As := [.int (10 : Int32)]) (m7_began g3) cW7_323 rfl zm0 rfl (by decide) hl.1 rfl (Nat.le_of_ble_eq_true rfl) dX7_shareOf_3 ⟨Nat.zero_le _, Nat.zero_le _⟩ (fun H locs P => ?_)
  refine lv_aload_n hx hb dX7_shareOf_6 rfl (lv_at hl 0 rfl) ?_
  refine gF7_19 C P zm0 rfl dX7_shareOf_7 ?_
  refine lv_iload_n hx hb dX7_shareOf_10 rfl (lv_at hl 1 rfl) ?_
  refine z_iald C P zm4 dX7_shareOf_11 h (fun h hi => ?_)
  exact z_iret C P (Option.some.inj h) dX7_shareOf_12
theorem w7_aloneMark_55 (C : zCx p s m args meth c cX7_aloneMark 5 RX7 (some .int) D ad cA A) {z : Int32 × Zs} (x1 : Int32) (x2 : Int32) (t0 : Int32) (S : Zs) (H : Heap) (locs : List Loc) (ls : Array Slot) (h : f7_aloneMark_55 x1 x2 t0 S = some z) (P : zP D zM ad cA A S s H locs) (hl : lv_has ls 5 [(0, .ref (ad 0)), (1, .int x1), (2, .int x2)]) :
    W p l e (zrm 3 73) s m args below meth c H locs 0 0 (MQ below (zQi D zM ad cA A z) args s 0 0 A) (F0 m 55 ls [.int t0]) := by
  have hx := C.1
  have hb := C.2.1
  unfold f7_aloneMark_55 at h
  refine lv_istore (lv' := [(4, .int t0), (0, .ref (ad 0)), (1, .int x1), (2, .int x2)]) hx hb dX7_aloneMark_55 hl (by decide) rfl (fun ls hl => ?_)
  refine lv_iload_n hx hb dX7_aloneMark_57 rfl (lv_at hl 2 rfl) ?_
  refine lv_bipush (v := 10) hx hb dX7_aloneMark_58 (by decide) ?_
  refine lv_iload hx hb dX7_aloneMark_60 (lv_at hl 0 rfl) ?_
  refine lv_imul hx hb dX7_aloneMark_62 ?_
  refine lv_iadd hx hb dX7_aloneMark_63 ?_
  refine lv_iload_n hx hb dX7_aloneMark_64 rfl (lv_at hl 3 rfl) ?_
  refine lv_iconst (v := 4) hx hb dX7_aloneMark_65 (by decide) ?_
  refine z_callSb C P (As := [.int x2, .int (4 : Int32)]) (m7_isOf) cW7_317 rfl (by decide) hl.1 rfl (Nat.le_of_ble_eq_true rfl) dX7_aloneMark_66 ⟨Nat.zero_le _, Nat.zero_le _⟩ (fun H locs n66 P => ?_)
  refine z_if_eq (tgt := 77) hx hb dX7_aloneMark_69 (by decide) h (fun h => ?_) (fun h => ?_)
  · refine lv_iconst (v := 0) hx hb dX7_aloneMark_77 (by decide) ?_
    refine lv_iadd hx hb dX7_aloneMark_78 ?_
    exact z_iret C P (Option.some.inj h) dX7_aloneMark_79
  · refine lv_bipush (v := 100) hx hb dX7_aloneMark_72 (by decide) ?_
    refine lv_goto (tgt := 78) hx hb dX7_aloneMark_74 (by decide) ?_
    refine lv_iadd hx hb dX7_aloneMark_78 ?_
    exact z_iret C P (Option.some.inj h) dX7_aloneMark_79
theorem w7_aloneMark_14 (C : zCx p s m args meth c cX7_aloneMark 5 RX7 (some .int) D ad cA A) {z : Int32 × Zs} (x1 : Int32) (x2 : Int32) (S : Zs) (H : Heap) (locs : List Loc) (ls : Array Slot) (h : f7_aloneMark_14 x1 x2 S = some z) (P : zP D zM ad cA A S s H locs) (hl : lv_has ls 5 [(0, .ref (ad 0)), (1, .int x1), (2, .int x2)]) :
    W p l e (zrm 3 73) s m args below meth c H locs 0 0 (MQ below (zQi D zM ad cA A z) args s 0 0 A) (F0 m 14 ls []) := by
  have hx := C.1
  have hb := C.2.1
  unfold f7_aloneMark_14 at h
  refine lv_aload_n hx hb dX7_aloneMark_14 rfl (lv_at hl 0 rfl) ?_
  refine lv_bipush (v := 21) hx hb dX7_aloneMark_15 (by decide) ?_
  obtain ⟨S17, g17, h⟩ := bd1_some h
  refine z_callVv C P (As := [.int (21 : Int32)]) (m7_began g17) cW7_323 rfl zm0 rfl (by decide) hl.1 rfl (Nat.le_of_ble_eq_true rfl) dX7_aloneMark_17 ⟨Nat.zero_le _, Nat.zero_le _⟩ (fun H locs P => ?_)
  refine lv_aload_n hx hb dX7_aloneMark_20 rfl (lv_at hl 0 rfl) ?_
  refine lv_bipush (v := 20) hx hb dX7_aloneMark_21 (by decide) ?_
  obtain ⟨S23, g23, h⟩ := bd1_some h
  refine z_callVv C P (As := [.int (20 : Int32)]) (m7_began g23) cW7_323 rfl zm0 rfl (by decide) hl.1 rfl (Nat.le_of_ble_eq_true rfl) dX7_aloneMark_23 ⟨Nat.zero_le _, Nat.zero_le _⟩ (fun H locs P => ?_)
  refine lv_aload_n hx hb dX7_aloneMark_26 rfl (lv_at hl 0 rfl) ?_
  refine lv_aload_n hx hb dX7_aloneMark_27 rfl (lv_at hl 0 rfl) ?_
  refine z_callVi C P (As := []) (m7_every) cW7_244 rfl zm0 rfl (by decide) hl.1 rfl (Nat.le_of_ble_eq_true rfl) dX7_aloneMark_28 ⟨Nat.zero_le _, Nat.zero_le _⟩ (fun H locs P => ?_)
  refine lv_iload_n hx hb dX7_aloneMark_31 rfl (lv_at hl 1 rfl) ?_
  obtain ⟨r32, g32, h⟩ := bd1_some h
  refine z_callVi C P (As := [.int (f7_every S23), .int x1]) (m7_makersOf g32) cW7_211 rfl zm0 rfl (by decide) hl.1 rfl (Nat.le_of_ble_eq_true rfl) dX7_aloneMark_32 ⟨Nat.zero_le _, Nat.zero_le _⟩ (fun H locs P => ?_)
  refine lv_istore_n (lv' := [(3, .int r32), (0, .ref (ad 0)), (1, .int x1), (2, .int x2)]) hx hb dX7_aloneMark_35 rfl hl (by decide) rfl (fun ls hl => ?_)
  refine lv_iload_n hx hb dX7_aloneMark_36 rfl (lv_at hl 0 rfl) ?_
  refine lv_iconst (v := 1) hx hb dX7_aloneMark_37 (by decide) ?_
  refine z_icmp_ne (tgt := 45) hx hb dX7_aloneMark_38 (by decide) h (fun h => ?_) (fun h => ?_)
  · refine lv_iload_n hx hb dX7_aloneMark_45 rfl (lv_at hl 0 rfl) ?_
    refine lv_iconst (v := 2) hx hb dX7_aloneMark_46 (by decide) ?_
    refine z_icmp_ne (tgt := 54) hx hb dX7_aloneMark_47 (by decide) h (fun h => ?_) (fun h => ?_)
    · refine lv_iconst (v := 2) hx hb dX7_aloneMark_54 (by decide) ?_
      exact w7_aloneMark_55 C _ _ _ _ _ _ _ h P (lv_sub hl [1, 2, 3] rfl)
    · refine lv_iconst (v := 1) hx hb dX7_aloneMark_50 (by decide) ?_
      refine lv_goto (tgt := 55) hx hb dX7_aloneMark_51 (by decide) ?_
      exact w7_aloneMark_55 C _ _ _ _ _ _ _ h P (lv_sub hl [1, 2, 3] rfl)
  · refine lv_iconst (v := 0) hx hb dX7_aloneMark_41 (by decide) ?_
    refine lv_goto (tgt := 55) hx hb dX7_aloneMark_42 (by decide) ?_
    exact w7_aloneMark_55 C _ _ _ _ _ _ _ h P (lv_sub hl [1, 2, 3] rfl)
theorem m7_aloneMark {l : Launch} {D : va_G} {cA : Nat → ClassId} {ad : Nat → Nat} {x1 : Int32} {x2 : Int32} {S : Zs} {z : Int32 × Zs} (h : f7_aloneMark x1 x2 S = some z) :
    zMi l yX7_aloneMark cX7_aloneMark 5 3 73 D zM ad cA S [.ref (ad 0), .int x1, .int x2] z := by
  refine z_enter (Qc := fun A => zQi D zM ad cA A z) (by decide +kernel) (Nat.le_of_ble_eq_true rfl) (fun p e s m below meth c A C P ls hl => ?_)
  have hx := C.1
  have hb := C.2.1
  have hl : lv_has ls 5 [(0, .ref (ad 0)), (1, .int x1), (2, .int x2)] := hl
  unfold f7_aloneMark at h
  refine lv_iload_n hx hb dX7_aloneMark_0 rfl (lv_at hl 2 rfl) ?_
  refine lv_iconst (v := 4) hx hb dX7_aloneMark_1 (by decide) ?_
  refine z_callSb C P (As := [.int x2, .int (4 : Int32)]) (m7_isOf) cW7_317 rfl (by decide) hl.1 rfl (Nat.le_of_ble_eq_true rfl) dX7_aloneMark_2 ⟨Nat.zero_le _, Nat.zero_le _⟩ (fun H locs n2 P => ?_)
  refine z_if_eq (tgt := 14) hx hb dX7_aloneMark_5 (by decide) h (fun h => ?_) (fun h => ?_)
  · exact w7_aloneMark_14 C _ _ _ _ _ _ h P (lv_sub hl [0, 1, 2] rfl)
  · refine lv_aload_n hx hb dX7_aloneMark_8 rfl (lv_at hl 0 rfl) ?_
    refine lv_bipush (v := 23) hx hb dX7_aloneMark_9 (by decide) ?_
    obtain ⟨S11, g11, h⟩ := bd1_some h
    refine z_callVv C P (As := [.int (23 : Int32)]) (m7_began g11) cW7_323 rfl zm0 rfl (by decide) hl.1 rfl (Nat.le_of_ble_eq_true rfl) dX7_aloneMark_11 ⟨Nat.zero_le _, Nat.zero_le _⟩ (fun H locs P => ?_)
    exact w7_aloneMark_14 C _ _ _ _ _ _ h P (lv_sub hl [0, 1, 2] rfl)
theorem w7_commonSize_11 (C : zCx p s m args meth c cX7_commonSize 4 RX7 (some .int) D ad cA A) {z : Int32 × Zs} (x1 : Int32) (x2 : Int32) (S : Zs) (H : Heap) (locs : List Loc) (ls : Array Slot) (h : f7_commonSize_11 x1 x2 S = some z) (P : zP D zM ad cA A S s H locs) (hl : lv_has ls 4 [(0, .ref (ad 0)), (1, .int x1), (2, .int x2)]) :
    W p l e (zrm 3 73) s m args below meth c H locs 0 0 (MQ below (zQi D zM ad cA A z) args s 0 0 A) (F0 m 11 ls []) := by
  have hx := C.1
  have hb := C.2.1
  unfold f7_commonSize_11 at h
  refine lv_aload_n hx hb dX7_commonSize_11 rfl (lv_at hl 0 rfl) ?_
  refine lv_bipush (v := 12) hx hb dX7_commonSize_12 (by decide) ?_
  obtain ⟨S14, g14, h⟩ := bd1_some h
  refine z_callVv C P (As := [.int (12 : Int32)]) (m7_began g14) cW7_323 rfl zm0 rfl (by decide) hl.1 rfl (Nat.le_of_ble_eq_true rfl) dX7_commonSize_14 ⟨Nat.zero_le _, Nat.zero_le _⟩ (fun H locs P => ?_)
  refine lv_aload_n hx hb dX7_commonSize_17 rfl (lv_at hl 0 rfl) ?_
  refine lv_iload_n hx hb dX7_commonSize_18 rfl (lv_at hl 1 rfl) ?_
  obtain ⟨r19, S19, g19, h⟩ := bd2_some h
  refine z_callVi C P (As := [.int x1]) (m7_shareOf g19) cW7_326 rfl zm0 rfl (by decide) hl.1 rfl (Nat.le_of_ble_eq_true rfl) dX7_commonSize_19 ⟨Nat.zero_le _, Nat.zero_le _⟩ (fun H locs P => ?_)
  refine lv_aload_n hx hb dX7_commonSize_22 rfl (lv_at hl 0 rfl) ?_
  refine lv_aload_n hx hb dX7_commonSize_23 rfl (lv_at hl 0 rfl) ?_
  refine z_callVi C P (As := []) (m7_every) cW7_244 rfl zm0 rfl (by decide) hl.1 rfl (Nat.le_of_ble_eq_true rfl) dX7_commonSize_24 ⟨Nat.zero_le _, Nat.zero_le _⟩ (fun H locs P => ?_)
  refine lv_iload_n hx hb dX7_commonSize_27 rfl (lv_at hl 1 rfl) ?_
  obtain ⟨r28, g28, h⟩ := bd1_some h
  refine z_callVi C P (As := [.int (f7_every S19), .int x1]) (m7_makersOf g28) cW7_211 rfl zm0 rfl (by decide) hl.1 rfl (Nat.le_of_ble_eq_true rfl) dX7_commonSize_28 ⟨Nat.zero_le _, Nat.zero_le _⟩ (fun H locs P => ?_)
  refine z_callSi C P (As := [.int r28]) (m7_bits) cW7_309 rfl (by decide) hl.1 rfl (Nat.le_of_ble_eq_true rfl) dX7_commonSize_31 ⟨Nat.zero_le _, Nat.zero_le _⟩ (fun H locs P => ?_)
  refine lv_imul hx hb dX7_commonSize_34 ?_
  refine z_topi h (fun v35 h => ?_)
  refine lv_istore_n (lv' := [(3, .int v35), (0, .ref (ad 0)), (1, .int x1), (2, .int x2)]) hx hb dX7_commonSize_35 rfl hl (by decide) rfl (fun ls hl => ?_)
  refine lv_iload_n hx hb dX7_commonSize_36 rfl (lv_at hl 3 rfl) ?_
  refine lv_iconst (v := 3) hx hb dX7_commonSize_37 (by decide) ?_
  refine z_icmp_ne (tgt := 47) hx hb dX7_commonSize_38 (by decide) h (fun h => ?_) (fun h => ?_)
  · refine lv_iload_n hx hb dX7_commonSize_47 rfl (lv_at hl 0 rfl) ?_
    exact z_iret C P (Option.some.inj h) dX7_commonSize_48
  · refine lv_iload_n hx hb dX7_commonSize_41 rfl (lv_at hl 0 rfl) ?_
    refine lv_iconst (v := 1) hx hb dX7_commonSize_42 (by decide) ?_
    refine lv_isub hx hb dX7_commonSize_43 ?_
    refine lv_goto (tgt := 48) hx hb dX7_commonSize_44 (by decide) ?_
    exact z_iret C P (Option.some.inj h) dX7_commonSize_48
theorem m7_commonSize {l : Launch} {D : va_G} {cA : Nat → ClassId} {ad : Nat → Nat} {x1 : Int32} {x2 : Int32} {S : Zs} {z : Int32 × Zs} (h : f7_commonSize x1 x2 S = some z) :
    zMi l yX7_commonSize cX7_commonSize 4 3 73 D zM ad cA S [.ref (ad 0), .int x1, .int x2] z := by
  refine z_enter (Qc := fun A => zQi D zM ad cA A z) (by decide +kernel) (Nat.le_of_ble_eq_true rfl) (fun p e s m below meth c A C P ls hl => ?_)
  have hx := C.1
  have hb := C.2.1
  have hl : lv_has ls 4 [(0, .ref (ad 0)), (1, .int x1), (2, .int x2)] := hl
  unfold f7_commonSize at h
  refine lv_iload_n hx hb dX7_commonSize_0 rfl (lv_at hl 2 rfl) ?_
  refine lv_iconst (v := 3) hx hb dX7_commonSize_1 (by decide) ?_
  refine z_icmp_ne (tgt := 11) hx hb dX7_commonSize_2 (by decide) h (fun h => ?_) (fun h => ?_)
  · exact w7_commonSize_11 C _ _ _ _ _ _ h P (lv_sub hl [0, 1, 2] rfl)
  · refine lv_aload_n hx hb dX7_commonSize_5 rfl (lv_at hl 0 rfl) ?_
    refine lv_bipush (v := 13) hx hb dX7_commonSize_6 (by decide) ?_
    obtain ⟨S8, g8, h⟩ := bd1_some h
    refine z_callVv C P (As := [.int (13 : Int32)]) (m7_began g8) cW7_323 rfl zm0 rfl (by decide) hl.1 rfl (Nat.le_of_ble_eq_true rfl) dX7_commonSize_8 ⟨Nat.zero_le _, Nat.zero_le _⟩ (fun H locs P => ?_)
    exact w7_commonSize_11 C _ _ _ _ _ _ h P (lv_sub hl [0, 1, 2] rfl)
theorem w7_sizeOf_76 (C : zCx p s m args meth c cX7_sizeOf 4 RX7 (some .int) D ad cA A) {z : Int32 × Zs} (x1 : Int32) (x2 : Int32) (t0 : Int32) (S : Zs) (H : Heap) (locs : List Loc) (ls : Array Slot) (h : f7_sizeOf_76 x1 x2 t0 S = some z) (P : zP D zM ad cA A S s H locs) (hl : lv_has ls 4 [(0, .ref (ad 0)), (1, .int x1), (2, .int x2)]) :
    W p l e (zrm 4 97) s m args below meth c H locs 0 0 (MQ below (zQi D zM ad cA A z) args s 0 0 A) (F0 m 76 ls [.int t0]) := by
  have hx := C.1
  have hb := C.2.1
  unfold f7_sizeOf_76 at h
  refine lv_istore_n (lv' := [(3, .int t0), (0, .ref (ad 0)), (1, .int x1), (2, .int x2)]) hx hb dX7_sizeOf_76 rfl hl (by decide) rfl (fun ls hl => ?_)
  refine lv_iload_n hx hb dX7_sizeOf_77 rfl (lv_at hl 3 rfl) ?_
  refine lv_iconst (v := 5) hx hb dX7_sizeOf_78 (by decide) ?_
  refine z_icmp_ne (tgt := 93) hx hb dX7_sizeOf_79 (by decide) h (fun h => ?_) (fun h => ?_)
  · refine lv_iload_n hx hb dX7_sizeOf_93 rfl (lv_at hl 0 rfl) ?_
    exact z_iret C P (Option.some.inj h) dX7_sizeOf_94
  · refine lv_iload_n hx hb dX7_sizeOf_82 rfl (lv_at hl 0 rfl) ?_
    refine lv_aload_n hx hb dX7_sizeOf_83 rfl (lv_at hl 1 rfl) ?_
    refine lv_iload_n hx hb dX7_sizeOf_84 rfl (lv_at hl 2 rfl) ?_
    refine lv_iload_n hx hb dX7_sizeOf_85 rfl (lv_at hl 3 rfl) ?_
    obtain ⟨r86, S86, g86, h⟩ := bd2_some h
    refine z_callVi C P (As := [.int x1, .int x2]) (m7_aloneMark g86) cW7_332 rfl zm0 rfl (by decide) hl.1 rfl (Nat.le_of_ble_eq_true rfl) dX7_sizeOf_86 ⟨Nat.zero_le _, Nat.zero_le _⟩ (fun H locs P => ?_)
    refine lv_isub hx hb dX7_sizeOf_89 ?_
    refine lv_goto (tgt := 94) hx hb dX7_sizeOf_90 (by decide) ?_
    exact z_iret C P (Option.some.inj h) dX7_sizeOf_94
theorem w7_sizeOf_40 (C : zCx p s m args meth c cX7_sizeOf 4 RX7 (some .int) D ad cA A) {z : Int32 × Zs} (x1 : Int32) (x2 : Int32) (S : Zs) (H : Heap) (locs : List Loc) (ls : Array Slot) (h : f7_sizeOf_40 x1 x2 S = some z) (P : zP D zM ad cA A S s H locs) (hl : lv_has ls 4 [(0, .ref (ad 0)), (1, .int x1), (2, .int x2)]) :
    W p l e (zrm 4 97) s m args below meth c H locs 0 0 (MQ below (zQi D zM ad cA A z) args s 0 0 A) (F0 m 40 ls []) := by
  have hx := C.1
  have hb := C.2.1
  unfold f7_sizeOf_40 at h
  refine lv_aload_n hx hb dX7_sizeOf_40 rfl (lv_at hl 0 rfl) ?_
  refine lv_bipush (v := 11) hx hb dX7_sizeOf_41 (by decide) ?_
  obtain ⟨S43, g43, h⟩ := bd1_some h
  refine z_callVv C P (As := [.int (11 : Int32)]) (m7_began g43) cW7_323 rfl zm0 rfl (by decide) hl.1 rfl (Nat.le_of_ble_eq_true rfl) dX7_sizeOf_43 ⟨Nat.zero_le _, Nat.zero_le _⟩ (fun H locs P => ?_)
  refine lv_aload_n hx hb dX7_sizeOf_46 rfl (lv_at hl 0 rfl) ?_
  refine lv_iload_n hx hb dX7_sizeOf_47 rfl (lv_at hl 1 rfl) ?_
  obtain ⟨r48, S48, g48, h⟩ := bd2_some h
  refine z_callVi C P (As := [.int x1]) (m7_shareOf g48) cW7_326 rfl zm0 rfl (by decide) hl.1 rfl (Nat.le_of_ble_eq_true rfl) dX7_sizeOf_48 ⟨Nat.zero_le _, Nat.zero_le _⟩ (fun H locs P => ?_)
  refine lv_istore_n (lv' := [(3, .int r48), (0, .ref (ad 0)), (1, .int x1), (2, .int x2)]) hx hb dX7_sizeOf_51 rfl hl (by decide) rfl (fun ls hl => ?_)
  refine lv_iload_n hx hb dX7_sizeOf_52 rfl (lv_at hl 0 rfl) ?_
  refine lv_aload_n hx hb dX7_sizeOf_53 rfl (lv_at hl 1 rfl) ?_
  refine lv_iload_n hx hb dX7_sizeOf_54 rfl (lv_at hl 2 rfl) ?_
  refine lv_iload_n hx hb dX7_sizeOf_55 rfl (lv_at hl 3 rfl) ?_
  obtain ⟨r56, S56, g56, h⟩ := bd2_some h
  refine z_callVi C P (As := [.int x1, .int x2]) (m7_aloneMark g56) cW7_332 rfl zm0 rfl (by decide) hl.1 rfl (Nat.le_of_ble_eq_true rfl) dX7_sizeOf_56 ⟨Nat.zero_le _, Nat.zero_le _⟩ (fun H locs P => ?_)
  refine lv_iadd hx hb dX7_sizeOf_59 ?_
  refine z_topi h (fun v60 h => ?_)
  refine lv_istore_n (lv' := [(3, .int v60), (0, .ref (ad 0)), (1, .int x1), (2, .int x2)]) hx hb dX7_sizeOf_60 rfl hl (by decide) rfl (fun ls hl => ?_)
  refine lv_iload_n hx hb dX7_sizeOf_61 rfl (lv_at hl 3 rfl) ?_
  refine lv_iconst (v := 4) hx hb dX7_sizeOf_62 (by decide) ?_
  refine z_callSb C P (As := [.int x2, .int (4 : Int32)]) (m7_isOf) cW7_317 rfl (by decide) hl.1 rfl (Nat.le_of_ble_eq_true rfl) dX7_sizeOf_63 ⟨Nat.zero_le _, Nat.zero_le _⟩ (fun H locs n63 P => ?_)
  refine z_if_eq (tgt := 75) hx hb dX7_sizeOf_66 (by decide) h (fun h => ?_) (fun h => ?_)
  · refine lv_iload_n hx hb dX7_sizeOf_75 rfl (lv_at hl 0 rfl) ?_
    exact w7_sizeOf_76 C _ _ _ _ _ _ _ h P (lv_sub hl [1, 2, 3] rfl)
  · refine lv_iconst (v := 2) hx hb dX7_sizeOf_69 (by decide) ?_
    refine lv_iload_n hx hb dX7_sizeOf_70 rfl (lv_at hl 0 rfl) ?_
    refine lv_imul hx hb dX7_sizeOf_71 ?_
    refine lv_goto (tgt := 76) hx hb dX7_sizeOf_72 (by decide) ?_
    exact w7_sizeOf_76 C _ _ _ _ _ _ _ h P (lv_sub hl [1, 2, 3] rfl)
theorem w7_sizeOf_26 (C : zCx p s m args meth c cX7_sizeOf 4 RX7 (some .int) D ad cA A) {z : Int32 × Zs} (x1 : Int32) (x2 : Int32) (S : Zs) (H : Heap) (locs : List Loc) (ls : Array Slot) (h : f7_sizeOf_26 x1 x2 S = some z) (P : zP D zM ad cA A S s H locs) (hl : lv_has ls 4 [(0, .ref (ad 0)), (1, .int x1), (2, .int x2)]) :
    W p l e (zrm 4 97) s m args below meth c H locs 0 0 (MQ below (zQi D zM ad cA A z) args s 0 0 A) (F0 m 26 ls []) := by
  have hx := C.1
  have hb := C.2.1
  unfold f7_sizeOf_26 at h
  refine lv_iload_n hx hb dX7_sizeOf_26 rfl (lv_at hl 2 rfl) ?_
  refine lv_iconst (v := 4) hx hb dX7_sizeOf_27 (by decide) ?_
  refine z_callSb C P (As := [.int x2, .int (4 : Int32)]) (m7_isOf) cW7_317 rfl (by decide) hl.1 rfl (Nat.le_of_ble_eq_true rfl) dX7_sizeOf_28 ⟨Nat.zero_le _, Nat.zero_le _⟩ (fun H locs n28 P => ?_)
  refine z_if_eq (tgt := 40) hx hb dX7_sizeOf_31 (by decide) h (fun h => ?_) (fun h => ?_)
  · exact w7_sizeOf_40 C _ _ _ _ _ _ h P (lv_sub hl [0, 1, 2] rfl)
  · refine lv_aload_n hx hb dX7_sizeOf_34 rfl (lv_at hl 0 rfl) ?_
    refine lv_bipush (v := 14) hx hb dX7_sizeOf_35 (by decide) ?_
    obtain ⟨S37, g37, h⟩ := bd1_some h
    refine z_callVv C P (As := [.int (14 : Int32)]) (m7_began g37) cW7_323 rfl zm0 rfl (by decide) hl.1 rfl (Nat.le_of_ble_eq_true rfl) dX7_sizeOf_37 ⟨Nat.zero_le _, Nat.zero_le _⟩ (fun H locs P => ?_)
    exact w7_sizeOf_40 C _ _ _ _ _ _ h P (lv_sub hl [0, 1, 2] rfl)
theorem m7_sizeOf {l : Launch} {D : va_G} {cA : Nat → ClassId} {ad : Nat → Nat} {x1 : Int32} {x2 : Int32} {S : Zs} {z : Int32 × Zs} (h : f7_sizeOf x1 x2 S = some z) :
    zMi l yX7_sizeOf cX7_sizeOf 4 4 97 D zM ad cA S [.ref (ad 0), .int x1, .int x2] z := by
  refine z_enter (Qc := fun A => zQi D zM ad cA A z) (by decide +kernel) (Nat.le_of_ble_eq_true rfl) (fun p e s m below meth c A C P ls hl => ?_)
  have hx := C.1
  have hb := C.2.1
  have hl : lv_has ls 4 [(0, .ref (ad 0)), (1, .int x1), (2, .int x2)] := hl
  unfold f7_sizeOf at h
  refine lv_iload_n hx hb dX7_sizeOf_0 rfl (lv_at hl 2 rfl) ?_
  refine lv_iconst (v := 2) hx hb dX7_sizeOf_1 (by decide) ?_
  refine z_callSb C P (As := [.int x2, .int (2 : Int32)]) (m7_isOf) cW7_317 rfl (by decide) hl.1 rfl (Nat.le_of_ble_eq_true rfl) dX7_sizeOf_2 ⟨Nat.zero_le _, Nat.zero_le _⟩ (fun H locs n2 P => ?_)
  refine z_if_eq (tgt := 15) hx hb dX7_sizeOf_5 (by decide) h (fun h => ?_) (fun h => ?_)
  · refine lv_iload_n hx hb dX7_sizeOf_15 rfl (lv_at hl 2 rfl) ?_
    refine lv_iconst (v := 5) hx hb dX7_sizeOf_16 (by decide) ?_
    refine z_icmp_ne (tgt := 26) hx hb dX7_sizeOf_17 (by decide) h (fun h => ?_) (fun h => ?_)
    · exact w7_sizeOf_26 C _ _ _ _ _ _ h P (lv_sub hl [0, 1, 2] rfl)
    · refine lv_aload_n hx hb dX7_sizeOf_20 rfl (lv_at hl 0 rfl) ?_
      refine lv_bipush (v := 15) hx hb dX7_sizeOf_21 (by decide) ?_
      obtain ⟨S23, g23, h⟩ := bd1_some h
      refine z_callVv C P (As := [.int (15 : Int32)]) (m7_began g23) cW7_323 rfl zm0 rfl (by decide) hl.1 rfl (Nat.le_of_ble_eq_true rfl) dX7_sizeOf_23 ⟨Nat.zero_le _, Nat.zero_le _⟩ (fun H locs P => ?_)
      exact w7_sizeOf_26 C _ _ _ _ _ _ h P (lv_sub hl [0, 1, 2] rfl)
  · refine lv_aload_n hx hb dX7_sizeOf_8 rfl (lv_at hl 0 rfl) ?_
    refine lv_iload_n hx hb dX7_sizeOf_9 rfl (lv_at hl 1 rfl) ?_
    refine lv_iload_n hx hb dX7_sizeOf_10 rfl (lv_at hl 2 rfl) ?_
    obtain ⟨r11, S11, g11, h⟩ := bd2_some h
    refine z_callVi C P (As := [.int x1, .int x2]) (m7_commonSize g11) cW7_329 rfl zm0 rfl (by decide) hl.1 rfl (Nat.le_of_ble_eq_true rfl) dX7_sizeOf_11 ⟨Nat.zero_le _, Nat.zero_le _⟩ (fun H locs P => ?_)
    exact z_iret C P (Option.some.inj h) dX7_sizeOf_14
end ZVM7
