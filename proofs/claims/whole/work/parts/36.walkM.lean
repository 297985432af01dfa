section ZVM6
variable {p : Program} {l : Launch} {e : Env} {s : State} {m : MethodId} {args : Array Value} {below : List Frame} {meth : Method} {c : Code} {D : va_G} {cA : Nat → ClassId} {A : Nat → Prop} {ad : Nat → Nat}
theorem w7_note_16 (C : zCx p s m args meth c cX7_note 5 RX7 none D ad cA A) {z : Zs} {k6 : Int32 → Zs → Option Zs} (hk6 : ∀ (x1 : Int32) (S : Zs) (H : Heap) (locs : List Loc) (ls : Array Slot), k6 x1 S = some z → zP D zM ad cA A S s H locs → lv_has ls 5 [(0, .ref (ad 0)), (1, .int x1)] → W p l e (zrm 9 222) s m args below meth c H locs 0 0 (MQ below (zQv D zM ad cA A z) args s 0 0 A) (F0 m 6 ls [])) :
    ∀ (n : Nat) (x1 : Int32) (x2 : Int32) (S : Zs) (H : Heap) (locs : List Loc) (ls : Array Slot), f7_note_16 k6 n x1 x2 S = some z → zP D zM ad cA A S s H locs → lv_has ls 5 [(0, .ref (ad 0)), (1, .int x1), (2, .int x2)] → W p l e (zrm 9 222) s m args below meth c H locs 0 0 (MQ below (zQv D zM ad cA A z) args s 0 0 A) (F0 m 16 ls []) := by
  have hx := C.1
  have hb := C.2.1
  intro n
  induction n with
  | zero =>
    intro x1 x2 S H locs ls h
    cases h
  | succ n ih =>
    intro x1 x2 S H locs ls h P hl
    unfold f7_note_16 at h
    refine lv_iload_n hx hb dX7_note_16 rfl (lv_at hl 2 rfl) ?_
    refine lv_aload_n hx hb dX7_note_17 rfl (lv_at hl 0 rfl) ?_
    refine gF7_179 C P zm0 rfl dX7_note_18 ?_
    refine z_icmp_ge (tgt := 84) hx hb dX7_note_21 (by decide) h (fun h => ?_) (fun h => ?_)
    · obtain ⟨v84, ev84, h⟩ := z_nm h
      refine lv_iinc (v := v84) (lv' := [(1, .int v84), (0, .ref (ad 0)), (2, .int x2)]) hx hb dX7_note_84 hl (k := 1) rfl (by rw [ev84]; rfl) (by decide) rfl (fun ls hl => ?_)
      refine lv_goto (tgt := 6) hx hb dX7_note_87 (by decide) ?_
      exact hk6 _ _ _ _ _ h P (lv_sub hl [1, 0] rfl)
    · refine lv_aload_n hx hb dX7_note_24 rfl (lv_at hl 0 rfl) ?_
      refine lv_aload_n hx hb dX7_note_25 rfl (lv_at hl 0 rfl) ?_
      refine z_callVi C P (As := []) (m7_every) cW7_244 rfl zm0 rfl (by decide) hl.1 rfl (Nat.le_of_ble_eq_true rfl) dX7_note_26 ⟨Nat.zero_le _, Nat.zero_le _⟩ (fun H locs P => ?_)
      refine lv_iload_n hx hb dX7_note_29 rfl (lv_at hl 2 rfl) ?_
      obtain ⟨r30, g30, h⟩ := bd1_some h
      refine z_callVl C P (As := [.int (f7_every S), .int x2]) (m7_priceOf g30) cW7_205 rfl zm0 rfl (by decide) hl.1 rfl (Nat.le_of_ble_eq_true rfl) dX7_note_30 ⟨Nat.zero_le _, Nat.zero_le _⟩ (fun H locs P => ?_)
      refine lv_lstore_n (lv' := [(3, .long r30), (0, .ref (ad 0)), (1, .int x1), (2, .int x2)]) hx hb dX7_note_33 rfl hl (by decide) rfl (fun ls hl => ?_)
      refine lv_aload_n hx hb dX7_note_34 rfl (lv_at hl 1 rfl) ?_
      refine gF7_53 C P zm0 rfl dX7_note_35 ?_
      refine lv_bipush (v := 6) hx hb dX7_note_38 (by decide) ?_
      refine lv_iload_n hx hb dX7_note_40 rfl (lv_at hl 2 rfl) ?_
      refine lv_imul hx hb dX7_note_41 ?_
      refine lv_iload_n hx hb dX7_note_42 rfl (lv_at hl 3 rfl) ?_
      refine lv_iadd hx hb dX7_note_43 ?_
      refine lv_aload_n hx hb dX7_note_44 rfl (lv_at hl 1 rfl) ?_
      refine gF7_40 C P zm0 rfl dX7_note_45 ?_
      refine lv_iload_n hx hb dX7_note_48 rfl (lv_at hl 2 rfl) ?_
      refine z_lald C P zm11 dX7_note_49 h (fun h hi => ?_)
      refine lv_lload_n hx hb dX7_note_50 rfl (lv_at hl 0 rfl) ?_
      refine lv_iconst (v := 0) hx hb dX7_note_51 (by decide) ?_
      obtain ⟨r52, g52, h⟩ := bd1_some h
      refine z_callSl C P (As := [.long (S.2 11 x1.toNatClampNeg), .long r30, .int (0 : Int32)]) (m7_partOf g52) cW7_257 rfl (by decide) hl.1 rfl (Nat.le_of_ble_eq_true rfl) dX7_note_52 ⟨Nat.zero_le _, Nat.zero_le _⟩ (fun H locs P => ?_)
      refine z_last C P zm15 dX7_note_55 h (fun S55 H locs h P => ?_)
      refine lv_aload_n hx hb dX7_note_56 rfl (lv_at hl 1 rfl) ?_
      refine gF7_56 C P zm0 rfl dX7_note_57 ?_
      refine lv_bipush (v := 6) hx hb dX7_note_60 (by decide) ?_
      refine lv_iload_n hx hb dX7_note_62 rfl (lv_at hl 2 rfl) ?_
      refine lv_imul hx hb dX7_note_63 ?_
      refine lv_iload_n hx hb dX7_note_64 rfl (lv_at hl 3 rfl) ?_
      refine lv_iadd hx hb dX7_note_65 ?_
      refine lv_aload_n hx hb dX7_note_66 rfl (lv_at hl 1 rfl) ?_
      refine gF7_40 C P zm0 rfl dX7_note_67 ?_
      refine lv_iload_n hx hb dX7_note_70 rfl (lv_at hl 2 rfl) ?_
      refine z_lald C P zm11 dX7_note_71 h (fun h hi => ?_)
      refine lv_lload_n hx hb dX7_note_72 rfl (lv_at hl 0 rfl) ?_
      refine lv_iconst (v := 1) hx hb dX7_note_73 (by decide) ?_
      obtain ⟨r74, g74, h⟩ := bd1_some h
      refine z_callSl C P (As := [.long (S55.2 11 x1.toNatClampNeg), .long r30, .int (1 : Int32)]) (m7_partOf g74) cW7_257 rfl (by decide) hl.1 rfl (Nat.le_of_ble_eq_true rfl) dX7_note_74 ⟨Nat.zero_le _, Nat.zero_le _⟩ (fun H locs P => ?_)
      refine z_last C P zm16 dX7_note_77 h (fun S77 H locs h P => ?_)
      obtain ⟨v78, ev78, h⟩ := z_nm h
      refine lv_iinc (v := v78) (lv' := [(2, .int v78), (3, .long r30), (0, .ref (ad 0)), (1, .int x1)]) hx hb dX7_note_78 hl (k := 3) rfl (by rw [ev78]; rfl) (by decide) rfl (fun ls hl => ?_)
      refine lv_goto (tgt := 16) hx hb dX7_note_81 (by decide) ?_
      exact ih _ _ _ _ _ _ h P (lv_sub hl [2, 3, 0] rfl)
theorem w7_note_6 (C : zCx p s m args meth c cX7_note 5 RX7 none D ad cA A) {z : Zs} :
    ∀ (n : Nat) (x1 : Int32) (S : Zs) (H : Heap) (locs : List Loc) (ls : Array Slot), f7_note_6 n x1 S = some z → zP D zM ad cA A S s H locs → lv_has ls 5 [(0, .ref (ad 0)), (1, .int x1)] → W p l e (zrm 9 222) s m args below meth c H locs 0 0 (MQ below (zQv D zM ad cA A z) args s 0 0 A) (F0 m 6 ls []) := by
  have hx := C.1
  have hb := C.2.1
  intro n
  induction n with
  | zero =>
    intro x1 S H locs ls h
    cases h
  | succ n ih =>
    intro x1 S H locs ls h P hl
    unfold f7_note_6 at h
    refine lv_iload_n hx hb dX7_note_6 rfl (lv_at hl 1 rfl) ?_
    refine lv_aload_n hx hb dX7_note_7 rfl (lv_at hl 0 rfl) ?_
    refine gF7_176 C P zm0 rfl dX7_note_8 ?_
    refine z_icmp_ge (tgt := 90) hx hb dX7_note_11 (by decide) h (fun h => ?_) (fun h => ?_)
    · refine lv_aload_n hx hb dX7_note_90 rfl (lv_at hl 0 rfl) ?_
      refine lv_iconst (v := 1) hx hb dX7_note_91 (by decide) ?_
      refine pF7_182 C P zm0 rfl dX7_note_92 (by decide) (by decide) h (fun S92 H locs h P => ?_)
      exact z_vret C P (Option.some.inj h) dX7_note_95
    · refine lv_iconst (v := 0) hx hb dX7_note_14 (by decide) ?_
      refine lv_istore_n (lv' := [(2, .int (0 : Int32)), (0, .ref (ad 0)), (1, .int x1)]) hx hb dX7_note_15 rfl hl (by decide) rfl (fun ls hl => ?_)
      exact w7_note_16 C ih _ _ _ _ _ _ _ h P (lv_sub hl [1, 2, 0] rfl)
theorem m7_note {l : Launch} {D : va_G} {cA : Nat → ClassId} {ad : Nat → Nat} {S : Zs} {z : Zs} (h : f7_note S = some z) :
    zMv l yX7_note cX7_note 5 9 222 D zM ad cA S [.ref (ad 0)] z := by
  refine z_enter (Qc := fun A => zQv D zM ad cA A z) (by decide +kernel) (Nat.le_of_ble_eq_true rfl) (fun p e s m below meth c A C P ls hl => ?_)
  have hx := C.1
  have hb := C.2.1
  have hl : lv_has ls 5 [(0, .ref (ad 0))] := hl
  unfold f7_note at h
  refine lv_aload_n hx hb dX7_note_0 rfl (lv_at hl 0 rfl) ?_
  obtain ⟨S1, g1, h⟩ := bd1_some h
  refine z_callVv C P (As := []) (m7_restAll g1) cW7_254 rfl zm0 rfl (by decide) hl.1 rfl (Nat.le_of_ble_eq_true rfl) dX7_note_1 ⟨Nat.zero_le _, Nat.zero_le _⟩ (fun H locs P => ?_)
  refine lv_iconst (v := 0) hx hb dX7_note_4 (by decide) ?_
  refine lv_istore_n (lv' := [(1, .int (0 : Int32)), (0, .ref (ad 0))]) hx hb dX7_note_5 rfl hl (by decide) rfl (fun ls hl => ?_)
  exact w7_note_6 C _ _ _ _ _ _ h P (lv_sub hl [1, 0] rfl)
theorem w7_learn_78 (C : zCx p s m args meth c cX7_learn 5 RX7 (some .long) D ad cA A) {z : Int64 × Zs} (x1 : Int32) (x3 : Int32) (t0 : Int32) (S : Zs) (H : Heap) (locs : List Loc) (ls : Array Slot) (h : f7_learn_78 x1 x3 t0 S = some z) (P : zP D zM ad cA A S s H locs) (hl : lv_has ls 5 [(0, .ref (ad 0)), (1, .int x1), (3, .int x3)]) :
    W p l e (zrm 10 246) s m args below meth c H locs 0 0 (MQ below (zQl D zM ad cA A z) args s 0 0 A) (F0 m 78 ls [.int t0]) := by
  have hx := C.1
  have hb := C.2.1
  unfold f7_learn_78 at h
  refine lv_istore (lv' := [(4, .int t0), (0, .ref (ad 0)), (1, .int x1), (3, .int x3)]) hx hb dX7_learn_78 hl (by decide) rfl (fun ls hl => ?_)
  refine lv_aload_n hx hb dX7_learn_80 rfl (lv_at hl 1 rfl) ?_
  refine gF7_25 C P zm0 rfl dX7_learn_81 ?_
  refine lv_bipush (v := 6) hx hb dX7_learn_84 (by decide) ?_
  refine lv_iload_n hx hb dX7_learn_86 rfl (lv_at hl 2 rfl) ?_
  refine lv_imul hx hb dX7_learn_87 ?_
  refine lv_iload_n hx hb dX7_learn_88 rfl (lv_at hl 3 rfl) ?_
  refine lv_iadd hx hb dX7_learn_89 ?_
  refine lv_dup2_11 hx hb dX7_learn_90 rfl rfl ?_
  refine z_iald C P zm6 dX7_learn_91 h (fun h hi => ?_)
  refine lv_iload hx hb dX7_learn_92 (lv_at hl 0 rfl) ?_
  refine lv_isub hx hb dX7_learn_94 ?_
  refine z_iast C P zm6 dX7_learn_95 h (fun S95 H locs h P => ?_)
  refine lv_aload_n hx hb dX7_learn_96 rfl (lv_at hl 1 rfl) ?_
  refine lv_iconst (v := 0) hx hb dX7_learn_97 (by decide) ?_
  refine pF7_186 C P zm0 rfl dX7_learn_98 (by decide) (by decide) h (fun S98 H locs h P => ?_)
  refine lv_iload hx hb dX7_learn_101 (lv_at hl 0 rfl) ?_
  refine lv_i2l hx hb dX7_learn_103 rfl ?_
  exact z_lret C P (Option.some.inj h) dX7_learn_104
theorem m7_learn {l : Launch} {D : va_G} {cA : Nat → ClassId} {ad : Nat → Nat} {x1 : Int32} {x2 : Int32} {x3 : Int32} {S : Zs} {z : Int64 × Zs} (h : f7_learn x1 x2 x3 S = some z) :
    zMl l yX7_learn cX7_learn 5 10 246 D zM ad cA S [.ref (ad 0), .int x1, .int x2, .int x3] z := by
  refine z_enter (Qc := fun A => zQl D zM ad cA A z) (by decide +kernel) (Nat.le_of_ble_eq_true rfl) (fun p e s m below meth c A C P ls hl => ?_)
  have hx := C.1
  have hb := C.2.1
  have hl : lv_has ls 5 [(0, .ref (ad 0)), (1, .int x1), (2, .int x2), (3, .int x3)] := hl
  unfold f7_learn at h
  refine lv_aload_n hx hb dX7_learn_0 rfl (lv_at hl 0 rfl) ?_
  refine lv_iconst (v := 0) hx hb dX7_learn_1 (by decide) ?_
  refine pF7_62 C P zm0 rfl dX7_learn_2 h (fun S2 H locs h P => ?_)
  refine lv_aload_n hx hb dX7_learn_5 rfl (lv_at hl 0 rfl) ?_
  refine lv_iload_n hx hb dX7_learn_6 rfl (lv_at hl 1 rfl) ?_
  refine z_callVb C P (As := [.int x1]) (m7_isLand) cW7_189 rfl zm0 rfl (by decide) hl.1 rfl (Nat.le_of_ble_eq_true rfl) dX7_learn_7 ⟨Nat.zero_le _, Nat.zero_le _⟩ (fun H locs n7 P => ?_)
  refine z_if_eq (tgt := 34) hx hb dX7_learn_10 (by decide) h (fun h => ?_) (fun h => ?_)
  · refine lv_ldc2 (v := (-9000000000000000001)) hx hb C.2.2.2.1 (C.2.2.2.2.1 _ kK7_83) dX7_learn_34 ?_
    exact z_lret C P (Option.some.inj h) dX7_learn_37
  · refine lv_aload_n hx hb dX7_learn_13 rfl (lv_at hl 0 rfl) ?_
    refine lv_iload_n hx hb dX7_learn_14 rfl (lv_at hl 2 rfl) ?_
    refine z_callVb C P (As := [.int x2]) (m7_isLand) cW7_189 rfl zm0 rfl (by decide) hl.1 rfl (Nat.le_of_ble_eq_true rfl) dX7_learn_15 ⟨Nat.zero_le _, Nat.zero_le _⟩ (fun H locs n15 P => ?_)
    refine z_if_eq (tgt := 34) hx hb dX7_learn_18 (by decide) h (fun h => ?_) (fun h => ?_)
    · refine lv_ldc2 (v := (-9000000000000000001)) hx hb C.2.2.2.1 (C.2.2.2.2.1 _ kK7_83) dX7_learn_34 ?_
      exact z_lret C P (Option.some.inj h) dX7_learn_37
    · refine lv_iload_n hx hb dX7_learn_21 rfl (lv_at hl 1 rfl) ?_
      refine lv_iload_n hx hb dX7_learn_22 rfl (lv_at hl 2 rfl) ?_
      refine z_icmp_eq (tgt := 34) hx hb dX7_learn_23 (by decide) h (fun h => ?_) (fun h => ?_)
      · refine lv_ldc2 (v := (-9000000000000000001)) hx hb C.2.2.2.1 (C.2.2.2.2.1 _ kK7_83) dX7_learn_34 ?_
        exact z_lret C P (Option.some.inj h) dX7_learn_37
      · refine lv_aload_n hx hb dX7_learn_26 rfl (lv_at hl 0 rfl) ?_
        refine lv_iload_n hx hb dX7_learn_27 rfl (lv_at hl 3 rfl) ?_
        refine z_callVb C P (As := [.int x3]) (m7_isGood) cW7_192 rfl zm0 rfl (by decide) hl.1 rfl (Nat.le_of_ble_eq_true rfl) dX7_learn_28 ⟨Nat.zero_le _, Nat.zero_le _⟩ (fun H locs n28 P => ?_)
        refine z_if_ne (tgt := 38) hx hb dX7_learn_31 (by decide) h (fun h => ?_) (fun h => ?_)
        · refine lv_aload_n hx hb dX7_learn_38 rfl (lv_at hl 0 rfl) ?_
          obtain ⟨S39, g39, h⟩ := bd1_some h
          refine z_callVv C P (As := []) (m7_note g39) cW7_295 rfl zm0 rfl (by decide) hl.1 rfl (Nat.le_of_ble_eq_true rfl) dX7_learn_39 ⟨Nat.zero_le _, Nat.zero_le _⟩ (fun H locs P => ?_)
          refine lv_aload_n hx hb dX7_learn_42 rfl (lv_at hl 0 rfl) ?_
          refine gF7_25 C P zm0 rfl dX7_learn_43 ?_
          refine lv_bipush (v := 6) hx hb dX7_learn_46 (by decide) ?_
          refine lv_iload_n hx hb dX7_learn_48 rfl (lv_at hl 1 rfl) ?_
          refine lv_imul hx hb dX7_learn_49 ?_
          refine lv_iload_n hx hb dX7_learn_50 rfl (lv_at hl 3 rfl) ?_
          refine lv_iadd hx hb dX7_learn_51 ?_
          refine z_iald C P zm6 dX7_learn_52 h (fun h hi => ?_)
          refine lv_aload_n hx hb dX7_learn_53 rfl (lv_at hl 0 rfl) ?_
          refine gF7_25 C P zm0 rfl dX7_learn_54 ?_
          refine lv_bipush (v := 6) hx hb dX7_learn_57 (by decide) ?_
          refine lv_iload_n hx hb dX7_learn_59 rfl (lv_at hl 2 rfl) ?_
          refine lv_imul hx hb dX7_learn_60 ?_
          refine lv_iload_n hx hb dX7_learn_61 rfl (lv_at hl 3 rfl) ?_
          refine lv_iadd hx hb dX7_learn_62 ?_
          refine z_iald C P zm6 dX7_learn_63 h (fun h hi => ?_)
          refine lv_isub hx hb dX7_learn_64 ?_
          refine z_topi h (fun v65 h => ?_)
          refine lv_istore (lv' := [(4, .int v65), (0, .ref (ad 0)), (1, .int x1), (2, .int x2), (3, .int x3)]) hx hb dX7_learn_65 hl (by decide) rfl (fun ls hl => ?_)
          refine lv_iload hx hb dX7_learn_67 (lv_at hl 0 rfl) ?_
          refine z_if_ge (tgt := 76) hx hb dX7_learn_69 (by decide) h (fun h => ?_) (fun h => ?_)
          · refine lv_iload hx hb dX7_learn_76 (lv_at hl 0 rfl) ?_
            exact w7_learn_78 C _ _ _ _ _ _ _ h P (lv_sub hl [1, 2, 4] rfl)
          · refine lv_iconst (v := 0) hx hb dX7_learn_72 (by decide) ?_
            refine lv_goto (tgt := 78) hx hb dX7_learn_73 (by decide) ?_
            exact w7_learn_78 C _ _ _ _ _ _ _ h P (lv_sub hl [1, 2, 4] rfl)
        · refine lv_ldc2 (v := (-9000000000000000001)) hx hb C.2.2.2.1 (C.2.2.2.2.1 _ kK7_83) dX7_learn_34 ?_
          exact z_lret C P (Option.some.inj h) dX7_learn_37
theorem w7_on_149 (C : zCx p s m args meth c cX7_on 11 RX7 (some .long) D ad cA A) {z : Int64 × Zs} {k39 : Int32 → Int32 → Int32 → Int32 → Zs → Option (Int64 × Zs)} (hk39 : ∀ (x1 : Int32) (x2 : Int32) (x3 : Int32) (x4 : Int32) (S : Zs) (H : Heap) (locs : List Loc) (ls : Array Slot), k39 x1 x2 x3 x4 S = some z → zP D zM ad cA A S s H locs → lv_has ls 11 [(0, .ref (ad 0)), (1, .int x1), (2, .int x2), (3, .int x3), (4, .int x4)] → W p l e (zrm 9 222) s m args below meth c H locs 0 0 (MQ below (zQl D zM ad cA A z) args s 0 0 A) (F0 m 39 ls [])) (x1 : Int32) (x2 : Int32) (x4 : Int32) (t0 : Int32) (S : Zs) (H : Heap) (locs : List Loc) (ls : Array Slot) (h : f7_on_149 k39 x1 x2 x4 t0 S = some z) (P : zP D zM ad cA A S s H locs) (hl : lv_has ls 11 [(0, .ref (ad 0)), (1, .int x1), (2, .int x2), (4, .int x4)]) :
    W p l e (zrm 9 222) s m args below meth c H locs 0 0 (MQ below (zQl D zM ad cA A z) args s 0 0 A) (F0 m 149 ls [.int t0]) := by
  have hx := C.1
  have hb := C.2.1
  unfold f7_on_149 at h
  refine lv_istore_n (lv' := [(3, .int t0), (0, .ref (ad 0)), (1, .int x1), (2, .int x2), (4, .int x4)]) hx hb dX7_on_149 rfl hl (by decide) rfl (fun ls hl => ?_)
  obtain ⟨v150, ev150, h⟩ := z_nm h
  refine lv_iinc (v := v150) (lv' := [(4, .int v150), (3, .int t0), (0, .ref (ad 0)), (1, .int x1), (2, .int x2)]) hx hb dX7_on_150 hl (k := 4) rfl (by rw [ev150]; rfl) (by decide) rfl (fun ls hl => ?_)
  refine lv_goto (tgt := 39) hx hb dX7_on_153 (by decide) ?_
  exact hk39 _ _ _ _ _ _ _ _ h P (lv_sub hl [2, 3, 4, 1, 0] rfl)
theorem w7_on_144 (C : zCx p s m args meth c cX7_on 11 RX7 (some .long) D ad cA A) {z : Int64 × Zs} {k39 : Int32 → Int32 → Int32 → Int32 → Zs → Option (Int64 × Zs)} (hk39 : ∀ (x1 : Int32) (x2 : Int32) (x3 : Int32) (x4 : Int32) (S : Zs) (H : Heap) (locs : List Loc) (ls : Array Slot), k39 x1 x2 x3 x4 S = some z → zP D zM ad cA A S s H locs → lv_has ls 11 [(0, .ref (ad 0)), (1, .int x1), (2, .int x2), (3, .int x3), (4, .int x4)] → W p l e (zrm 9 222) s m args below meth c H locs 0 0 (MQ below (zQl D zM ad cA A z) args s 0 0 A) (F0 m 39 ls [])) (x1 : Int32) (x2 : Int32) (x4 : Int32) (S : Zs) (H : Heap) (locs : List Loc) (ls : Array Slot) (h : f7_on_144 k39 x1 x2 x4 S = some z) (P : zP D zM ad cA A S s H locs) (hl : lv_has ls 11 [(0, .ref (ad 0)), (1, .int x1), (2, .int x2), (4, .int x4)]) :
    W p l e (zrm 9 222) s m args below meth c H locs 0 0 (MQ below (zQl D zM ad cA A z) args s 0 0 A) (F0 m 144 ls []) := by
  have hx := C.1
  have hb := C.2.1
  unfold f7_on_144 at h
  refine lv_iconst (v := 1) hx hb dX7_on_144 (by decide) ?_
  refine lv_goto (tgt := 149) hx hb dX7_on_145 (by decide) ?_
  exact w7_on_149 C hk39 _ _ _ _ _ _ _ _ h P (lv_sub hl [0, 1, 2, 3] rfl)
theorem w7_on_131 (C : zCx p s m args meth c cX7_on 11 RX7 (some .long) D ad cA A) {z : Int64 × Zs} {k39 : Int32 → Int32 → Int32 → Int32 → Zs → Option (Int64 × Zs)} (hk39 : ∀ (x1 : Int32) (x2 : Int32) (x3 : Int32) (x4 : Int32) (S : Zs) (H : Heap) (locs : List Loc) (ls : Array Slot), k39 x1 x2 x3 x4 S = some z → zP D zM ad cA A S s H locs → lv_has ls 11 [(0, .ref (ad 0)), (1, .int x1), (2, .int x2), (3, .int x3), (4, .int x4)] → W p l e (zrm 9 222) s m args below meth c H locs 0 0 (MQ below (zQl D zM ad cA A z) args s 0 0 A) (F0 m 39 ls [])) (x1 : Int32) (x3 : Int32) (x4 : Int32) (x7 : Int64) (x9 : Int64) (t0 : Int32) (S : Zs) (H : Heap) (locs : List Loc) (ls : Array Slot) (h : f7_on_131 k39 x1 x3 x4 x7 x9 t0 S = some z) (P : zP D zM ad cA A S s H locs) (hl : lv_has ls 11 [(0, .ref (ad 0)), (1, .int x1), (3, .int x3), (4, .int x4), (7, .long x7), (9, .long x9)]) :
    W p l e (zrm 9 222) s m args below meth c H locs 0 0 (MQ below (zQl D zM ad cA A z) args s 0 0 A) (F0 m 131 ls [.int t0]) := by
  have hx := C.1
  have hb := C.2.1
  unfold f7_on_131 at h
  refine lv_istore_n (lv' := [(2, .int t0), (0, .ref (ad 0)), (1, .int x1), (3, .int x3), (4, .int x4), (7, .long x7), (9, .long x9)]) hx hb dX7_on_131 rfl hl (by decide) rfl (fun ls hl => ?_)
  refine lv_iload_n hx hb dX7_on_132 rfl (lv_at hl 3 rfl) ?_
  refine z_if_ne (tgt := 144) hx hb dX7_on_133 (by decide) h (fun h => ?_) (fun h => ?_)
  · exact w7_on_144 C hk39 _ _ _ _ _ _ _ h P (lv_sub hl [1, 2, 0, 4] rfl)
  · refine lv_lload hx hb dX7_on_136 (lv_at hl 5 rfl) ?_
    refine lv_lload hx hb dX7_on_138 (lv_at hl 6 rfl) ?_
    refine z_lcmp_ge (tgt := 148) hx hb dX7_on_140 dX7_on_141 (by decide) h (fun h => ?_) (fun h => ?_)
    · refine lv_iconst (v := 0) hx hb dX7_on_148 (by decide) ?_
      exact w7_on_149 C hk39 _ _ _ _ _ _ _ _ h P (lv_sub hl [1, 2, 0, 4] rfl)
    · exact w7_on_144 C hk39 _ _ _ _ _ _ _ h P (lv_sub hl [1, 2, 0, 4] rfl)
theorem w7_on_126 (C : zCx p s m args meth c cX7_on 11 RX7 (some .long) D ad cA A) {z : Int64 × Zs} {k39 : Int32 → Int32 → Int32 → Int32 → Zs → Option (Int64 × Zs)} (hk39 : ∀ (x1 : Int32) (x2 : Int32) (x3 : Int32) (x4 : Int32) (S : Zs) (H : Heap) (locs : List Loc) (ls : Array Slot), k39 x1 x2 x3 x4 S = some z → zP D zM ad cA A S s H locs → lv_has ls 11 [(0, .ref (ad 0)), (1, .int x1), (2, .int x2), (3, .int x3), (4, .int x4)] → W p l e (zrm 9 222) s m args below meth c H locs 0 0 (MQ below (zQl D zM ad cA A z) args s 0 0 A) (F0 m 39 ls [])) (x1 : Int32) (x3 : Int32) (x4 : Int32) (x7 : Int64) (x9 : Int64) (S : Zs) (H : Heap) (locs : List Loc) (ls : Array Slot) (h : f7_on_126 k39 x1 x3 x4 x7 x9 S = some z) (P : zP D zM ad cA A S s H locs) (hl : lv_has ls 11 [(0, .ref (ad 0)), (1, .int x1), (3, .int x3), (4, .int x4), (7, .long x7), (9, .long x9)]) :
    W p l e (zrm 9 222) s m args below meth c H locs 0 0 (MQ below (zQl D zM ad cA A z) args s 0 0 A) (F0 m 126 ls []) := by
  have hx := C.1
  have hb := C.2.1
  unfold f7_on_126 at h
  refine lv_iconst (v := 1) hx hb dX7_on_126 (by decide) ?_
  refine lv_goto (tgt := 131) hx hb dX7_on_127 (by decide) ?_
  exact w7_on_131 C hk39 _ _ _ _ _ _ _ _ _ _ h P (lv_sub hl [0, 1, 2, 3, 4, 5] rfl)
theorem w7_on_39 (C : zCx p s m args meth c cX7_on 11 RX7 (some .long) D ad cA A) {z : Int64 × Zs} :
    ∀ (n : Nat) (x1 : Int32) (x2 : Int32) (x3 : Int32) (x4 : Int32) (S : Zs) (H : Heap) (locs : List Loc) (ls : Array Slot), f7_on_39 n x1 x2 x3 x4 S = some z → zP D zM ad cA A S s H locs → lv_has ls 11 [(0, .ref (ad 0)), (1, .int x1), (2, .int x2), (3, .int x3), (4, .int x4)] → W p l e (zrm 9 222) s m args below meth c H locs 0 0 (MQ below (zQl D zM ad cA A z) args s 0 0 A) (F0 m 39 ls []) := by
  have hx := C.1
  have hb := C.2.1
  intro n
  induction n with
  | zero =>
    intro x1 x2 x3 x4 S H locs ls h
    cases h
  | succ n ih =>
    intro x1 x2 x3 x4 S H locs ls h P hl
    unfold f7_on_39 at h
    refine lv_iload hx hb dX7_on_39 (lv_at hl 4 rfl) ?_
    refine lv_aload_n hx hb dX7_on_41 rfl (lv_at hl 0 rfl) ?_
    refine gF7_179 C P zm0 rfl dX7_on_42 ?_
    refine z_icmp_ge (tgt := 156) hx hb dX7_on_45 (by decide) h (fun h => ?_) (fun h => ?_)
    · refine lv_iload_n hx hb dX7_on_156 rfl (lv_at hl 2 rfl) ?_
      refine z_if_eq (tgt := 174) hx hb dX7_on_157 (by decide) h (fun h => ?_) (fun h => ?_)
      · refine lv_iload_n hx hb dX7_on_174 rfl (lv_at hl 3 rfl) ?_
        refine z_if_eq (tgt := 184) hx hb dX7_on_175 (by decide) h (fun h => ?_) (fun h => ?_)
        · refine lv_lconst (v := 0) hx hb dX7_on_184 (by decide) ?_
          exact z_lret C P (Option.some.inj h) dX7_on_185
        · refine lv_ldc2 (v := (-1)) hx hb C.2.2.2.1 (C.2.2.2.2.1 _ kK7_195) dX7_on_178 ?_
          refine lv_goto (tgt := 185) hx hb dX7_on_181 (by decide) ?_
          exact z_lret C P (Option.some.inj h) dX7_on_185
      · refine lv_iload_n hx hb dX7_on_160 rfl (lv_at hl 3 rfl) ?_
        refine z_if_eq (tgt := 170) hx hb dX7_on_161 (by decide) h (fun h => ?_) (fun h => ?_)
        · refine lv_lconst (v := 1) hx hb dX7_on_170 (by decide) ?_
          refine lv_goto (tgt := 185) hx hb dX7_on_171 (by decide) ?_
          exact z_lret C P (Option.some.inj h) dX7_on_185
        · refine lv_ldc2 (v := 2) hx hb C.2.2.2.1 (C.2.2.2.2.1 _ kK7_81) dX7_on_164 ?_
          refine lv_goto (tgt := 185) hx hb dX7_on_167 (by decide) ?_
          exact z_lret C P (Option.some.inj h) dX7_on_185
    · refine lv_aload_n hx hb dX7_on_48 rfl (lv_at hl 0 rfl) ?_
      refine lv_aload_n hx hb dX7_on_49 rfl (lv_at hl 0 rfl) ?_
      refine z_callVi C P (As := []) (m7_every) cW7_244 rfl zm0 rfl (by decide) hl.1 rfl (Nat.le_of_ble_eq_true rfl) dX7_on_50 ⟨Nat.zero_le _, Nat.zero_le _⟩ (fun H locs P => ?_)
      refine lv_iload hx hb dX7_on_53 (lv_at hl 4 rfl) ?_
      obtain ⟨r55, g55, h⟩ := bd1_some h
      refine z_callVl C P (As := [.int (f7_every S), .int x4]) (m7_priceOf g55) cW7_205 rfl zm0 rfl (by decide) hl.1 rfl (Nat.le_of_ble_eq_true rfl) dX7_on_55 ⟨Nat.zero_le _, Nat.zero_le _⟩ (fun H locs P => ?_)
      refine lv_lstore (lv' := [(5, .long r55), (0, .ref (ad 0)), (1, .int x1), (2, .int x2), (3, .int x3), (4, .int x4)]) hx hb dX7_on_58 hl (by decide) rfl (fun ls hl => ?_)
      refine lv_aload_n hx hb dX7_on_60 rfl (lv_at hl 1 rfl) ?_
      refine gF7_40 C P zm0 rfl dX7_on_61 ?_
      refine lv_iload_n hx hb dX7_on_64 rfl (lv_at hl 2 rfl) ?_
      refine z_lald C P zm11 dX7_on_65 h (fun h hi => ?_)
      refine lv_lload hx hb dX7_on_66 (lv_at hl 0 rfl) ?_
      refine lv_iconst (v := 0) hx hb dX7_on_68 (by decide) ?_
      obtain ⟨r69, g69, h⟩ := bd1_some h
      refine z_callSl C P (As := [.long (S.2 11 x1.toNatClampNeg), .long r55, .int (0 : Int32)]) (m7_partOf g69) cW7_257 rfl (by decide) hl.1 rfl (Nat.le_of_ble_eq_true rfl) dX7_on_69 ⟨Nat.zero_le _, Nat.zero_le _⟩ (fun H locs P => ?_)
      refine lv_aload_n hx hb dX7_on_72 rfl (lv_at hl 1 rfl) ?_
      refine gF7_56 C P zm0 rfl dX7_on_73 ?_
      refine lv_bipush (v := 6) hx hb dX7_on_76 (by decide) ?_
      refine lv_iload_n hx hb dX7_on_78 rfl (lv_at hl 2 rfl) ?_
      refine lv_imul hx hb dX7_on_79 ?_
      refine lv_iload hx hb dX7_on_80 (lv_at hl 5 rfl) ?_
      refine lv_iadd hx hb dX7_on_82 ?_
      refine z_lald C P zm16 dX7_on_83 h (fun h hi => ?_)
      refine lv_lmul hx hb dX7_on_84 ?_
      refine z_topl h (fun v85 h => ?_)
      refine lv_lstore (lv' := [(7, .long v85), (5, .long r55), (0, .ref (ad 0)), (1, .int x1), (2, .int x2), (3, .int x3), (4, .int x4)]) hx hb dX7_on_85 hl (by decide) rfl (fun ls hl => ?_)
      refine lv_aload_n hx hb dX7_on_87 rfl (lv_at hl 2 rfl) ?_
      refine gF7_53 C P zm0 rfl dX7_on_88 ?_
      refine lv_bipush (v := 6) hx hb dX7_on_91 (by decide) ?_
      refine lv_iload_n hx hb dX7_on_93 rfl (lv_at hl 3 rfl) ?_
      refine lv_imul hx hb dX7_on_94 ?_
      refine lv_iload hx hb dX7_on_95 (lv_at hl 6 rfl) ?_
      refine lv_iadd hx hb dX7_on_97 ?_
      refine z_lald C P zm15 dX7_on_98 h (fun h hi => ?_)
      refine lv_aload_n hx hb dX7_on_99 rfl (lv_at hl 2 rfl) ?_
      refine gF7_40 C P zm0 rfl dX7_on_100 ?_
      refine lv_iload_n hx hb dX7_on_103 rfl (lv_at hl 3 rfl) ?_
      refine z_lald C P zm11 dX7_on_104 h (fun h hi => ?_)
      refine lv_lload hx hb dX7_on_105 (lv_at hl 1 rfl) ?_
      refine lv_iconst (v := 1) hx hb dX7_on_107 (by decide) ?_
      obtain ⟨r108, g108, h⟩ := bd1_some h
      refine z_callSl C P (As := [.long (S.2 11 x1.toNatClampNeg), .long r55, .int (1 : Int32)]) (m7_partOf g108) cW7_257 rfl (by decide) hl.1 rfl (Nat.le_of_ble_eq_true rfl) dX7_on_108 ⟨Nat.zero_le _, Nat.zero_le _⟩ (fun H locs P => ?_)
      refine lv_lmul hx hb dX7_on_111 ?_
      refine z_topl h (fun v112 h => ?_)
      refine lv_lstore (lv' := [(9, .long v112), (7, .long v85), (5, .long r55), (0, .ref (ad 0)), (1, .int x1), (2, .int x2), (3, .int x3), (4, .int x4)]) hx hb dX7_on_112 hl (by decide) rfl (fun ls hl => ?_)
      refine lv_iload_n hx hb dX7_on_114 rfl (lv_at hl 5 rfl) ?_
      refine z_if_ne (tgt := 126) hx hb dX7_on_115 (by decide) h (fun h => ?_) (fun h => ?_)
      · exact w7_on_126 C ih _ _ _ _ _ _ _ _ _ h P (lv_sub hl [3, 4, 6, 7, 1, 0] rfl)
      · refine lv_lload hx hb dX7_on_118 (lv_at hl 1 rfl) ?_
        refine lv_lload hx hb dX7_on_120 (lv_at hl 0 rfl) ?_
        refine z_lcmp_le (tgt := 130) hx hb dX7_on_122 dX7_on_123 (by decide) h (fun h => ?_) (fun h => ?_)
        · refine lv_iconst (v := 0) hx hb dX7_on_130 (by decide) ?_
          exact w7_on_131 C ih _ _ _ _ _ _ _ _ _ _ h P (lv_sub hl [3, 4, 6, 7, 1, 0] rfl)
        · exact w7_on_126 C ih _ _ _ _ _ _ _ _ _ h P (lv_sub hl [3, 4, 6, 7, 1, 0] rfl)
theorem m7_on {l : Launch} {D : va_G} {cA : Nat → ClassId} {ad : Nat → Nat} {x1 : Int32} {S : Zs} {z : Int64 × Zs} (h : f7_on x1 S = some z) :
    zMl l yX7_on cX7_on 11 9 222 D zM ad cA S [.ref (ad 0), .int x1] z := by
  refine z_enter (Qc := fun A => zQl D zM ad cA A z) (by decide +kernel) (Nat.le_of_ble_eq_true rfl) (fun p e s m below meth c A C P ls hl => ?_)
  have hx := C.1
  have hb := C.2.1
  have hl : lv_has ls 11 [(0, .ref (ad 0)), (1, .int x1)] := hl
  unfold f7_on at h
  refine lv_aload_n hx hb dX7_on_0 rfl (lv_at hl 0 rfl) ?_
  refine lv_iconst (v := 0) hx hb dX7_on_1 (by decide) ?_
  refine pF7_62 C P zm0 rfl dX7_on_2 h (fun S2 H locs h P => ?_)
  refine lv_aload_n hx hb dX7_on_5 rfl (lv_at hl 0 rfl) ?_
  refine lv_iload_n hx hb dX7_on_6 rfl (lv_at hl 1 rfl) ?_
  refine z_callVb C P (As := [.int x1]) (m7_isLand) cW7_189 rfl zm0 rfl (by decide) hl.1 rfl (Nat.le_of_ble_eq_true rfl) dX7_on_7 ⟨Nat.zero_le _, Nat.zero_le _⟩ (fun H locs n7 P => ?_)
  refine z_if_ne (tgt := 17) hx hb dX7_on_10 (by decide) h (fun h => ?_) (fun h => ?_)
  · refine lv_aload_n hx hb dX7_on_17 rfl (lv_at hl 0 rfl) ?_
    refine gF7_182 C P zm0 rfl dX7_on_18 ?_
    refine z_if_ne (tgt := 28) hx hb dX7_on_21 (by decide) h (fun h => ?_) (fun h => ?_)
    · refine lv_aload_n hx hb dX7_on_28 rfl (lv_at hl 0 rfl) ?_
      obtain ⟨S29, g29, h⟩ := bd1_some h
      refine z_callVv C P (As := []) (m7_restAll g29) cW7_254 rfl zm0 rfl (by decide) hl.1 rfl (Nat.le_of_ble_eq_true rfl) dX7_on_29 ⟨Nat.zero_le _, Nat.zero_le _⟩ (fun H locs P => ?_)
      refine lv_iconst (v := 0) hx hb dX7_on_32 (by decide) ?_
      refine lv_istore_n (lv' := [(2, .int (0 : Int32)), (0, .ref (ad 0)), (1, .int x1)]) hx hb dX7_on_33 rfl hl (by decide) rfl (fun ls hl => ?_)
      refine lv_iconst (v := 0) hx hb dX7_on_34 (by decide) ?_
      refine lv_istore_n (lv' := [(3, .int (0 : Int32)), (2, .int (0 : Int32)), (0, .ref (ad 0)), (1, .int x1)]) hx hb dX7_on_35 rfl hl (by decide) rfl (fun ls hl => ?_)
      refine lv_iconst (v := 0) hx hb dX7_on_36 (by decide) ?_
      refine lv_istore (lv' := [(4, .int (0 : Int32)), (3, .int (0 : Int32)), (2, .int (0 : Int32)), (0, .ref (ad 0)), (1, .int x1)]) hx hb dX7_on_37 hl (by decide) rfl (fun ls hl => ?_)
      exact w7_on_39 C _ _ _ _ _ _ _ _ _ h P (lv_sub hl [3, 4, 2, 1, 0] rfl)
    · refine lv_ldc2 (v := (-9000000000000000002)) hx hb C.2.2.2.1 (C.2.2.2.2.1 _ kK7_261) dX7_on_24 ?_
      exact z_lret C P (Option.some.inj h) dX7_on_27
  · refine lv_ldc2 (v := (-9000000000000000001)) hx hb C.2.2.2.1 (C.2.2.2.2.1 _ kK7_83) dX7_on_13 ?_
    exact z_lret C P (Option.some.inj h) dX7_on_16
theorem w7_isOther_66 (C : zCx p s m args meth c cX7_isOther 7 RX7 (some .boolean) D ad cA A) {z : Int32 × Zs} (x1 : Int32) (x2 : Int32) (x5 : Int32) (t0 : Int32) (S : Zs) (H : Heap) (locs : List Loc) (ls : Array Slot) (h : f7_isOther_66 x1 x2 x5 t0 S = some z) (P : zP D zM ad cA A S s H locs) (hl : lv_has ls 7 [(0, .ref (ad 0)), (1, .int x1), (2, .int x2), (5, .int x5)]) :
    W p l e (zrm 8 201) s m args below meth c H locs 0 0 (MQ below (zQb D zM ad cA A z) args s 0 0 A) (F0 m 66 ls [.int t0]) := by
  have hx := C.1
  have hb := C.2.1
  unfold f7_isOther_66 at h
  refine lv_istore (lv' := [(6, .int t0), (0, .ref (ad 0)), (1, .int x1), (2, .int x2), (5, .int x5)]) hx hb dX7_isOther_66 hl (by decide) rfl (fun ls hl => ?_)
  refine lv_aload_n hx hb dX7_isOther_68 rfl (lv_at hl 1 rfl) ?_
  refine gF7_25 C P zm0 rfl dX7_isOther_69 ?_
  refine lv_bipush (v := 6) hx hb dX7_isOther_72 (by decide) ?_
  refine lv_iload_n hx hb dX7_isOther_74 rfl (lv_at hl 2 rfl) ?_
  refine lv_imul hx hb dX7_isOther_75 ?_
  refine lv_iload_n hx hb dX7_isOther_76 rfl (lv_at hl 3 rfl) ?_
  refine lv_iadd hx hb dX7_isOther_77 ?_
  refine lv_iload hx hb dX7_isOther_78 (lv_at hl 4 rfl) ?_
  refine z_iast C P zm6 dX7_isOther_80 h (fun S80 H locs h P => ?_)
  refine lv_iload hx hb dX7_isOther_81 (lv_at hl 0 rfl) ?_
  exact z_zretC C P h (fun h => (Option.some.inj h)) dX7_isOther_83
theorem m7_isOther {l : Launch} {D : va_G} {cA : Nat → ClassId} {ad : Nat → Nat} {x1 : Int32} {x2 : Int32} {x3 : Int32} {x4 : Int32} {S : Zs} {z : Int32 × Zs} (h : f7_isOther x1 x2 x3 x4 S = some z) :
    zMb l yX7_isOther cX7_isOther 7 8 201 D zM ad cA S [.ref (ad 0), .int x1, .int x2, .int x3, .int x4] z := by
  refine z_enter (Qc := fun A => zQb D zM ad cA A z) (by decide +kernel) (Nat.le_of_ble_eq_true rfl) (fun p e s m below meth c A C P ls hl => ?_)
  have hx := C.1
  have hb := C.2.1
  have hl : lv_has ls 7 [(0, .ref (ad 0)), (1, .int x1), (2, .int x2), (3, .int x3), (4, .int x4)] := hl
  unfold f7_isOther at h
  refine lv_iload_n hx hb dX7_isOther_0 rfl (lv_at hl 3 rfl) ?_
  refine lv_i2l hx hb dX7_isOther_1 rfl ?_
  refine lv_lconst (v := 1) hx hb dX7_isOther_2 (by decide) ?_
  refine lv_ldc2 (v := 20) hx hb C.2.2.2.1 (C.2.2.2.2.1 _ kK7_298) dX7_isOther_3 ?_
  refine z_callSb C P (As := [.long x3.toInt64, .long (1 : Int64), .long (20 : Int64)]) (m7_in) cW7_73 rfl (by decide) hl.1 rfl (Nat.le_of_ble_eq_true rfl) dX7_isOther_6 ⟨Nat.zero_le _, Nat.zero_le _⟩ (fun H locs n6 P => ?_)
  refine z_if_ne (tgt := 14) hx hb dX7_isOther_9 (by decide) h (fun h => ?_) (fun h => ?_)
  · refine lv_aload_n hx hb dX7_isOther_14 rfl (lv_at hl 0 rfl) ?_
    refine gF7_25 C P zm0 rfl dX7_isOther_15 ?_
    refine lv_bipush (v := 6) hx hb dX7_isOther_18 (by decide) ?_
    refine lv_iload_n hx hb dX7_isOther_20 rfl (lv_at hl 1 rfl) ?_
    refine lv_imul hx hb dX7_isOther_21 ?_
    refine lv_iload_n hx hb dX7_isOther_22 rfl (lv_at hl 2 rfl) ?_
    refine lv_iadd hx hb dX7_isOther_23 ?_
    refine z_iald C P zm6 dX7_isOther_24 h (fun h hi => ?_)
    refine z_topi h (fun v25 h => ?_)
    refine lv_istore (lv' := [(5, .int v25), (0, .ref (ad 0)), (1, .int x1), (2, .int x2), (3, .int x3), (4, .int x4)]) hx hb dX7_isOther_25 hl (by decide) rfl (fun ls hl => ?_)
    refine lv_aload_n hx hb dX7_isOther_27 rfl (lv_at hl 1 rfl) ?_
    refine gF7_25 C P zm0 rfl dX7_isOther_28 ?_
    refine lv_bipush (v := 6) hx hb dX7_isOther_31 (by decide) ?_
    refine lv_iload_n hx hb dX7_isOther_33 rfl (lv_at hl 2 rfl) ?_
    refine lv_imul hx hb dX7_isOther_34 ?_
    refine lv_iload_n hx hb dX7_isOther_35 rfl (lv_at hl 3 rfl) ?_
    refine lv_iadd hx hb dX7_isOther_36 ?_
    refine lv_iload_n hx hb dX7_isOther_37 rfl (lv_at hl 4 rfl) ?_
    refine z_iast C P zm6 dX7_isOther_38 h (fun S38 H locs h P => ?_)
    refine lv_aload_n hx hb dX7_isOther_39 rfl (lv_at hl 1 rfl) ?_
    refine lv_aload_n hx hb dX7_isOther_40 rfl (lv_at hl 1 rfl) ?_
    refine z_callVi C P (As := []) (m7_every) cW7_244 rfl zm0 rfl (by decide) hl.1 rfl (Nat.le_of_ble_eq_true rfl) dX7_isOther_41 ⟨Nat.zero_le _, Nat.zero_le _⟩ (fun H locs P => ?_)
    obtain ⟨S44, g44, h⟩ := bd1_some h
    refine z_callVv C P (As := [.int (f7_every S38)]) (m7_rest g44) cW7_247 rfl zm0 rfl (by decide) hl.1 rfl (Nat.le_of_ble_eq_true rfl) dX7_isOther_44 ⟨Nat.zero_le _, Nat.zero_le _⟩ (fun H locs P => ?_)
    refine lv_aload_n hx hb dX7_isOther_47 rfl (lv_at hl 1 rfl) ?_
    refine lv_aload_n hx hb dX7_isOther_48 rfl (lv_at hl 1 rfl) ?_
    refine z_callVi C P (As := []) (m7_every) cW7_244 rfl zm0 rfl (by decide) hl.1 rfl (Nat.le_of_ble_eq_true rfl) dX7_isOther_49 ⟨Nat.zero_le _, Nat.zero_le _⟩ (fun H locs P => ?_)
    refine lv_iload_n hx hb dX7_isOther_52 rfl (lv_at hl 3 rfl) ?_
    obtain ⟨r53, g53, h⟩ := bd1_some h
    refine z_callVi C P (As := [.int (f7_every S44), .int x2]) (m7_makersOf g53) cW7_211 rfl zm0 rfl (by decide) hl.1 rfl (Nat.le_of_ble_eq_true rfl) dX7_isOther_53 ⟨Nat.zero_le _, Nat.zero_le _⟩ (fun H locs P => ?_)
    refine lv_iload hx hb dX7_isOther_56 (lv_at hl 5 rfl) ?_
    refine z_icmp_eq (tgt := 65) hx hb dX7_isOther_58 (by decide) h (fun h => ?_) (fun h => ?_)
    · refine lv_iconst (v := 0) hx hb dX7_isOther_65 (by decide) ?_
      exact w7_isOther_66 C _ _ _ _ _ _ _ _ h P (lv_sub hl [1, 2, 3, 0] rfl)
    · refine lv_iconst (v := 1) hx hb dX7_isOther_61 (by decide) ?_
      refine lv_goto (tgt := 66) hx hb dX7_isOther_62 (by decide) ?_
      exact w7_isOther_66 C _ _ _ _ _ _ _ _ h P (lv_sub hl [1, 2, 3, 0] rfl)
  · refine lv_iconst (v := 0) hx hb dX7_isOther_12 (by decide) ?_
    exact z_zret C P (Option.some.inj h) (by decide) dX7_isOther_13
theorem w7_edge_55 (C : zCx p s m args meth c cX7_edge 6 RX7 (some .long) D ad cA A) {z : Int64 × Zs} :
    ∀ (n : Nat) (x1 : Int32) (x2 : Int32) (x3 : Int32) (x4 : Int32) (x5 : Int32) (S : Zs) (H : Heap) (locs : List Loc) (ls : Array Slot), f7_edge_55 n x1 x2 x3 x4 x5 S = some z → zP D zM ad cA A S s H locs → lv_has ls 6 [(0, .ref (ad 0)), (1, .int x1), (2, .int x2), (3, .int x3), (4, .int x4), (5, .int x5)] → W p l e (zrm 9 227) s m args below meth c H locs 0 0 (MQ below (zQl D zM ad cA A z) args s 0 0 A) (F0 m 55 ls []) := by
  have hx := C.1
  have hb := C.2.1
  intro n
  induction n with
  | zero =>
    intro x1 x2 x3 x4 x5 S H locs ls h
    cases h
  | succ n ih =>
    intro x1 x2 x3 x4 x5 S H locs ls h P hl
    unfold f7_edge_55 at h
    refine lv_iload hx hb dX7_edge_55 (lv_at hl 5 rfl) ?_
    refine lv_bipush (v := 20) hx hb dX7_edge_57 (by decide) ?_
    refine z_icmp_ge (tgt := 107) hx hb dX7_edge_59 (by decide) h (fun h => ?_) (fun h => ?_)
    · refine lv_ldc2 (v := (-1000000)) hx hb C.2.2.2.1 (C.2.2.2.2.1 _ kK7_272) dX7_edge_107 ?_
      exact z_lret C P (Option.some.inj h) dX7_edge_110
    · refine lv_aload_n hx hb dX7_edge_62 rfl (lv_at hl 0 rfl) ?_
      refine lv_iload_n hx hb dX7_edge_63 rfl (lv_at hl 1 rfl) ?_
      refine lv_iload_n hx hb dX7_edge_64 rfl (lv_at hl 2 rfl) ?_
      refine lv_iload hx hb dX7_edge_65 (lv_at hl 4 rfl) ?_
      refine lv_iload hx hb dX7_edge_67 (lv_at hl 5 rfl) ?_
      refine lv_iadd hx hb dX7_edge_69 ?_
      refine lv_iload_n hx hb dX7_edge_70 rfl (lv_at hl 3 rfl) ?_
      obtain ⟨r71, S71, g71, h⟩ := bd2_some h
      refine z_callVb C P (As := [.int x1, .int x2, .int (x4 + x5), .int x3]) (m7_isOther g71) cW7_300 rfl zm0 rfl (by decide) hl.1 rfl (Nat.le_of_ble_eq_true rfl) dX7_edge_71 ⟨Nat.zero_le _, Nat.zero_le _⟩ (fun H locs n71 P => ?_)
      refine z_if_eq (tgt := 81) hx hb dX7_edge_74 (by decide) h (fun h => ?_) (fun h => ?_)
      · refine lv_aload_n hx hb dX7_edge_81 rfl (lv_at hl 0 rfl) ?_
        refine lv_iload_n hx hb dX7_edge_82 rfl (lv_at hl 1 rfl) ?_
        refine lv_iload_n hx hb dX7_edge_83 rfl (lv_at hl 2 rfl) ?_
        refine lv_iload hx hb dX7_edge_84 (lv_at hl 4 rfl) ?_
        refine lv_iload hx hb dX7_edge_86 (lv_at hl 5 rfl) ?_
        refine lv_isub hx hb dX7_edge_88 ?_
        refine lv_iload_n hx hb dX7_edge_89 rfl (lv_at hl 3 rfl) ?_
        obtain ⟨r90, S90, g90, h⟩ := bd2_some h
        refine z_callVb C P (As := [.int x1, .int x2, .int (x4 - x5), .int x3]) (m7_isOther g90) cW7_300 rfl zm0 rfl (by decide) hl.1 rfl (Nat.le_of_ble_eq_true rfl) dX7_edge_90 ⟨Nat.zero_le _, Nat.zero_le _⟩ (fun H locs n90 P => ?_)
        refine z_if_eq (tgt := 101) hx hb dX7_edge_93 (by decide) h (fun h => ?_) (fun h => ?_)
        · obtain ⟨v101, ev101, h⟩ := z_nm h
          refine lv_iinc (v := v101) (lv' := [(5, .int v101), (0, .ref (ad 0)), (1, .int x1), (2, .int x2), (3, .int x3), (4, .int x4)]) hx hb dX7_edge_101 hl (k := 5) rfl (by rw [ev101]; rfl) (by decide) rfl (fun ls hl => ?_)
          refine lv_goto (tgt := 55) hx hb dX7_edge_104 (by decide) ?_
          exact ih _ _ _ _ _ _ _ _ _ h P (lv_sub hl [1, 2, 3, 4, 5, 0] rfl)
        · refine lv_iload hx hb dX7_edge_96 (lv_at hl 5 rfl) ?_
          refine lv_ineg hx hb dX7_edge_98 ?_
          refine lv_i2l hx hb dX7_edge_99 rfl ?_
          exact z_lret C P (Option.some.inj h) dX7_edge_100
      · refine lv_iload hx hb dX7_edge_77 (lv_at hl 5 rfl) ?_
        refine lv_i2l hx hb dX7_edge_79 rfl ?_
        exact z_lret C P (Option.some.inj h) dX7_edge_80
theorem m7_edge {l : Launch} {D : va_G} {cA : Nat → ClassId} {ad : Nat → Nat} {x1 : Int32} {x2 : Int32} {S : Zs} {z : Int64 × Zs} (h : f7_edge x1 x2 S = some z) :
    zMl l yX7_edge cX7_edge 6 9 227 D zM ad cA S [.ref (ad 0), .int x1, .int x2] z := by
  refine z_enter (Qc := fun A => zQl D zM ad cA A z) (by decide +kernel) (Nat.le_of_ble_eq_true rfl) (fun p e s m below meth c A C P ls hl => ?_)
  have hx := C.1
  have hb := C.2.1
  have hl : lv_has ls 6 [(0, .ref (ad 0)), (1, .int x1), (2, .int x2)] := hl
  unfold f7_edge at h
  refine lv_aload_n hx hb dX7_edge_0 rfl (lv_at hl 0 rfl) ?_
  refine lv_iconst (v := 0) hx hb dX7_edge_1 (by decide) ?_
  refine pF7_62 C P zm0 rfl dX7_edge_2 h (fun S2 H locs h P => ?_)
  refine lv_aload_n hx hb dX7_edge_5 rfl (lv_at hl 0 rfl) ?_
  refine lv_iload_n hx hb dX7_edge_6 rfl (lv_at hl 1 rfl) ?_
  refine z_callVb C P (As := [.int x1]) (m7_isLand) cW7_189 rfl zm0 rfl (by decide) hl.1 rfl (Nat.le_of_ble_eq_true rfl) dX7_edge_7 ⟨Nat.zero_le _, Nat.zero_le _⟩ (fun H locs n7 P => ?_)
  refine z_if_eq (tgt := 21) hx hb dX7_edge_10 (by decide) h (fun h => ?_) (fun h => ?_)
  · refine lv_ldc2 (v := (-9000000000000000001)) hx hb C.2.2.2.1 (C.2.2.2.2.1 _ kK7_83) dX7_edge_21 ?_
    exact z_lret C P (Option.some.inj h) dX7_edge_24
  · refine lv_aload_n hx hb dX7_edge_13 rfl (lv_at hl 0 rfl) ?_
    refine lv_iload_n hx hb dX7_edge_14 rfl (lv_at hl 2 rfl) ?_
    refine z_callVb C P (As := [.int x2]) (m7_isGood) cW7_192 rfl zm0 rfl (by decide) hl.1 rfl (Nat.le_of_ble_eq_true rfl) dX7_edge_15 ⟨Nat.zero_le _, Nat.zero_le _⟩ (fun H locs n15 P => ?_)
    refine z_if_ne (tgt := 25) hx hb dX7_edge_18 (by decide) h (fun h => ?_) (fun h => ?_)
    · refine lv_aload_n hx hb dX7_edge_25 rfl (lv_at hl 0 rfl) ?_
      obtain ⟨S26, g26, h⟩ := bd1_some h
      refine z_callVv C P (As := []) (m7_restAll g26) cW7_254 rfl zm0 rfl (by decide) hl.1 rfl (Nat.le_of_ble_eq_true rfl) dX7_edge_26 ⟨Nat.zero_le _, Nat.zero_le _⟩ (fun H locs P => ?_)
      refine lv_aload_n hx hb dX7_edge_29 rfl (lv_at hl 0 rfl) ?_
      refine lv_aload_n hx hb dX7_edge_30 rfl (lv_at hl 0 rfl) ?_
      refine z_callVi C P (As := []) (m7_every) cW7_244 rfl zm0 rfl (by decide) hl.1 rfl (Nat.le_of_ble_eq_true rfl) dX7_edge_31 ⟨Nat.zero_le _, Nat.zero_le _⟩ (fun H locs P => ?_)
      refine lv_iload_n hx hb dX7_edge_34 rfl (lv_at hl 2 rfl) ?_
      obtain ⟨r35, g35, h⟩ := bd1_some h
      refine z_callVi C P (As := [.int (f7_every S26), .int x2]) (m7_makersOf g35) cW7_211 rfl zm0 rfl (by decide) hl.1 rfl (Nat.le_of_ble_eq_true rfl) dX7_edge_35 ⟨Nat.zero_le _, Nat.zero_le _⟩ (fun H locs P => ?_)
      refine lv_istore_n (lv' := [(3, .int r35), (0, .ref (ad 0)), (1, .int x1), (2, .int x2)]) hx hb dX7_edge_38 rfl hl (by decide) rfl (fun ls hl => ?_)
      refine lv_aload_n hx hb dX7_edge_39 rfl (lv_at hl 1 rfl) ?_
      refine gF7_25 C P zm0 rfl dX7_edge_40 ?_
      refine lv_bipush (v := 6) hx hb dX7_edge_43 (by decide) ?_
      refine lv_iload_n hx hb dX7_edge_45 rfl (lv_at hl 2 rfl) ?_
      refine lv_imul hx hb dX7_edge_46 ?_
      refine lv_iload_n hx hb dX7_edge_47 rfl (lv_at hl 3 rfl) ?_
      refine lv_iadd hx hb dX7_edge_48 ?_
      refine z_iald C P zm6 dX7_edge_49 h (fun h hi => ?_)
      refine z_topi h (fun v50 h => ?_)
      refine lv_istore (lv' := [(4, .int v50), (3, .int r35), (0, .ref (ad 0)), (1, .int x1), (2, .int x2)]) hx hb dX7_edge_50 hl (by decide) rfl (fun ls hl => ?_)
      refine lv_iconst (v := 1) hx hb dX7_edge_52 (by decide) ?_
      refine lv_istore (lv' := [(5, .int (1 : Int32)), (4, .int v50), (3, .int r35), (0, .ref (ad 0)), (1, .int x1), (2, .int x2)]) hx hb dX7_edge_53 hl (by decide) rfl (fun ls hl => ?_)
      exact w7_edge_55 C _ _ _ _ _ _ _ _ _ _ h P (lv_sub hl [3, 4, 5, 2, 1, 0] rfl)
    · refine lv_ldc2 (v := (-9000000000000000001)) hx hb C.2.2.2.1 (C.2.2.2.2.1 _ kK7_83) dX7_edge_21 ?_
      exact z_lret C P (Option.some.inj h) dX7_edge_24
end ZVM6
