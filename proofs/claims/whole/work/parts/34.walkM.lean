section ZVM4
variable {p : Program} {l : Launch} {e : Env} {s : State} {m : MethodId} {args : Array Value} {below : List Frame} {meth : Method} {c : Code} {D : va_G} {cA : Nat → ClassId} {A : Nat → Prop} {ad : Nat → Nat}
theorem w7_rest_95 (C : zCx p s m args meth c cX7_rest 5 RX7 none D ad cA A) {z : Zs} (x1 : Int32) (x2 : Int32) (t0 : Int32) (S : Zs) (H : Heap) (locs : List Loc) (ls : Array Slot) (h : f7_rest_95 x1 x2 t0 S = some z) (P : zP D zM ad cA A S s H locs) (hl : lv_has ls 5 [(0, .ref (ad 0)), (1, .int x1), (2, .int x2)]) :
    W p l e (zrm 7 177) s m args below meth c H locs 0 0 (MQ below (zQv D zM ad cA A z) args s 0 0 A) (F0 m 95 ls [.int t0]) := by
  have hx := C.1
  have hb := C.2.1
  unfold f7_rest_95 at h
  refine lv_istore_n (lv' := [(3, .int t0), (0, .ref (ad 0)), (1, .int x1), (2, .int x2)]) hx hb dX7_rest_95 rfl hl (by decide) rfl (fun ls hl => ?_)
  refine lv_aload_n hx hb dX7_rest_96 rfl (lv_at hl 1 rfl) ?_
  refine lv_iload_n hx hb dX7_rest_97 rfl (lv_at hl 2 rfl) ?_
  refine lv_iload_n hx hb dX7_rest_98 rfl (lv_at hl 3 rfl) ?_
  refine lv_iload_n hx hb dX7_rest_99 rfl (lv_at hl 0 rfl) ?_
  obtain ⟨r100, S100, g100, h⟩ := bd2_some h
  refine z_callVb C P (As := [.int x1, .int x2, .int t0]) (m7_isPairBound g100) cW7_241 rfl zm0 rfl (by decide) hl.1 rfl (Nat.le_of_ble_eq_true rfl) dX7_rest_100 ⟨Nat.zero_le _, Nat.zero_le _⟩ (fun H locs n100 P => ?_)
  refine z_if_ne (tgt := 117) hx hb dX7_rest_103 (by decide) h (fun h => ?_) (fun h => ?_)
  · refine lv_iconst (v := 1) hx hb dX7_rest_117 (by decide) ?_
    refine lv_goto (tgt := 122) hx hb dX7_rest_118 (by decide) ?_
    refine lv_istore (lv' := [(4, .int (1 : Int32)), (3, .int t0), (0, .ref (ad 0)), (1, .int x1), (2, .int x2)]) hx hb dX7_rest_122 hl (by decide) rfl (fun ls hl => ?_)
    refine lv_goto (tgt := 136) hx hb dX7_rest_124 (by decide) ?_
    exact z_vret C P (Option.some.inj h) dX7_rest_136
  · refine lv_aload_n hx hb dX7_rest_106 rfl (lv_at hl 1 rfl) ?_
    refine lv_iload_n hx hb dX7_rest_107 rfl (lv_at hl 2 rfl) ?_
    refine lv_iload_n hx hb dX7_rest_108 rfl (lv_at hl 3 rfl) ?_
    refine lv_iload_n hx hb dX7_rest_109 rfl (lv_at hl 0 rfl) ?_
    refine lv_iconst (v := (-1)) hx hb dX7_rest_110 (by decide) ?_
    obtain ⟨r111, S111, g111, h⟩ := bd2_some h
    refine z_callVb C P (As := [.int x1, .int x2, .int t0, .int (-1 : Int32)]) (m7_isParted g111) cW7_237 rfl zm0 rfl (by decide) hl.1 rfl (Nat.le_of_ble_eq_true rfl) dX7_rest_111 ⟨Nat.zero_le _, Nat.zero_le _⟩ (fun H locs n111 P => ?_)
    refine z_if_eq (tgt := 121) hx hb dX7_rest_114 (by decide) h (fun h => ?_) (fun h => ?_)
    · refine lv_iconst (v := 0) hx hb dX7_rest_121 (by decide) ?_
      refine lv_istore (lv' := [(4, .int (0 : Int32)), (3, .int t0), (0, .ref (ad 0)), (1, .int x1), (2, .int x2)]) hx hb dX7_rest_122 hl (by decide) rfl (fun ls hl => ?_)
      refine lv_goto (tgt := 136) hx hb dX7_rest_124 (by decide) ?_
      exact z_vret C P (Option.some.inj h) dX7_rest_136
    · refine lv_iconst (v := 1) hx hb dX7_rest_117 (by decide) ?_
      refine lv_goto (tgt := 122) hx hb dX7_rest_118 (by decide) ?_
      refine lv_istore (lv' := [(4, .int (1 : Int32)), (3, .int t0), (0, .ref (ad 0)), (1, .int x1), (2, .int x2)]) hx hb dX7_rest_122 hl (by decide) rfl (fun ls hl => ?_)
      refine lv_goto (tgt := 136) hx hb dX7_rest_124 (by decide) ?_
      exact z_vret C P (Option.some.inj h) dX7_rest_136
theorem w7_rest_84 (C : zCx p s m args meth c cX7_rest 5 RX7 none D ad cA A) {z : Zs} (x1 : Int32) (t0 : Int32) (S : Zs) (H : Heap) (locs : List Loc) (ls : Array Slot) (h : f7_rest_84 x1 t0 S = some z) (P : zP D zM ad cA A S s H locs) (hl : lv_has ls 5 [(0, .ref (ad 0)), (1, .int x1)]) :
    W p l e (zrm 7 177) s m args below meth c H locs 0 0 (MQ below (zQv D zM ad cA A z) args s 0 0 A) (F0 m 84 ls [.int t0]) := by
  have hx := C.1
  have hb := C.2.1
  unfold f7_rest_84 at h
  refine lv_istore_n (lv' := [(2, .int t0), (0, .ref (ad 0)), (1, .int x1)]) hx hb dX7_rest_84 rfl hl (by decide) rfl (fun ls hl => ?_)
  refine lv_iload_n hx hb dX7_rest_85 rfl (lv_at hl 2 rfl) ?_
  refine lv_iconst (v := 3) hx hb dX7_rest_86 (by decide) ?_
  refine z_icmp_ne (tgt := 94) hx hb dX7_rest_87 (by decide) h (fun h => ?_) (fun h => ?_)
  · refine lv_iconst (v := 2) hx hb dX7_rest_94 (by decide) ?_
    exact w7_rest_95 C _ _ _ _ _ _ _ h P (lv_sub hl [1, 2, 0] rfl)
  · refine lv_iconst (v := 1) hx hb dX7_rest_90 (by decide) ?_
    refine lv_goto (tgt := 95) hx hb dX7_rest_91 (by decide) ?_
    exact w7_rest_95 C _ _ _ _ _ _ _ h P (lv_sub hl [1, 2, 0] rfl)
theorem w7_rest_73 (C : zCx p s m args meth c cX7_rest 5 RX7 none D ad cA A) {z : Zs} (x1 : Int32) (S : Zs) (H : Heap) (locs : List Loc) (ls : Array Slot) (h : f7_rest_73 x1 S = some z) (P : zP D zM ad cA A S s H locs) (hl : lv_has ls 5 [(0, .ref (ad 0)), (1, .int x1)]) :
    W p l e (zrm 7 177) s m args below meth c H locs 0 0 (MQ below (zQv D zM ad cA A z) args s 0 0 A) (F0 m 73 ls []) := by
  have hx := C.1
  have hb := C.2.1
  unfold f7_rest_73 at h
  refine lv_iload_n hx hb dX7_rest_73 rfl (lv_at hl 1 rfl) ?_
  refine lv_bipush (v := 6) hx hb dX7_rest_74 (by decide) ?_
  refine z_icmp_ne (tgt := 83) hx hb dX7_rest_76 (by decide) h (fun h => ?_) (fun h => ?_)
  · refine lv_iconst (v := 0) hx hb dX7_rest_83 (by decide) ?_
    exact w7_rest_84 C _ _ _ _ _ _ h P (lv_sub hl [0, 1] rfl)
  · refine lv_iconst (v := 1) hx hb dX7_rest_79 (by decide) ?_
    refine lv_goto (tgt := 84) hx hb dX7_rest_80 (by decide) ?_
    exact w7_rest_84 C _ _ _ _ _ _ h P (lv_sub hl [0, 1] rfl)
theorem m7_rest {l : Launch} {D : va_G} {cA : Nat → ClassId} {ad : Nat → Nat} {x1 : Int32} {S : Zs} {z : Zs} (h : f7_rest x1 S = some z) :
    zMv l yX7_rest cX7_rest 5 7 177 D zM ad cA S [.ref (ad 0), .int x1] z := by
  refine z_enter (Qc := fun A => zQv D zM ad cA A z) (by decide +kernel) (Nat.le_of_ble_eq_true rfl) (fun p e s m below meth c A C P ls hl => ?_)
  have hx := C.1
  have hb := C.2.1
  have hl : lv_has ls 5 [(0, .ref (ad 0)), (1, .int x1)] := hl
  unfold f7_rest at h
  refine lv_iload_n hx hb dX7_rest_0 rfl (lv_at hl 1 rfl) ?_
  refine lv_bipush (v := 7) hx hb dX7_rest_1 (by decide) ?_
  refine z_icmp_ne (tgt := 57) hx hb dX7_rest_3 (by decide) h (fun h => ?_) (fun h => ?_)
  · refine lv_iload_n hx hb dX7_rest_57 rfl (lv_at hl 1 rfl) ?_
    refine lv_iconst (v := 3) hx hb dX7_rest_58 (by decide) ?_
    refine z_icmp_eq (tgt := 73) hx hb dX7_rest_59 (by decide) h (fun h => ?_) (fun h => ?_)
    · exact w7_rest_73 C _ _ _ _ _ h P (lv_sub hl [0, 1] rfl)
    · refine lv_iload_n hx hb dX7_rest_62 rfl (lv_at hl 1 rfl) ?_
      refine lv_iconst (v := 5) hx hb dX7_rest_63 (by decide) ?_
      refine z_icmp_eq (tgt := 73) hx hb dX7_rest_64 (by decide) h (fun h => ?_) (fun h => ?_)
      · exact w7_rest_73 C _ _ _ _ _ h P (lv_sub hl [0, 1] rfl)
      · refine lv_iload_n hx hb dX7_rest_67 rfl (lv_at hl 1 rfl) ?_
        refine lv_bipush (v := 6) hx hb dX7_rest_68 (by decide) ?_
        refine z_icmp_ne (tgt := 127) hx hb dX7_rest_70 (by decide) h (fun h => ?_) (fun h => ?_)
        · refine lv_aload_n hx hb dX7_rest_127 rfl (lv_at hl 0 rfl) ?_
          refine lv_iload_n hx hb dX7_rest_128 rfl (lv_at hl 1 rfl) ?_
          refine lv_lconst (v := 1) hx hb dX7_rest_129 (by decide) ?_
          refine lv_lconst (v := 1) hx hb dX7_rest_130 (by decide) ?_
          refine lv_lconst (v := 1) hx hb dX7_rest_131 (by decide) ?_
          obtain ⟨r132, S132, g132, h⟩ := bd2_some h
          refine z_callVb C P (As := [.int x1, .long (1 : Int64), .long (1 : Int64), .long (1 : Int64)]) (m7_isRest g132) cW7_222 rfl zm0 rfl (by decide) hl.1 rfl (Nat.le_of_ble_eq_true rfl) dX7_rest_132 ⟨Nat.zero_le _, Nat.zero_le _⟩ (fun H locs n132 P => ?_)
          refine lv_pop hx hb dX7_rest_135 rfl ?_
          exact z_vret C P (Option.some.inj h) dX7_rest_136
        · exact w7_rest_73 C _ _ _ _ _ h P (lv_sub hl [0, 1] rfl)
  · refine lv_aload_n hx hb dX7_rest_6 rfl (lv_at hl 0 rfl) ?_
    refine lv_iconst (v := 0) hx hb dX7_rest_7 (by decide) ?_
    refine lv_iconst (v := 1) hx hb dX7_rest_8 (by decide) ?_
    refine lv_iconst (v := 2) hx hb dX7_rest_9 (by decide) ?_
    obtain ⟨r10, S10, g10, h⟩ := bd2_some h
    refine z_callVb C P (As := [.int (0 : Int32), .int (1 : Int32), .int (2 : Int32)]) (m7_isPartBound g10) cW7_233 rfl zm0 rfl (by decide) hl.1 rfl (Nat.le_of_ble_eq_true rfl) dX7_rest_10 ⟨Nat.zero_le _, Nat.zero_le _⟩ (fun H locs n10 P => ?_)
    refine z_if_ne (tgt := 48) hx hb dX7_rest_13 (by decide) h (fun h => ?_) (fun h => ?_)
    · refine lv_iconst (v := 1) hx hb dX7_rest_48 (by decide) ?_
      refine lv_goto (tgt := 53) hx hb dX7_rest_49 (by decide) ?_
      refine lv_istore_n (lv' := [(2, .int (1 : Int32)), (0, .ref (ad 0)), (1, .int x1)]) hx hb dX7_rest_53 rfl hl (by decide) rfl (fun ls hl => ?_)
      refine lv_goto (tgt := 136) hx hb dX7_rest_54 (by decide) ?_
      exact z_vret C P (Option.some.inj h) dX7_rest_136
    · refine lv_aload_n hx hb dX7_rest_16 rfl (lv_at hl 0 rfl) ?_
      refine lv_iconst (v := 1) hx hb dX7_rest_17 (by decide) ?_
      refine lv_iconst (v := 2) hx hb dX7_rest_18 (by decide) ?_
      refine lv_iconst (v := 0) hx hb dX7_rest_19 (by decide) ?_
      obtain ⟨r20, S20, g20, h⟩ := bd2_some h
      refine z_callVb C P (As := [.int (1 : Int32), .int (2 : Int32), .int (0 : Int32)]) (m7_isPartBound g20) cW7_233 rfl zm0 rfl (by decide) hl.1 rfl (Nat.le_of_ble_eq_true rfl) dX7_rest_20 ⟨Nat.zero_le _, Nat.zero_le _⟩ (fun H locs n20 P => ?_)
      refine z_if_ne (tgt := 48) hx hb dX7_rest_23 (by decide) h (fun h => ?_) (fun h => ?_)
      · refine lv_iconst (v := 1) hx hb dX7_rest_48 (by decide) ?_
        refine lv_goto (tgt := 53) hx hb dX7_rest_49 (by decide) ?_
        refine lv_istore_n (lv' := [(2, .int (1 : Int32)), (0, .ref (ad 0)), (1, .int x1)]) hx hb dX7_rest_53 rfl hl (by decide) rfl (fun ls hl => ?_)
        refine lv_goto (tgt := 136) hx hb dX7_rest_54 (by decide) ?_
        exact z_vret C P (Option.some.inj h) dX7_rest_136
      · refine lv_aload_n hx hb dX7_rest_26 rfl (lv_at hl 0 rfl) ?_
        refine lv_iconst (v := 2) hx hb dX7_rest_27 (by decide) ?_
        refine lv_iconst (v := 0) hx hb dX7_rest_28 (by decide) ?_
        refine lv_iconst (v := 1) hx hb dX7_rest_29 (by decide) ?_
        obtain ⟨r30, S30, g30, h⟩ := bd2_some h
        refine z_callVb C P (As := [.int (2 : Int32), .int (0 : Int32), .int (1 : Int32)]) (m7_isPartBound g30) cW7_233 rfl zm0 rfl (by decide) hl.1 rfl (Nat.le_of_ble_eq_true rfl) dX7_rest_30 ⟨Nat.zero_le _, Nat.zero_le _⟩ (fun H locs n30 P => ?_)
        refine z_if_ne (tgt := 48) hx hb dX7_rest_33 (by decide) h (fun h => ?_) (fun h => ?_)
        · refine lv_iconst (v := 1) hx hb dX7_rest_48 (by decide) ?_
          refine lv_goto (tgt := 53) hx hb dX7_rest_49 (by decide) ?_
          refine lv_istore_n (lv' := [(2, .int (1 : Int32)), (0, .ref (ad 0)), (1, .int x1)]) hx hb dX7_rest_53 rfl hl (by decide) rfl (fun ls hl => ?_)
          refine lv_goto (tgt := 136) hx hb dX7_rest_54 (by decide) ?_
          exact z_vret C P (Option.some.inj h) dX7_rest_136
        · refine lv_aload_n hx hb dX7_rest_36 rfl (lv_at hl 0 rfl) ?_
          refine lv_bipush (v := 7) hx hb dX7_rest_37 (by decide) ?_
          refine lv_iconst (v := 0) hx hb dX7_rest_39 (by decide) ?_
          refine lv_iconst (v := 1) hx hb dX7_rest_40 (by decide) ?_
          refine lv_iconst (v := 2) hx hb dX7_rest_41 (by decide) ?_
          obtain ⟨r42, S42, g42, h⟩ := bd2_some h
          refine z_callVb C P (As := [.int (7 : Int32), .int (0 : Int32), .int (1 : Int32), .int (2 : Int32)]) (m7_isParted g42) cW7_237 rfl zm0 rfl (by decide) hl.1 rfl (Nat.le_of_ble_eq_true rfl) dX7_rest_42 ⟨Nat.zero_le _, Nat.zero_le _⟩ (fun H locs n42 P => ?_)
          refine z_if_eq (tgt := 52) hx hb dX7_rest_45 (by decide) h (fun h => ?_) (fun h => ?_)
          · refine lv_iconst (v := 0) hx hb dX7_rest_52 (by decide) ?_
            refine lv_istore_n (lv' := [(2, .int (0 : Int32)), (0, .ref (ad 0)), (1, .int x1)]) hx hb dX7_rest_53 rfl hl (by decide) rfl (fun ls hl => ?_)
            refine lv_goto (tgt := 136) hx hb dX7_rest_54 (by decide) ?_
            exact z_vret C P (Option.some.inj h) dX7_rest_136
          · refine lv_iconst (v := 1) hx hb dX7_rest_48 (by decide) ?_
            refine lv_goto (tgt := 53) hx hb dX7_rest_49 (by decide) ?_
            refine lv_istore_n (lv' := [(2, .int (1 : Int32)), (0, .ref (ad 0)), (1, .int x1)]) hx hb dX7_rest_53 rfl hl (by decide) rfl (fun ls hl => ?_)
            refine lv_goto (tgt := 136) hx hb dX7_rest_54 (by decide) ?_
            exact z_vret C P (Option.some.inj h) dX7_rest_136
theorem m7_every {l : Launch} {D : va_G} {cA : Nat → ClassId} {ad : Nat → Nat} {S : Zs} :
    zMi l yX7_every cX7_every 1 0 0 D zM ad cA S [.ref (ad 0)] (f7_every S, S) := by
  obtain ⟨z, h⟩ : ∃ z, f7_every S = z := ⟨_, rfl⟩
  rw [h]
  refine z_enter (Qc := fun A => zQi D zM ad cA A (z, S)) (by decide +kernel) (Nat.le_of_ble_eq_true rfl) (fun p e s m below meth c A C P ls hl => ?_)
  have hx := C.1
  have hb := C.2.1
  have hl : lv_has ls 1 [(0, .ref (ad 0))] := hl
  unfold f7_every at h
  refine lv_iconst (v := 1) hx hb dX7_every_0 (by decide) ?_
  refine lv_aload_n hx hb dX7_every_1 rfl (lv_at hl 0 rfl) ?_
  refine gF7_176 C P zm0 rfl dX7_every_2 ?_
  refine lv_ishl hx hb dX7_every_5 ?_
  refine lv_iconst (v := 1) hx hb dX7_every_6 (by decide) ?_
  refine lv_isub hx hb dX7_every_7 ?_
  exact z_iret C P (by rw [h]) dX7_every_8
theorem w7_restAll_49 (C : zCx p s m args meth c cX7_restAll 2 RX7 none D ad cA A) {z : Zs} {k17 : Int32 → Zs → Option Zs} (hk17 : ∀ (x1 : Int32) (S : Zs) (H : Heap) (locs : List Loc) (ls : Array Slot), k17 x1 S = some z → zP D zM ad cA A S s H locs → lv_has ls 2 [(0, .ref (ad 0)), (1, .int x1)] → W p l e (zrm 8 201) s m args below meth c H locs 0 0 (MQ below (zQv D zM ad cA A z) args s 0 0 A) (F0 m 17 ls [])) (x1 : Int32) (t0 : Int64) (t1 : Int32) (S : Zs) (H : Heap) (locs : List Loc) (ls : Array Slot) (h : f7_restAll_49 k17 x1 t0 t1 S = some z) (P : zP D zM ad cA A S s H locs) (hl : lv_has ls 2 [(0, .ref (ad 0)), (1, .int x1)]) :
    W p l e (zrm 8 201) s m args below meth c H locs 0 0 (MQ below (zQv D zM ad cA A z) args s 0 0 A) (F0 m 49 ls [.long t0, .int t1, .ref (ad 11)]) := by
  have hx := C.1
  have hb := C.2.1
  unfold f7_restAll_49 at h
  refine z_last C P zm11 dX7_restAll_49 h (fun S49 H locs h P => ?_)
  refine lv_aload_n hx hb dX7_restAll_50 rfl (lv_at hl 0 rfl) ?_
  refine gF7_50 C P zm0 rfl dX7_restAll_51 ?_
  refine lv_iload_n hx hb dX7_restAll_54 rfl (lv_at hl 1 rfl) ?_
  refine lv_aload_n hx hb dX7_restAll_55 rfl (lv_at hl 0 rfl) ?_
  refine gF7_40 C P zm0 rfl dX7_restAll_56 ?_
  refine lv_iload_n hx hb dX7_restAll_59 rfl (lv_at hl 1 rfl) ?_
  refine z_lald C P zm11 dX7_restAll_60 h (fun h hi => ?_)
  refine z_last C P zm14 dX7_restAll_61 h (fun S61 H locs h P => ?_)
  obtain ⟨v62, ev62, h⟩ := z_nm h
  refine lv_iinc (v := v62) (lv' := [(1, .int v62), (0, .ref (ad 0))]) hx hb dX7_restAll_62 hl (k := 1) rfl (by rw [ev62]; rfl) (by decide) rfl (fun ls hl => ?_)
  refine lv_goto (tgt := 17) hx hb dX7_restAll_65 (by decide) ?_
  exact hk17 _ _ _ _ _ h P (lv_sub hl [1, 0] rfl)
theorem w7_restAll_17 (C : zCx p s m args meth c cX7_restAll 2 RX7 none D ad cA A) {z : Zs} :
    ∀ (n : Nat) (x1 : Int32) (S : Zs) (H : Heap) (locs : List Loc) (ls : Array Slot), f7_restAll_17 n x1 S = some z → zP D zM ad cA A S s H locs → lv_has ls 2 [(0, .ref (ad 0)), (1, .int x1)] → W p l e (zrm 8 201) s m args below meth c H locs 0 0 (MQ below (zQv D zM ad cA A z) args s 0 0 A) (F0 m 17 ls []) := by
  have hx := C.1
  have hb := C.2.1
  intro n
  induction n with
  | zero =>
    intro x1 S H locs ls h
    cases h
  | succ n ih =>
    intro x1 S H locs ls h P hl
    unfold f7_restAll_17 at h
    refine lv_iload_n hx hb dX7_restAll_17 rfl (lv_at hl 1 rfl) ?_
    refine lv_iconst (v := 3) hx hb dX7_restAll_18 (by decide) ?_
    refine z_icmp_ge (tgt := 68) hx hb dX7_restAll_19 (by decide) h (fun h => ?_) (fun h => ?_)
    · refine lv_aload_n hx hb dX7_restAll_68 rfl (lv_at hl 0 rfl) ?_
      refine lv_iconst (v := 1) hx hb dX7_restAll_69 (by decide) ?_
      refine pF7_186 C P zm0 rfl dX7_restAll_70 (by decide) (by decide) h (fun S70 H locs h P => ?_)
      exact z_vret C P (Option.some.inj h) dX7_restAll_73
    · refine lv_aload_n hx hb dX7_restAll_22 rfl (lv_at hl 0 rfl) ?_
      refine gF7_40 C P zm0 rfl dX7_restAll_23 ?_
      refine lv_iload_n hx hb dX7_restAll_26 rfl (lv_at hl 1 rfl) ?_
      refine lv_aload_n hx hb dX7_restAll_27 rfl (lv_at hl 0 rfl) ?_
      refine gF7_186 C P zm0 rfl dX7_restAll_28 ?_
      refine z_if_eq (tgt := 43) hx hb dX7_restAll_31 (by decide) h (fun h => ?_) (fun h => ?_)
      · refine lv_aload_n hx hb dX7_restAll_43 rfl (lv_at hl 0 rfl) ?_
        refine gF7_40 C P zm0 rfl dX7_restAll_44 ?_
        refine lv_iload_n hx hb dX7_restAll_47 rfl (lv_at hl 1 rfl) ?_
        refine z_lald C P zm11 dX7_restAll_48 h (fun h hi => ?_)
        exact w7_restAll_49 C ih _ _ _ _ _ _ _ h P (lv_sub hl [0, 1] rfl)
      · refine lv_aload_n hx hb dX7_restAll_34 rfl (lv_at hl 0 rfl) ?_
        refine gF7_50 C P zm0 rfl dX7_restAll_35 ?_
        refine lv_iload_n hx hb dX7_restAll_38 rfl (lv_at hl 1 rfl) ?_
        refine z_lald C P zm14 dX7_restAll_39 h (fun h hi => ?_)
        refine lv_goto (tgt := 49) hx hb dX7_restAll_40 (by decide) ?_
        exact w7_restAll_49 C ih _ _ _ _ _ _ _ h P (lv_sub hl [0, 1] rfl)
theorem w7_restAll_15 (C : zCx p s m args meth c cX7_restAll 2 RX7 none D ad cA A) {z : Zs} (S : Zs) (H : Heap) (locs : List Loc) (ls : Array Slot) (h : f7_restAll_15 S = some z) (P : zP D zM ad cA A S s H locs) (hl : lv_has ls 2 [(0, .ref (ad 0))]) :
    W p l e (zrm 8 201) s m args below meth c H locs 0 0 (MQ below (zQv D zM ad cA A z) args s 0 0 A) (F0 m 15 ls []) := by
  have hx := C.1
  have hb := C.2.1
  unfold f7_restAll_15 at h
  refine lv_iconst (v := 0) hx hb dX7_restAll_15 (by decide) ?_
  refine lv_istore_n (lv' := [(1, .int (0 : Int32)), (0, .ref (ad 0))]) hx hb dX7_restAll_16 rfl hl (by decide) rfl (fun ls hl => ?_)
  exact w7_restAll_17 C _ _ _ _ _ _ h P (lv_sub hl [1, 0] rfl)
theorem m7_restAll {l : Launch} {D : va_G} {cA : Nat → ClassId} {ad : Nat → Nat} {S : Zs} {z : Zs} (h : f7_restAll S = some z) :
    zMv l yX7_restAll cX7_restAll 2 8 201 D zM ad cA S [.ref (ad 0)] z := by
  refine z_enter (Qc := fun A => zQv D zM ad cA A z) (by decide +kernel) (Nat.le_of_ble_eq_true rfl) (fun p e s m below meth c A C P ls hl => ?_)
  have hx := C.1
  have hb := C.2.1
  have hl : lv_has ls 2 [(0, .ref (ad 0))] := hl
  unfold f7_restAll at h
  refine lv_aload_n hx hb dX7_restAll_0 rfl (lv_at hl 0 rfl) ?_
  refine gF7_186 C P zm0 rfl dX7_restAll_1 ?_
  refine z_if_ne (tgt := 15) hx hb dX7_restAll_4 (by decide) h (fun h => ?_) (fun h => ?_)
  · exact w7_restAll_15 C _ _ _ _ h P (lv_sub hl [0] rfl)
  · refine lv_aload_n hx hb dX7_restAll_7 rfl (lv_at hl 0 rfl) ?_
    refine lv_aload_n hx hb dX7_restAll_8 rfl (lv_at hl 0 rfl) ?_
    refine z_callVi C P (As := []) (m7_every) cW7_244 rfl zm0 rfl (by decide) hl.1 rfl (Nat.le_of_ble_eq_true rfl) dX7_restAll_9 ⟨Nat.zero_le _, Nat.zero_le _⟩ (fun H locs P => ?_)
    obtain ⟨S12, g12, h⟩ := bd1_some h
    refine z_callVv C P (As := [.int (f7_every S)]) (m7_rest g12) cW7_247 rfl zm0 rfl (by decide) hl.1 rfl (Nat.le_of_ble_eq_true rfl) dX7_restAll_12 ⟨Nat.zero_le _, Nat.zero_le _⟩ (fun H locs P => ?_)
    exact w7_restAll_15 C _ _ _ _ h P (lv_sub hl [0] rfl)
theorem w7_common_6 (C : zCx p s m args meth c cX7_common 10 RX7 (some .long) D ad cA A) {z : Int64} {S : Zs} :
    ∀ (n : Nat) (x4 : Int64) (x6 : Int64) (H : Heap) (locs : List Loc) (ls : Array Slot), f7_common_6 n x4 x6 = some z → zP D zM ad cA A S s H locs → lv_has ls 10 [(4, .long x4), (6, .long x6)] → W p l e (zrm 0 0) s m args below meth c H locs 0 0 (MQ below (zQl D zM ad cA A (z, S)) args s 0 0 A) (F0 m 6 ls []) := by
  have hx := C.1
  have hb := C.2.1
  intro n
  induction n with
  | zero =>
    intro x4 x6 H locs ls h
    cases h
  | succ n ih =>
    intro x4 x6 H locs ls h P hl
    unfold f7_common_6 at h
    refine lv_lload hx hb dX7_common_6 (lv_at hl 1 rfl) ?_
    refine lv_lconst (v := 0) hx hb dX7_common_8 (by decide) ?_
    refine z_lcmp_eq (tgt := 31) hx hb dX7_common_9 dX7_common_10 (by decide) h (fun h => ?_) (fun h => ?_)
    · refine lv_lload hx hb dX7_common_31 (lv_at hl 0 rfl) ?_
      exact z_lret C P (by rw [Option.some.inj h]) dX7_common_33
    · refine lv_lload hx hb dX7_common_13 (lv_at hl 0 rfl) ?_
      refine lv_lload hx hb dX7_common_15 (lv_at hl 1 rfl) ?_
      refine z_lrem hx hb dX7_common_17 h (fun h => ?_)
      refine z_topl h (fun v18 h => ?_)
      refine lv_lstore (lv' := [(8, .long v18), (4, .long x4), (6, .long x6)]) hx hb dX7_common_18 hl (by decide) rfl (fun ls hl => ?_)
      refine lv_lload hx hb dX7_common_20 (lv_at hl 2 rfl) ?_
      refine lv_lstore (lv' := [(4, .long x6), (8, .long v18), (6, .long x6)]) hx hb dX7_common_22 hl (by decide) rfl (fun ls hl => ?_)
      refine lv_lload hx hb dX7_common_24 (lv_at hl 1 rfl) ?_
      refine lv_lstore (lv' := [(6, .long v18), (4, .long x6), (8, .long v18)]) hx hb dX7_common_26 hl (by decide) rfl (fun ls hl => ?_)
      refine lv_goto (tgt := 6) hx hb dX7_common_28 (by decide) ?_
      exact ih _ _ _ _ _ h P (lv_sub hl [1, 0] rfl)
theorem m7_common {l : Launch} {D : va_G} {cA : Nat → ClassId} {ad : Nat → Nat} {x0 : Int64} {x2 : Int64} {S : Zs} {z : Int64} (h : f7_common x0 x2 = some z) :
    zMl l yX7_common cX7_common 10 0 0 D zM ad cA S [.long x0, .long x2] (z, S) := by
  refine z_enter (Qc := fun A => zQl D zM ad cA A (z, S)) (by decide +kernel) (Nat.le_of_ble_eq_true rfl) (fun p e s m below meth c A C P ls hl => ?_)
  have hx := C.1
  have hb := C.2.1
  have hl : lv_has ls 10 [(0, .long x0), (2, .long x2)] := hl
  unfold f7_common at h
  refine lv_lload_n hx hb dX7_common_0 rfl (lv_at hl 0 rfl) ?_
  refine lv_lstore (lv' := [(4, .long x0), (0, .long x0), (2, .long x2)]) hx hb dX7_common_1 hl (by decide) rfl (fun ls hl => ?_)
  refine lv_lload_n hx hb dX7_common_3 rfl (lv_at hl 2 rfl) ?_
  refine lv_lstore (lv' := [(6, .long x2), (4, .long x0), (0, .long x0), (2, .long x2)]) hx hb dX7_common_4 hl (by decide) rfl (fun ls hl => ?_)
  exact w7_common_6 C _ _ _ _ _ _ h P (lv_sub hl [1, 0] rfl)
theorem w7_partOf_10 (C : zCx p s m args meth c cX7_partOf 5 RX7 (some .long) D ad cA A) {z : Int64} {S : Zs} (x0 : Int64) (x2 : Int64) (t0 : Int64) (H : Heap) (locs : List Loc) (ls : Array Slot) (h : f7_partOf_10 x0 x2 t0 = some z) (P : zP D zM ad cA A S s H locs) (hl : lv_has ls 5 [(0, .long x0), (2, .long x2)]) :
    W p l e (zrm 1 29) s m args below meth c H locs 0 0 (MQ below (zQl D zM ad cA A (z, S)) args s 0 0 A) (F0 m 10 ls [.long t0]) := by
  have hx := C.1
  have hb := C.2.1
  unfold f7_partOf_10 at h
  refine lv_lload_n hx hb dX7_partOf_10 rfl (lv_at hl 0 rfl) ?_
  refine lv_lload_n hx hb dX7_partOf_11 rfl (lv_at hl 1 rfl) ?_
  obtain ⟨r12, g12, h⟩ := bd1_some h
  refine z_callSl C P (As := [.long x0, .long x2]) (m7_common g12) cW7_250 rfl (by decide) hl.1 rfl (Nat.le_of_ble_eq_true rfl) dX7_partOf_12 ⟨Nat.zero_le _, Nat.zero_le _⟩ (fun H locs P => ?_)
  refine z_ldiv hx hb dX7_partOf_15 h (fun h => ?_)
  exact z_lret C P (by rw [Option.some.inj h]) dX7_partOf_16
theorem m7_partOf {l : Launch} {D : va_G} {cA : Nat → ClassId} {ad : Nat → Nat} {x0 : Int64} {x2 : Int64} {x4 : Int32} {S : Zs} {z : Int64} (h : f7_partOf x0 x2 x4 = some z) :
    zMl l yX7_partOf cX7_partOf 5 1 29 D zM ad cA S [.long x0, .long x2, .int x4] (z, S) := by
  refine z_enter (Qc := fun A => zQl D zM ad cA A (z, S)) (by decide +kernel) (Nat.le_of_ble_eq_true rfl) (fun p e s m below meth c A C P ls hl => ?_)
  have hx := C.1
  have hb := C.2.1
  have hl : lv_has ls 5 [(0, .long x0), (2, .long x2), (4, .int x4)] := hl
  unfold f7_partOf at h
  refine lv_iload hx hb dX7_partOf_0 (lv_at hl 2 rfl) ?_
  refine z_if_ne (tgt := 9) hx hb dX7_partOf_2 (by decide) h (fun h => ?_) (fun h => ?_)
  · refine lv_lload_n hx hb dX7_partOf_9 rfl (lv_at hl 1 rfl) ?_
    exact w7_partOf_10 C _ _ _ _ _ _ h P (lv_sub hl [0, 1] rfl)
  · refine lv_lload_n hx hb dX7_partOf_5 rfl (lv_at hl 0 rfl) ?_
    refine lv_goto (tgt := 10) hx hb dX7_partOf_6 (by decide) ?_
    exact w7_partOf_10 C _ _ _ _ _ _ h P (lv_sub hl [0, 1] rfl)
theorem m7_wage {l : Launch} {D : va_G} {cA : Nat → ClassId} {ad : Nat → Nat} {x1 : Int32} {x2 : Int32} {S : Zs} {z : Int64 × Zs} (h : f7_wage x1 x2 S = some z) :
    zMl l yX7_wage cX7_wage 3 9 222 D zM ad cA S [.ref (ad 0), .int x1, .int x2] z := by
  refine z_enter (Qc := fun A => zQl D zM ad cA A z) (by decide +kernel) (Nat.le_of_ble_eq_true rfl) (fun p e s m below meth c A C P ls hl => ?_)
  have hx := C.1
  have hb := C.2.1
  have hl : lv_has ls 3 [(0, .ref (ad 0)), (1, .int x1), (2, .int x2)] := hl
  unfold f7_wage at h
  refine lv_aload_n hx hb dX7_wage_0 rfl (lv_at hl 0 rfl) ?_
  refine lv_iconst (v := 0) hx hb dX7_wage_1 (by decide) ?_
  refine pF7_62 C P zm0 rfl dX7_wage_2 h (fun S2 H locs h P => ?_)
  refine lv_aload_n hx hb dX7_wage_5 rfl (lv_at hl 0 rfl) ?_
  refine lv_iload_n hx hb dX7_wage_6 rfl (lv_at hl 1 rfl) ?_
  refine z_callVb C P (As := [.int x1]) (m7_isLand) cW7_189 rfl zm0 rfl (by decide) hl.1 rfl (Nat.le_of_ble_eq_true rfl) dX7_wage_7 ⟨Nat.zero_le _, Nat.zero_le _⟩ (fun H locs n7 P => ?_)
  refine z_if_eq (tgt := 23) hx hb dX7_wage_10 (by decide) h (fun h => ?_) (fun h => ?_)
  · refine lv_ldc2 (v := (-9000000000000000001)) hx hb C.2.2.2.1 (C.2.2.2.2.1 _ kK7_83) dX7_wage_23 ?_
    exact z_lret C P (Option.some.inj h) dX7_wage_26
  · refine lv_iload_n hx hb dX7_wage_13 rfl (lv_at hl 2 rfl) ?_
    refine lv_i2l hx hb dX7_wage_14 rfl ?_
    refine lv_lconst (v := 0) hx hb dX7_wage_15 (by decide) ?_
    refine lv_lconst (v := 1) hx hb dX7_wage_16 (by decide) ?_
    refine z_callSb C P (As := [.long x2.toInt64, .long (0 : Int64), .long (1 : Int64)]) (m7_in) cW7_73 rfl (by decide) hl.1 rfl (Nat.le_of_ble_eq_true rfl) dX7_wage_17 ⟨Nat.zero_le _, Nat.zero_le _⟩ (fun H locs n17 P => ?_)
    refine z_if_ne (tgt := 27) hx hb dX7_wage_20 (by decide) h (fun h => ?_) (fun h => ?_)
    · refine lv_aload_n hx hb dX7_wage_27 rfl (lv_at hl 0 rfl) ?_
      obtain ⟨S28, g28, h⟩ := bd1_some h
      refine z_callVv C P (As := []) (m7_restAll g28) cW7_254 rfl zm0 rfl (by decide) hl.1 rfl (Nat.le_of_ble_eq_true rfl) dX7_wage_28 ⟨Nat.zero_le _, Nat.zero_le _⟩ (fun H locs P => ?_)
      refine lv_aload_n hx hb dX7_wage_31 rfl (lv_at hl 0 rfl) ?_
      refine gF7_40 C P zm0 rfl dX7_wage_32 ?_
      refine lv_iload_n hx hb dX7_wage_35 rfl (lv_at hl 1 rfl) ?_
      refine z_lald C P zm11 dX7_wage_36 h (fun h hi => ?_)
      refine lv_aload_n hx hb dX7_wage_37 rfl (lv_at hl 0 rfl) ?_
      refine gF7_40 C P zm0 rfl dX7_wage_38 ?_
      refine lv_iconst (v := 0) hx hb dX7_wage_41 (by decide) ?_
      refine z_lald C P zm11 dX7_wage_42 h (fun h hi => ?_)
      refine lv_iload_n hx hb dX7_wage_43 rfl (lv_at hl 2 rfl) ?_
      obtain ⟨r44, g44, h⟩ := bd1_some h
      refine z_callSl C P (As := [.long (S28.2 11 x1.toNatClampNeg), .long (S28.2 11 (0 : Int32).toNatClampNeg), .int x2]) (m7_partOf g44) cW7_257 rfl (by decide) hl.1 rfl (Nat.le_of_ble_eq_true rfl) dX7_wage_44 ⟨Nat.zero_le _, Nat.zero_le _⟩ (fun H locs P => ?_)
      exact z_lret C P (Option.some.inj h) dX7_wage_47
    · refine lv_ldc2 (v := (-9000000000000000001)) hx hb C.2.2.2.1 (C.2.2.2.2.1 _ kK7_83) dX7_wage_23 ?_
      exact z_lret C P (Option.some.inj h) dX7_wage_26
theorem m7_price {l : Launch} {D : va_G} {cA : Nat → ClassId} {ad : Nat → Nat} {x1 : Int32} {x2 : Int32} {S : Zs} {z : Int64 × Zs} (h : f7_price x1 x2 S = some z) :
    zMl l yX7_price cX7_price 3 9 222 D zM ad cA S [.ref (ad 0), .int x1, .int x2] z := by
  refine z_enter (Qc := fun A => zQl D zM ad cA A z) (by decide +kernel) (Nat.le_of_ble_eq_true rfl) (fun p e s m below meth c A C P ls hl => ?_)
  have hx := C.1
  have hb := C.2.1
  have hl : lv_has ls 3 [(0, .ref (ad 0)), (1, .int x1), (2, .int x2)] := hl
  unfold f7_price at h
  refine lv_aload_n hx hb dX7_price_0 rfl (lv_at hl 0 rfl) ?_
  refine lv_iconst (v := 0) hx hb dX7_price_1 (by decide) ?_
  refine pF7_62 C P zm0 rfl dX7_price_2 h (fun S2 H locs h P => ?_)
  refine lv_aload_n hx hb dX7_price_5 rfl (lv_at hl 0 rfl) ?_
  refine lv_iload_n hx hb dX7_price_6 rfl (lv_at hl 1 rfl) ?_
  refine z_callVb C P (As := [.int x1]) (m7_isGood) cW7_192 rfl zm0 rfl (by decide) hl.1 rfl (Nat.le_of_ble_eq_true rfl) dX7_price_7 ⟨Nat.zero_le _, Nat.zero_le _⟩ (fun H locs n7 P => ?_)
  refine z_if_eq (tgt := 25) hx hb dX7_price_10 (by decide) h (fun h => ?_) (fun h => ?_)
  · refine lv_ldc2 (v := (-9000000000000000001)) hx hb C.2.2.2.1 (C.2.2.2.2.1 _ kK7_83) dX7_price_25 ?_
    exact z_lret C P (Option.some.inj h) dX7_price_28
  · refine lv_iload_n hx hb dX7_price_13 rfl (lv_at hl 2 rfl) ?_
    refine lv_i2l hx hb dX7_price_14 rfl ?_
    refine lv_lconst (v := 0) hx hb dX7_price_15 (by decide) ?_
    refine lv_ldc2 (v := 2) hx hb C.2.2.2.1 (C.2.2.2.2.1 _ kK7_81) dX7_price_16 ?_
    refine z_callSb C P (As := [.long x2.toInt64, .long (0 : Int64), .long (2 : Int64)]) (m7_in) cW7_73 rfl (by decide) hl.1 rfl (Nat.le_of_ble_eq_true rfl) dX7_price_19 ⟨Nat.zero_le _, Nat.zero_le _⟩ (fun H locs n19 P => ?_)
    refine z_if_ne (tgt := 29) hx hb dX7_price_22 (by decide) h (fun h => ?_) (fun h => ?_)
    · refine lv_aload_n hx hb dX7_price_29 rfl (lv_at hl 0 rfl) ?_
      obtain ⟨S30, g30, h⟩ := bd1_some h
      refine z_callVv C P (As := []) (m7_restAll g30) cW7_254 rfl zm0 rfl (by decide) hl.1 rfl (Nat.le_of_ble_eq_true rfl) dX7_price_30 ⟨Nat.zero_le _, Nat.zero_le _⟩ (fun H locs P => ?_)
      refine lv_iload_n hx hb dX7_price_33 rfl (lv_at hl 2 rfl) ?_
      refine lv_iconst (v := 2) hx hb dX7_price_34 (by decide) ?_
      refine z_icmp_ne (tgt := 51) hx hb dX7_price_35 (by decide) h (fun h => ?_) (fun h => ?_)
      · refine lv_aload_n hx hb dX7_price_51 rfl (lv_at hl 0 rfl) ?_
        refine lv_aload_n hx hb dX7_price_52 rfl (lv_at hl 0 rfl) ?_
        refine z_callVi C P (As := []) (m7_every) cW7_244 rfl zm0 rfl (by decide) hl.1 rfl (Nat.le_of_ble_eq_true rfl) dX7_price_53 ⟨Nat.zero_le _, Nat.zero_le _⟩ (fun H locs P => ?_)
        refine lv_iload_n hx hb dX7_price_56 rfl (lv_at hl 1 rfl) ?_
        obtain ⟨r57, g57, h⟩ := bd1_some h
        refine z_callVl C P (As := [.int (f7_every S30), .int x1]) (m7_priceOf g57) cW7_205 rfl zm0 rfl (by decide) hl.1 rfl (Nat.le_of_ble_eq_true rfl) dX7_price_57 ⟨Nat.zero_le _, Nat.zero_le _⟩ (fun H locs P => ?_)
        refine lv_aload_n hx hb dX7_price_60 rfl (lv_at hl 0 rfl) ?_
        refine gF7_40 C P zm0 rfl dX7_price_61 ?_
        refine lv_iconst (v := 0) hx hb dX7_price_64 (by decide) ?_
        refine z_lald C P zm11 dX7_price_65 h (fun h hi => ?_)
        refine lv_iload_n hx hb dX7_price_66 rfl (lv_at hl 2 rfl) ?_
        obtain ⟨r67, g67, h⟩ := bd1_some h
        refine z_callSl C P (As := [.long r57, .long (S30.2 11 (0 : Int32).toNatClampNeg), .int x2]) (m7_partOf g67) cW7_257 rfl (by decide) hl.1 rfl (Nat.le_of_ble_eq_true rfl) dX7_price_67 ⟨Nat.zero_le _, Nat.zero_le _⟩ (fun H locs P => ?_)
        exact z_lret C P (Option.some.inj h) dX7_price_70
      · refine lv_aload_n hx hb dX7_price_38 rfl (lv_at hl 0 rfl) ?_
        refine lv_aload_n hx hb dX7_price_39 rfl (lv_at hl 0 rfl) ?_
        refine z_callVi C P (As := []) (m7_every) cW7_244 rfl zm0 rfl (by decide) hl.1 rfl (Nat.le_of_ble_eq_true rfl) dX7_price_40 ⟨Nat.zero_le _, Nat.zero_le _⟩ (fun H locs P => ?_)
        refine lv_iload_n hx hb dX7_price_43 rfl (lv_at hl 1 rfl) ?_
        obtain ⟨r44, g44, h⟩ := bd1_some h
        refine z_callVi C P (As := [.int (f7_every S30), .int x1]) (m7_makersOf g44) cW7_211 rfl zm0 rfl (by decide) hl.1 rfl (Nat.le_of_ble_eq_true rfl) dX7_price_44 ⟨Nat.zero_le _, Nat.zero_le _⟩ (fun H locs P => ?_)
        refine lv_i2l hx hb dX7_price_47 rfl ?_
        refine lv_goto (tgt := 70) hx hb dX7_price_48 (by decide) ?_
        exact z_lret C P (Option.some.inj h) dX7_price_70
    · refine lv_ldc2 (v := (-9000000000000000001)) hx hb C.2.2.2.1 (C.2.2.2.2.1 _ kK7_83) dX7_price_25 ?_
      exact z_lret C P (Option.some.inj h) dX7_price_28
theorem m7_gain {l : Launch} {D : va_G} {cA : Nat → ClassId} {ad : Nat → Nat} {x1 : Int32} {x2 : Int32} {x3 : Int32} {S : Zs} {z : Int64 × Zs} (h : f7_gain x1 x2 x3 S = some z) :
    zMl l yX7_gain cX7_gain 4 9 222 D zM ad cA S [.ref (ad 0), .int x1, .int x2, .int x3] z := by
  refine z_enter (Qc := fun A => zQl D zM ad cA A z) (by decide +kernel) (Nat.le_of_ble_eq_true rfl) (fun p e s m below meth c A C P ls hl => ?_)
  have hx := C.1
  have hb := C.2.1
  have hl : lv_has ls 4 [(0, .ref (ad 0)), (1, .int x1), (2, .int x2), (3, .int x3)] := hl
  unfold f7_gain at h
  refine lv_aload_n hx hb dX7_gain_0 rfl (lv_at hl 0 rfl) ?_
  refine lv_iconst (v := 0) hx hb dX7_gain_1 (by decide) ?_
  refine pF7_62 C P zm0 rfl dX7_gain_2 h (fun S2 H locs h P => ?_)
  refine lv_aload_n hx hb dX7_gain_5 rfl (lv_at hl 0 rfl) ?_
  refine lv_iload_n hx hb dX7_gain_6 rfl (lv_at hl 1 rfl) ?_
  refine z_callVb C P (As := [.int x1]) (m7_isLand) cW7_189 rfl zm0 rfl (by decide) hl.1 rfl (Nat.le_of_ble_eq_true rfl) dX7_gain_7 ⟨Nat.zero_le _, Nat.zero_le _⟩ (fun H locs n7 P => ?_)
  refine z_if_eq (tgt := 31) hx hb dX7_gain_10 (by decide) h (fun h => ?_) (fun h => ?_)
  · refine lv_ldc2 (v := (-9000000000000000001)) hx hb C.2.2.2.1 (C.2.2.2.2.1 _ kK7_83) dX7_gain_31 ?_
    exact z_lret C P (Option.some.inj h) dX7_gain_34
  · refine lv_aload_n hx hb dX7_gain_13 rfl (lv_at hl 0 rfl) ?_
    refine lv_iload_n hx hb dX7_gain_14 rfl (lv_at hl 2 rfl) ?_
    refine z_callVb C P (As := [.int x2]) (m7_isGood) cW7_192 rfl zm0 rfl (by decide) hl.1 rfl (Nat.le_of_ble_eq_true rfl) dX7_gain_15 ⟨Nat.zero_le _, Nat.zero_le _⟩ (fun H locs n15 P => ?_)
    refine z_if_eq (tgt := 31) hx hb dX7_gain_18 (by decide) h (fun h => ?_) (fun h => ?_)
    · refine lv_ldc2 (v := (-9000000000000000001)) hx hb C.2.2.2.1 (C.2.2.2.2.1 _ kK7_83) dX7_gain_31 ?_
      exact z_lret C P (Option.some.inj h) dX7_gain_34
    · refine lv_iload_n hx hb dX7_gain_21 rfl (lv_at hl 3 rfl) ?_
      refine lv_i2l hx hb dX7_gain_22 rfl ?_
      refine lv_lconst (v := 0) hx hb dX7_gain_23 (by decide) ?_
      refine lv_lconst (v := 1) hx hb dX7_gain_24 (by decide) ?_
      refine z_callSb C P (As := [.long x3.toInt64, .long (0 : Int64), .long (1 : Int64)]) (m7_in) cW7_73 rfl (by decide) hl.1 rfl (Nat.le_of_ble_eq_true rfl) dX7_gain_25 ⟨Nat.zero_le _, Nat.zero_le _⟩ (fun H locs n25 P => ?_)
      refine z_if_ne (tgt := 35) hx hb dX7_gain_28 (by decide) h (fun h => ?_) (fun h => ?_)
      · refine lv_aload_n hx hb dX7_gain_35 rfl (lv_at hl 0 rfl) ?_
        obtain ⟨S36, g36, h⟩ := bd1_some h
        refine z_callVv C P (As := []) (m7_restAll g36) cW7_254 rfl zm0 rfl (by decide) hl.1 rfl (Nat.le_of_ble_eq_true rfl) dX7_gain_36 ⟨Nat.zero_le _, Nat.zero_le _⟩ (fun H locs P => ?_)
        refine lv_aload_n hx hb dX7_gain_39 rfl (lv_at hl 0 rfl) ?_
        refine lv_iload_n hx hb dX7_gain_40 rfl (lv_at hl 1 rfl) ?_
        refine lv_iload_n hx hb dX7_gain_41 rfl (lv_at hl 2 rfl) ?_
        obtain ⟨r42, g42, h⟩ := bd1_some h
        refine z_callVl C P (As := [.int x1, .int x2]) (m7_costOf g42) cW7_201 rfl zm0 rfl (by decide) hl.1 rfl (Nat.le_of_ble_eq_true rfl) dX7_gain_42 ⟨Nat.zero_le _, Nat.zero_le _⟩ (fun H locs P => ?_)
        refine lv_aload_n hx hb dX7_gain_45 rfl (lv_at hl 0 rfl) ?_
        refine lv_aload_n hx hb dX7_gain_46 rfl (lv_at hl 0 rfl) ?_
        refine z_callVi C P (As := []) (m7_every) cW7_244 rfl zm0 rfl (by decide) hl.1 rfl (Nat.le_of_ble_eq_true rfl) dX7_gain_47 ⟨Nat.zero_le _, Nat.zero_le _⟩ (fun H locs P => ?_)
        refine lv_iload_n hx hb dX7_gain_50 rfl (lv_at hl 2 rfl) ?_
        obtain ⟨r51, g51, h⟩ := bd1_some h
        refine z_callVl C P (As := [.int (f7_every S36), .int x2]) (m7_priceOf g51) cW7_205 rfl zm0 rfl (by decide) hl.1 rfl (Nat.le_of_ble_eq_true rfl) dX7_gain_51 ⟨Nat.zero_le _, Nat.zero_le _⟩ (fun H locs P => ?_)
        refine lv_iload_n hx hb dX7_gain_54 rfl (lv_at hl 3 rfl) ?_
        obtain ⟨r55, g55, h⟩ := bd1_some h
        refine z_callSl C P (As := [.long r42, .long r51, .int x3]) (m7_partOf g55) cW7_257 rfl (by decide) hl.1 rfl (Nat.le_of_ble_eq_true rfl) dX7_gain_55 ⟨Nat.zero_le _, Nat.zero_le _⟩ (fun H locs P => ?_)
        exact z_lret C P (Option.some.inj h) dX7_gain_58
      · refine lv_ldc2 (v := (-9000000000000000001)) hx hb C.2.2.2.1 (C.2.2.2.2.1 _ kK7_83) dX7_gain_31 ?_
        exact z_lret C P (Option.some.inj h) dX7_gain_34
theorem w7_judge_101 (C : zCx p s m args meth c cX7_judge 6 RX7 (some .long) D ad cA A) {z : Int64 × Zs} :
    ∀ (n : Nat) (x1 : Int32) (x2 : Int32) (x5 : Int32) (S : Zs) (H : Heap) (locs : List Loc) (ls : Array Slot), f7_judge_101 n x1 x2 x5 S = some z → zP D zM ad cA A S s H locs → lv_has ls 6 [(0, .ref (ad 0)), (1, .int x1), (2, .int x2), (5, .int x5)] → W p l e (zrm 4 99) s m args below meth c H locs 0 0 (MQ below (zQl D zM ad cA A z) args s 0 0 A) (F0 m 101 ls []) := by
  have hx := C.1
  have hb := C.2.1
  intro n
  induction n with
  | zero =>
    intro x1 x2 x5 S H locs ls h
    cases h
  | succ n ih =>
    intro x1 x2 x5 S H locs ls h P hl
    unfold f7_judge_101 at h
    refine lv_iload hx hb dX7_judge_101 (lv_at hl 3 rfl) ?_
    refine lv_aload_n hx hb dX7_judge_103 rfl (lv_at hl 0 rfl) ?_
    refine gF7_176 C P zm0 rfl dX7_judge_104 ?_
    refine z_icmp_ge (tgt := 138) hx hb dX7_judge_107 (by decide) h (fun h => ?_) (fun h => ?_)
    · refine lv_aload_n hx hb dX7_judge_138 rfl (lv_at hl 0 rfl) ?_
      refine lv_aload_n hx hb dX7_judge_139 rfl (lv_at hl 0 rfl) ?_
      refine z_callVi C P (As := []) (m7_every) cW7_244 rfl zm0 rfl (by decide) hl.1 rfl (Nat.le_of_ble_eq_true rfl) dX7_judge_140 ⟨Nat.zero_le _, Nat.zero_le _⟩ (fun H locs P => ?_)
      obtain ⟨r143, S143, g143, h⟩ := bd2_some h
      refine z_callVi C P (As := [.int (f7_every S)]) (m7_idleOf g143) cW7_219 rfl zm0 rfl (by decide) hl.1 rfl (Nat.le_of_ble_eq_true rfl) dX7_judge_143 ⟨Nat.zero_le _, Nat.zero_le _⟩ (fun H locs P => ?_)
      refine lv_i2l hx hb dX7_judge_146 rfl ?_
      exact z_lret C P (Option.some.inj h) dX7_judge_147
    · refine lv_aload_n hx hb dX7_judge_110 rfl (lv_at hl 0 rfl) ?_
      refine gF7_40 C P zm0 rfl dX7_judge_111 ?_
      refine lv_iload hx hb dX7_judge_114 (lv_at hl 3 rfl) ?_
      refine lv_aload_n hx hb dX7_judge_116 rfl (lv_at hl 0 rfl) ?_
      refine gF7_16 C P zm0 rfl dX7_judge_117 ?_
      refine lv_bipush (v := 40) hx hb dX7_judge_120 (by decide) ?_
      refine lv_iload_n hx hb dX7_judge_122 rfl (lv_at hl 1 rfl) ?_
      refine lv_imul hx hb dX7_judge_123 ?_
      refine lv_iload_n hx hb dX7_judge_124 rfl (lv_at hl 2 rfl) ?_
      refine lv_iadd hx hb dX7_judge_125 ?_
      refine lv_iload hx hb dX7_judge_126 (lv_at hl 3 rfl) ?_
      refine lv_iadd hx hb dX7_judge_128 ?_
      refine z_iald C P zm3 dX7_judge_129 h (fun h hi => ?_)
      refine lv_i2l hx hb dX7_judge_130 rfl ?_
      refine z_last C P zm11 dX7_judge_131 h (fun S131 H locs h P => ?_)
      obtain ⟨v132, ev132, h⟩ := z_nm h
      refine lv_iinc (v := v132) (lv' := [(5, .int v132), (0, .ref (ad 0)), (1, .int x1), (2, .int x2)]) hx hb dX7_judge_132 hl (k := 3) rfl (by rw [ev132]; rfl) (by decide) rfl (fun ls hl => ?_)
      refine lv_goto (tgt := 101) hx hb dX7_judge_135 (by decide) ?_
      exact ih _ _ _ _ _ _ _ h P (lv_sub hl [1, 2, 3, 0] rfl)
theorem w7_judge_49 (C : zCx p s m args meth c cX7_judge 6 RX7 (some .long) D ad cA A) {z : Int64 × Zs} :
    ∀ (n : Nat) (x1 : Int32) (x2 : Int32) (x5 : Int32) (S : Zs) (H : Heap) (locs : List Loc) (ls : Array Slot), f7_judge_49 n x1 x2 x5 S = some z → zP D zM ad cA A S s H locs → lv_has ls 6 [(0, .ref (ad 0)), (1, .int x1), (2, .int x2), (5, .int x5)] → W p l e (zrm 4 99) s m args below meth c H locs 0 0 (MQ below (zQl D zM ad cA A z) args s 0 0 A) (F0 m 49 ls []) := by
  have hx := C.1
  have hb := C.2.1
  intro n
  induction n with
  | zero =>
    intro x1 x2 x5 S H locs ls h
    cases h
  | succ n ih =>
    intro x1 x2 x5 S H locs ls h P hl
    unfold f7_judge_49 at h
    refine lv_iload hx hb dX7_judge_49 (lv_at hl 3 rfl) ?_
    refine lv_aload_n hx hb dX7_judge_51 rfl (lv_at hl 0 rfl) ?_
    refine gF7_176 C P zm0 rfl dX7_judge_52 ?_
    refine z_icmp_ge (tgt := 93) hx hb dX7_judge_55 (by decide) h (fun h => ?_) (fun h => ?_)
    · refine lv_aload_n hx hb dX7_judge_93 rfl (lv_at hl 0 rfl) ?_
      refine lv_iconst (v := 0) hx hb dX7_judge_94 (by decide) ?_
      refine pF7_66 C P zm0 rfl dX7_judge_95 h (fun S95 H locs h P => ?_)
      refine lv_iconst (v := 0) hx hb dX7_judge_98 (by decide) ?_
      refine lv_istore (lv' := [(5, .int (0 : Int32)), (0, .ref (ad 0)), (1, .int x1), (2, .int x2)]) hx hb dX7_judge_99 hl (by decide) rfl (fun ls hl => ?_)
      exact w7_judge_101 C _ _ _ _ _ _ _ _ h P (lv_sub hl [1, 2, 3, 0] rfl)
    · refine lv_aload_n hx hb dX7_judge_58 rfl (lv_at hl 0 rfl) ?_
      refine gF7_16 C P zm0 rfl dX7_judge_59 ?_
      refine lv_bipush (v := 40) hx hb dX7_judge_62 (by decide) ?_
      refine lv_iload_n hx hb dX7_judge_64 rfl (lv_at hl 1 rfl) ?_
      refine lv_imul hx hb dX7_judge_65 ?_
      refine lv_iload_n hx hb dX7_judge_66 rfl (lv_at hl 2 rfl) ?_
      refine lv_iadd hx hb dX7_judge_67 ?_
      refine lv_iload hx hb dX7_judge_68 (lv_at hl 3 rfl) ?_
      refine lv_iadd hx hb dX7_judge_70 ?_
      refine z_iald C P zm3 dX7_judge_71 h (fun h hi => ?_)
      refine lv_i2l hx hb dX7_judge_72 rfl ?_
      refine lv_lconst (v := 1) hx hb dX7_judge_73 (by decide) ?_
      refine lv_ldc2 (v := 999) hx hb C.2.2.2.1 (C.2.2.2.2.1 _ kK7_267) dX7_judge_74 ?_
      refine z_callSb C P (As := [.long ((S.1 3 ((((40 : Int32) * x1) + x2) + x5).toNatClampNeg).toInt64), .long (1 : Int64), .long (999 : Int64)]) (m7_in) cW7_73 rfl (by decide) hl.1 rfl (Nat.le_of_ble_eq_true rfl) dX7_judge_77 ⟨Nat.zero_le _, Nat.zero_le _⟩ (fun H locs n77 P => ?_)
      refine z_if_ne (tgt := 87) hx hb dX7_judge_80 (by decide) h (fun h => ?_) (fun h => ?_)
      · obtain ⟨v87, ev87, h⟩ := z_nm h
        refine lv_iinc (v := v87) (lv' := [(5, .int v87), (0, .ref (ad 0)), (1, .int x1), (2, .int x2)]) hx hb dX7_judge_87 hl (k := 3) rfl (by rw [ev87]; rfl) (by decide) rfl (fun ls hl => ?_)
        refine lv_goto (tgt := 49) hx hb dX7_judge_90 (by decide) ?_
        exact ih _ _ _ _ _ _ _ h P (lv_sub hl [1, 2, 3, 0] rfl)
      · refine lv_ldc2 (v := (-9000000000000000001)) hx hb C.2.2.2.1 (C.2.2.2.2.1 _ kK7_83) dX7_judge_83 ?_
        exact z_lret C P (Option.some.inj h) dX7_judge_86
theorem m7_judge {l : Launch} {D : va_G} {cA : Nat → ClassId} {ad : Nat → Nat} {x1 : Int32} {x2 : Int32} {S : Zs} {z : Int64 × Zs} (h : f7_judge x1 x2 S = some z) :
    zMl l yX7_judge cX7_judge 6 4 99 D zM ad cA S [.ref (ad 0), .int x1, .int x2] z := by
  refine z_enter (Qc := fun A => zQl D zM ad cA A z) (by decide +kernel) (Nat.le_of_ble_eq_true rfl) (fun p e s m below meth c A C P ls hl => ?_)
  have hx := C.1
  have hb := C.2.1
  have hl : lv_has ls 6 [(0, .ref (ad 0)), (1, .int x1), (2, .int x2)] := hl
  unfold f7_judge at h
  refine lv_aload_n hx hb dX7_judge_0 rfl (lv_at hl 0 rfl) ?_
  refine lv_iconst (v := 0) hx hb dX7_judge_1 (by decide) ?_
  refine pF7_62 C P zm0 rfl dX7_judge_2 h (fun S2 H locs h P => ?_)
  refine lv_iload_n hx hb dX7_judge_5 rfl (lv_at hl 1 rfl) ?_
  refine z_callSb C P (As := [.int x1]) (m7_isRow) cW7_77 rfl (by decide) hl.1 rfl (Nat.le_of_ble_eq_true rfl) dX7_judge_6 ⟨Nat.zero_le _, Nat.zero_le _⟩ (fun H locs n6 P => ?_)
  refine z_if_ne (tgt := 16) hx hb dX7_judge_9 (by decide) h (fun h => ?_) (fun h => ?_)
  · refine lv_aload_n hx hb dX7_judge_16 rfl (lv_at hl 0 rfl) ?_
    refine gF7_176 C P zm0 rfl dX7_judge_17 ?_
    refine z_if_ne (tgt := 27) hx hb dX7_judge_20 (by decide) h (fun h => ?_) (fun h => ?_)
    · refine lv_aload_n hx hb dX7_judge_27 rfl (lv_at hl 0 rfl) ?_
      refine lv_iload_n hx hb dX7_judge_28 rfl (lv_at hl 1 rfl) ?_
      refine lv_iload_n hx hb dX7_judge_29 rfl (lv_at hl 2 rfl) ?_
      refine lv_aload_n hx hb dX7_judge_30 rfl (lv_at hl 0 rfl) ?_
      refine gF7_176 C P zm0 rfl dX7_judge_31 ?_
      obtain ⟨r34, S34, g34, h⟩ := bd2_some h
      refine z_callVl C P (As := [.int x1, .int x2, .int (S2.1 0 5)]) (m7_lookItems g34) cW7_263 rfl zm0 rfl (by decide) hl.1 rfl (Nat.le_of_ble_eq_true rfl) dX7_judge_34 ⟨Nat.zero_le _, Nat.zero_le _⟩ (fun H locs P => ?_)
      refine lv_lstore_n (lv' := [(3, .long r34), (0, .ref (ad 0)), (1, .int x1), (2, .int x2)]) hx hb dX7_judge_37 rfl hl (by decide) rfl (fun ls hl => ?_)
      refine lv_lload_n hx hb dX7_judge_38 rfl (lv_at hl 0 rfl) ?_
      refine lv_lconst (v := 0) hx hb dX7_judge_39 (by decide) ?_
      refine z_lcmp_ge (tgt := 46) hx hb dX7_judge_40 dX7_judge_41 (by decide) h (fun h => ?_) (fun h => ?_)
      · refine lv_iconst (v := 0) hx hb dX7_judge_46 (by decide) ?_
        refine lv_istore (lv' := [(5, .int (0 : Int32)), (3, .long r34), (0, .ref (ad 0)), (1, .int x1), (2, .int x2)]) hx hb dX7_judge_47 hl (by decide) rfl (fun ls hl => ?_)
        exact w7_judge_49 C _ _ _ _ _ _ _ _ h P (lv_sub hl [2, 3, 4, 0] rfl)
      · refine lv_lload_n hx hb dX7_judge_44 rfl (lv_at hl 0 rfl) ?_
        exact z_lret C P (Option.some.inj h) dX7_judge_45
    · refine lv_ldc2 (v := (-9000000000000000002)) hx hb C.2.2.2.1 (C.2.2.2.2.1 _ kK7_261) dX7_judge_23 ?_
      exact z_lret C P (Option.some.inj h) dX7_judge_26
  · refine lv_ldc2 (v := (-9000000000000000001)) hx hb C.2.2.2.1 (C.2.2.2.2.1 _ kK7_83) dX7_judge_12 ?_
    exact z_lret C P (Option.some.inj h) dX7_judge_15
theorem m7_isAhead {l : Launch} {D : va_G} {cA : Nat → ClassId} {ad : Nat → Nat} {x1 : Int32} {x2 : Int32} {x3 : Int32} {x4 : Int32} {S : Zs} {z : Int32} (h : f7_isAhead S x1 x2 x3 x4 = some z) :
    zMb l yX7_isAhead cX7_isAhead 7 0 0 D zM ad cA S [.ref (ad 0), .int x1, .int x2, .int x3, .int x4] (z, S) := by
  refine z_enter (Qc := fun A => zQb D zM ad cA A (z, S)) (by decide +kernel) (Nat.le_of_ble_eq_true rfl) (fun p e s m below meth c A C P ls hl => ?_)
  have hx := C.1
  have hb := C.2.1
  have hl : lv_has ls 7 [(0, .ref (ad 0)), (1, .int x1), (2, .int x2), (3, .int x3), (4, .int x4)] := hl
  unfold f7_isAhead at h
  refine lv_aload_n hx hb dX7_isAhead_0 rfl (lv_at hl 0 rfl) ?_
  refine gF7_25 C P zm0 rfl dX7_isAhead_1 ?_
  refine lv_bipush (v := 6) hx hb dX7_isAhead_4 (by decide) ?_
  refine lv_iload_n hx hb dX7_isAhead_6 rfl (lv_at hl 1 rfl) ?_
  refine lv_imul hx hb dX7_isAhead_7 ?_
  refine lv_iload_n hx hb dX7_isAhead_8 rfl (lv_at hl 3 rfl) ?_
  refine lv_iadd hx hb dX7_isAhead_9 ?_
  refine z_iald C P zm6 dX7_isAhead_10 h (fun h hi => ?_)
  refine lv_aload_n hx hb dX7_isAhead_11 rfl (lv_at hl 0 rfl) ?_
  refine gF7_25 C P zm0 rfl dX7_isAhead_12 ?_
  refine lv_bipush (v := 6) hx hb dX7_isAhead_15 (by decide) ?_
  refine lv_iload_n hx hb dX7_isAhead_17 rfl (lv_at hl 2 rfl) ?_
  refine lv_imul hx hb dX7_isAhead_18 ?_
  refine lv_iload hx hb dX7_isAhead_19 (lv_at hl 4 rfl) ?_
  refine lv_iadd hx hb dX7_isAhead_21 ?_
  refine z_iald C P zm6 dX7_isAhead_22 h (fun h hi => ?_)
  refine lv_imul hx hb dX7_isAhead_23 ?_
  refine z_topi h (fun v24 h => ?_)
  refine lv_istore (lv' := [(5, .int v24), (0, .ref (ad 0)), (1, .int x1), (2, .int x2), (3, .int x3), (4, .int x4)]) hx hb dX7_isAhead_24 hl (by decide) rfl (fun ls hl => ?_)
  refine lv_aload_n hx hb dX7_isAhead_26 rfl (lv_at hl 1 rfl) ?_
  refine gF7_25 C P zm0 rfl dX7_isAhead_27 ?_
  refine lv_bipush (v := 6) hx hb dX7_isAhead_30 (by decide) ?_
  refine lv_iload_n hx hb dX7_isAhead_32 rfl (lv_at hl 2 rfl) ?_
  refine lv_imul hx hb dX7_isAhead_33 ?_
  refine lv_iload hx hb dX7_isAhead_34 (lv_at hl 5 rfl) ?_
  refine lv_iadd hx hb dX7_isAhead_36 ?_
  refine z_iald C P zm6 dX7_isAhead_37 h (fun h hi => ?_)
  refine lv_aload_n hx hb dX7_isAhead_38 rfl (lv_at hl 1 rfl) ?_
  refine gF7_25 C P zm0 rfl dX7_isAhead_39 ?_
  refine lv_bipush (v := 6) hx hb dX7_isAhead_42 (by decide) ?_
  refine lv_iload_n hx hb dX7_isAhead_44 rfl (lv_at hl 3 rfl) ?_
  refine lv_imul hx hb dX7_isAhead_45 ?_
  refine lv_iload_n hx hb dX7_isAhead_46 rfl (lv_at hl 4 rfl) ?_
  refine lv_iadd hx hb dX7_isAhead_47 ?_
  refine z_iald C P zm6 dX7_isAhead_48 h (fun h hi => ?_)
  refine lv_imul hx hb dX7_isAhead_49 ?_
  refine z_topi h (fun v50 h => ?_)
  refine lv_istore (lv' := [(6, .int v50), (5, .int v24), (0, .ref (ad 0)), (1, .int x1), (2, .int x2), (3, .int x3), (4, .int x4)]) hx hb dX7_isAhead_50 hl (by decide) rfl (fun ls hl => ?_)
  refine lv_iload hx hb dX7_isAhead_52 (lv_at hl 1 rfl) ?_
  refine lv_iload hx hb dX7_isAhead_54 (lv_at hl 0 rfl) ?_
  refine z_icmp_lt (tgt := 72) hx hb dX7_isAhead_56 (by decide) h (fun h => ?_) (fun h => ?_)
  · refine lv_iconst (v := 1) hx hb dX7_isAhead_72 (by decide) ?_
    refine lv_goto (tgt := 77) hx hb dX7_isAhead_73 (by decide) ?_
    exact z_zret C P (by rw [Option.some.inj h]) (by decide) dX7_isAhead_77
  · refine lv_iload hx hb dX7_isAhead_59 (lv_at hl 1 rfl) ?_
    refine lv_iload hx hb dX7_isAhead_61 (lv_at hl 0 rfl) ?_
    refine z_icmp_ne (tgt := 76) hx hb dX7_isAhead_63 (by decide) h (fun h => ?_) (fun h => ?_)
    · refine lv_iconst (v := 0) hx hb dX7_isAhead_76 (by decide) ?_
      exact z_zret C P (by rw [Option.some.inj h]) (by decide) dX7_isAhead_77
    · refine lv_iload_n hx hb dX7_isAhead_66 rfl (lv_at hl 5 rfl) ?_
      refine lv_iload hx hb dX7_isAhead_67 (lv_at hl 6 rfl) ?_
      refine z_icmp_ge (tgt := 76) hx hb dX7_isAhead_69 (by decide) h (fun h => ?_) (fun h => ?_)
      · refine lv_iconst (v := 0) hx hb dX7_isAhead_76 (by decide) ?_
        exact z_zret C P (by rw [Option.some.inj h]) (by decide) dX7_isAhead_77
      · refine lv_iconst (v := 1) hx hb dX7_isAhead_72 (by decide) ?_
        refine lv_goto (tgt := 77) hx hb dX7_isAhead_73 (by decide) ?_
        exact z_zret C P (by rw [Option.some.inj h]) (by decide) dX7_isAhead_77
end ZVM4
