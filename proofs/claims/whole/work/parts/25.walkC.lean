section ZVC5
variable {p : Program} {l : Launch} {e : Env} {s : State} {m : MethodId} {args : Array Value} {below : List Frame} {meth : Method} {c : Code} {D : va_G} {cA : Nat → ClassId} {A : Nat → Prop} {ad : Nat → Nat}
theorem w6_bestGift_92 (C : zCx p s m args meth c cX6_bestGift 5 RX6 (some .int) D ad cA A) {z : Int32} {S : Zs} {k5 : Int32 → Int32 → Int32 → Int32 → Option Int32} (hk5 : ∀ (x1 : Int32) (x2 : Int32) (x3 : Int32) (x4 : Int32) (H : Heap) (locs : List Loc) (ls : Array Slot), k5 x1 x2 x3 x4 = some z → zP D zC ad cA A S s H locs → lv_has ls 5 [(0, .ref (ad 0)), (1, .int x1), (2, .int x2), (3, .int x3), (4, .int x4)] → W p l e (zrm 0 0) s m args below meth c H locs 0 0 (MQ below (zQi D zC ad cA A (z, S)) args s 0 0 A) (F0 m 5 ls [])) (x1 : Int32) (x2 : Int32) (x3 : Int32) (x4 : Int32) (H : Heap) (locs : List Loc) (ls : Array Slot) (h : f6_bestGift_92 S k5 x1 x2 x3 x4 = some z) (P : zP D zC ad cA A S s H locs) (hl : lv_has ls 5 [(0, .ref (ad 0)), (1, .int x1), (2, .int x2), (3, .int x3), (4, .int x4)]) :
    W p l e (zrm 0 0) s m args below meth c H locs 0 0 (MQ below (zQi D zC ad cA A (z, S)) args s 0 0 A) (F0 m 92 ls []) := by
  have hx := C.1
  have hb := C.2.1
  unfold f6_bestGift_92 at h
  obtain ⟨v92, ev92, h⟩ := z_nm h
  refine lv_iinc (v := v92) (lv' := [(4, .int v92), (0, .ref (ad 0)), (1, .int x1), (2, .int x2), (3, .int x3)]) hx hb dX6_bestGift_92 hl (k := 4) rfl (by rw [ev92]; rfl) (by decide) rfl (fun ls hl => ?_)
  refine lv_goto (tgt := 5) hx hb dX6_bestGift_95 (by decide) ?_
  exact hk5 _ _ _ _ _ _ _ h P (lv_sub hl [1, 2, 3, 4, 0] rfl)
theorem w6_bestGift_89 (C : zCx p s m args meth c cX6_bestGift 5 RX6 (some .int) D ad cA A) {z : Int32} {S : Zs} {k5 : Int32 → Int32 → Int32 → Int32 → Option Int32} (hk5 : ∀ (x1 : Int32) (x2 : Int32) (x3 : Int32) (x4 : Int32) (H : Heap) (locs : List Loc) (ls : Array Slot), k5 x1 x2 x3 x4 = some z → zP D zC ad cA A S s H locs → lv_has ls 5 [(0, .ref (ad 0)), (1, .int x1), (2, .int x2), (3, .int x3), (4, .int x4)] → W p l e (zrm 0 0) s m args below meth c H locs 0 0 (MQ below (zQi D zC ad cA A (z, S)) args s 0 0 A) (F0 m 5 ls [])) (x1 : Int32) (x2 : Int32) (x4 : Int32) (H : Heap) (locs : List Loc) (ls : Array Slot) (h : f6_bestGift_89 S k5 x1 x2 x4 = some z) (P : zP D zC ad cA A S s H locs) (hl : lv_has ls 5 [(0, .ref (ad 0)), (1, .int x1), (2, .int x2), (4, .int x4)]) :
    W p l e (zrm 0 0) s m args below meth c H locs 0 0 (MQ below (zQi D zC ad cA A (z, S)) args s 0 0 A) (F0 m 89 ls []) := by
  have hx := C.1
  have hb := C.2.1
  unfold f6_bestGift_89 at h
  refine lv_iload hx hb dX6_bestGift_89 (lv_at hl 3 rfl) ?_
  refine lv_istore_n (lv' := [(3, .int x4), (0, .ref (ad 0)), (1, .int x1), (2, .int x2), (4, .int x4)]) hx hb dX6_bestGift_91 rfl hl (by decide) rfl (fun ls hl => ?_)
  exact w6_bestGift_92 C hk5 _ _ _ _ _ _ _ h P (lv_sub hl [1, 2, 3, 0, 4] rfl)
theorem w6_bestGift_5 (C : zCx p s m args meth c cX6_bestGift 5 RX6 (some .int) D ad cA A) {z : Int32} {S : Zs} :
    ∀ (n : Nat) (x1 : Int32) (x2 : Int32) (x3 : Int32) (x4 : Int32) (H : Heap) (locs : List Loc) (ls : Array Slot), f6_bestGift_5 S n x1 x2 x3 x4 = some z → zP D zC ad cA A S s H locs → lv_has ls 5 [(0, .ref (ad 0)), (1, .int x1), (2, .int x2), (3, .int x3), (4, .int x4)] → W p l e (zrm 0 0) s m args below meth c H locs 0 0 (MQ below (zQi D zC ad cA A (z, S)) args s 0 0 A) (F0 m 5 ls []) := by
  have hx := C.1
  have hb := C.2.1
  intro n
  induction n with
  | zero =>
    intro x1 x2 x3 x4 H locs ls h
    cases h
  | succ n ih =>
    intro x1 x2 x3 x4 H locs ls h P hl
    unfold f6_bestGift_5 at h
    refine lv_iload hx hb dX6_bestGift_5 (lv_at hl 4 rfl) ?_
    refine lv_aload_n hx hb dX6_bestGift_7 rfl (lv_at hl 0 rfl) ?_
    refine gF6_47 C P zs0 rfl dX6_bestGift_8 ?_
    refine gF6_203 C P zW_37.1 rfl dX6_bestGift_11 ?_
    refine z_icmp_ge (tgt := 98) hx hb dX6_bestGift_14 (by decide) h (fun h => ?_) (fun h => ?_)
    · refine lv_iload_n hx hb dX6_bestGift_98 rfl (lv_at hl 3 rfl) ?_
      exact z_iret C P (by rw [Option.some.inj h]) dX6_bestGift_99
    · refine lv_aload_n hx hb dX6_bestGift_17 rfl (lv_at hl 0 rfl) ?_
      refine gF6_61 C P zs0 rfl dX6_bestGift_18 ?_
      refine lv_iload hx hb dX6_bestGift_21 (lv_at hl 4 rfl) ?_
      refine z_iald C P zs65 dX6_bestGift_23 h (fun h hi => ?_)
      refine lv_iload_n hx hb dX6_bestGift_24 rfl (lv_at hl 1 rfl) ?_
      refine lv_ishr hx hb dX6_bestGift_25 ?_
      refine lv_iconst (v := 1) hx hb dX6_bestGift_26 (by decide) ?_
      refine lv_iand hx hb dX6_bestGift_27 ?_
      refine z_if_ne (tgt := 34) hx hb dX6_bestGift_28 (by decide) h (fun h => ?_) (fun h => ?_)
      · refine lv_iload_n hx hb dX6_bestGift_34 rfl (lv_at hl 3 rfl) ?_
        refine z_if_lt (tgt := 89) hx hb dX6_bestGift_35 (by decide) h (fun h => ?_) (fun h => ?_)
        · exact w6_bestGift_89 C ih _ _ _ _ _ _ h P (lv_sub hl [0, 1, 2, 4] rfl)
        · refine lv_aload_n hx hb dX6_bestGift_38 rfl (lv_at hl 0 rfl) ?_
          refine gF6_47 C P zs0 rfl dX6_bestGift_39 ?_
          refine gF6_157 C P zW_37.1 rfl dX6_bestGift_42 ?_
          refine lv_iload_n hx hb dX6_bestGift_45 rfl (lv_at hl 2 rfl) ?_
          refine z_aald C P zW_37.2.2.2.1 (zrs3 37) zW_37.2.2.2.2.1 dX6_bestGift_46 h (fun h hg46 => ?_)
          refine lv_iload hx hb dX6_bestGift_47 (lv_at hl 4 rfl) ?_
          refine z_iald C P hg46 dX6_bestGift_49 h (fun h hi => ?_)
          refine lv_aload_n hx hb dX6_bestGift_50 rfl (lv_at hl 0 rfl) ?_
          refine gF6_47 C P zs0 rfl dX6_bestGift_51 ?_
          refine gF6_157 C P zW_37.1 rfl dX6_bestGift_54 ?_
          refine lv_iload_n hx hb dX6_bestGift_57 rfl (lv_at hl 1 rfl) ?_
          refine z_aald C P zW_37.2.2.2.1 (zrs3 37) zW_37.2.2.2.2.1 dX6_bestGift_58 h (fun h hg58 => ?_)
          refine lv_iload_n hx hb dX6_bestGift_59 rfl (lv_at hl 3 rfl) ?_
          refine z_iald C P hg58 dX6_bestGift_60 h (fun h hi => ?_)
          refine lv_imul hx hb dX6_bestGift_61 ?_
          refine lv_aload_n hx hb dX6_bestGift_62 rfl (lv_at hl 0 rfl) ?_
          refine gF6_47 C P zs0 rfl dX6_bestGift_63 ?_
          refine gF6_157 C P zW_37.1 rfl dX6_bestGift_66 ?_
          refine lv_iload_n hx hb dX6_bestGift_69 rfl (lv_at hl 2 rfl) ?_
          refine z_aald C P zW_37.2.2.2.1 (zrs3 37) zW_37.2.2.2.2.1 dX6_bestGift_70 h (fun h hg70 => ?_)
          refine lv_iload_n hx hb dX6_bestGift_71 rfl (lv_at hl 3 rfl) ?_
          refine z_iald C P hg70 dX6_bestGift_72 h (fun h hi => ?_)
          refine lv_aload_n hx hb dX6_bestGift_73 rfl (lv_at hl 0 rfl) ?_
          refine gF6_47 C P zs0 rfl dX6_bestGift_74 ?_
          refine gF6_157 C P zW_37.1 rfl dX6_bestGift_77 ?_
          refine lv_iload_n hx hb dX6_bestGift_80 rfl (lv_at hl 1 rfl) ?_
          refine z_aald C P zW_37.2.2.2.1 (zrs3 37) zW_37.2.2.2.2.1 dX6_bestGift_81 h (fun h hg81 => ?_)
          refine lv_iload hx hb dX6_bestGift_82 (lv_at hl 4 rfl) ?_
          refine z_iald C P hg81 dX6_bestGift_84 h (fun h hi => ?_)
          refine lv_imul hx hb dX6_bestGift_85 ?_
          refine z_icmp_ge (tgt := 92) hx hb dX6_bestGift_86 (by decide) h (fun h => ?_) (fun h => ?_)
          · exact w6_bestGift_92 C ih _ _ _ _ _ _ _ h P (lv_sub hl [0, 1, 2, 3, 4] rfl)
          · exact w6_bestGift_89 C ih _ _ _ _ _ _ h P (lv_sub hl [0, 1, 2, 4] rfl)
      · refine lv_goto (tgt := 92) hx hb dX6_bestGift_31 (by decide) ?_
        exact w6_bestGift_92 C ih _ _ _ _ _ _ _ h P (lv_sub hl [0, 1, 2, 3, 4] rfl)
theorem m6_bestGift {l : Launch} {D : va_G} {cA : Nat → ClassId} {ad : Nat → Nat} {x1 : Int32} {x2 : Int32} {S : Zs} {z : Int32} (h : f6_bestGift S x1 x2 = some z) :
    zMi l yX6_bestGift cX6_bestGift 5 0 0 D zC ad cA S [.ref (ad 0), .int x1, .int x2] (z, S) := by
  refine z_enter (Qc := fun A => zQi D zC ad cA A (z, S)) (by decide +kernel) (Nat.le_of_ble_eq_true rfl) (fun p e s m below meth c A C P ls hl => ?_)
  have hx := C.1
  have hb := C.2.1
  have hl : lv_has ls 5 [(0, .ref (ad 0)), (1, .int x1), (2, .int x2)] := hl
  unfold f6_bestGift at h
  refine lv_iconst (v := (-1)) hx hb dX6_bestGift_0 (by decide) ?_
  refine lv_istore_n (lv' := [(3, .int (-1 : Int32)), (0, .ref (ad 0)), (1, .int x1), (2, .int x2)]) hx hb dX6_bestGift_1 rfl hl (by decide) rfl (fun ls hl => ?_)
  refine lv_iconst (v := 0) hx hb dX6_bestGift_2 (by decide) ?_
  refine lv_istore (lv' := [(4, .int (0 : Int32)), (3, .int (-1 : Int32)), (0, .ref (ad 0)), (1, .int x1), (2, .int x2)]) hx hb dX6_bestGift_3 hl (by decide) rfl (fun ls hl => ?_)
  exact w6_bestGift_5 C _ _ _ _ _ _ _ _ h P (lv_sub hl [2, 3, 4, 1, 0] rfl)
theorem w6_makesMore_51 (C : zCx p s m args meth c cX6_makesMore 11 RX6 (some .boolean) D ad cA A) {z : Int32} {S : Zs} {k20 : Int32 → Int32 → Int64 → Int64 → Int32 → Option Int32} (hk20 : ∀ (x1 : Int32) (x2 : Int32) (x3 : Int64) (x5 : Int64) (x7 : Int32) (H : Heap) (locs : List Loc) (ls : Array Slot), k20 x1 x2 x3 x5 x7 = some z → zP D zC ad cA A S s H locs → lv_has ls 11 [(0, .ref (ad 0)), (1, .int x1), (2, .int x2), (3, .long x3), (5, .long x5), (7, .int x7)] → W p l e (zrm 1 24) s m args below meth c H locs 0 0 (MQ below (zQb D zC ad cA A (z, S)) args s 0 0 A) (F0 m 20 ls [])) (x1 : Int32) (x2 : Int32) (x3 : Int64) (x5 : Int64) (x7 : Int32) (x8 : Int32) (t0 : Int32) (t1 : Int32) (H : Heap) (locs : List Loc) (ls : Array Slot) (h : f6_makesMore_51 S k20 x1 x2 x3 x5 x7 x8 t0 t1 = some z) (P : zP D zC ad cA A S s H locs) (hl : lv_has ls 11 [(0, .ref (ad 0)), (1, .int x1), (2, .int x2), (3, .long x3), (5, .long x5), (7, .int x7), (8, .int x8)]) :
    W p l e (zrm 1 24) s m args below meth c H locs 0 0 (MQ below (zQb D zC ad cA A (z, S)) args s 0 0 A) (F0 m 51 ls [.int t0, .int t1]) := by
  have hx := C.1
  have hb := C.2.1
  unfold f6_makesMore_51 at h
  refine z_callSi C P (As := [.int t1, .int t0]) (m6_landOfRing) cW6_288 rfl (by decide) hl.1 rfl (Nat.le_of_ble_eq_true rfl) dX6_makesMore_51 ⟨Nat.zero_le _, Nat.zero_le _⟩ (fun H locs P => ?_)
  refine z_topi h (fun v54 h => ?_)
  refine lv_istore (lv' := [(9, .int v54), (0, .ref (ad 0)), (1, .int x1), (2, .int x2), (3, .long x3), (5, .long x5), (7, .int x7), (8, .int x8)]) hx hb dX6_makesMore_54 hl (by decide) rfl (fun ls hl => ?_)
  refine lv_aload_n hx hb dX6_makesMore_56 rfl (lv_at hl 1 rfl) ?_
  refine gF6_47 C P zs0 rfl dX6_makesMore_57 ?_
  refine lv_iload hx hb dX6_makesMore_60 (lv_at hl 7 rfl) ?_
  refine z_callVb C P (As := [.int x8]) (m5_isLand zW_37) cW6_151 rfl zW_37.1 rfl (by decide) hl.1 rfl (Nat.le_of_ble_eq_true rfl) dX6_makesMore_62 ⟨Nat.zero_le _, Nat.zero_le _⟩ (fun H locs n62 P => ?_)
  refine z_if_eq (tgt := 80) hx hb dX6_makesMore_65 (by decide) h (fun h => ?_) (fun h => ?_)
  · refine lv_iconst (v := 0) hx hb dX6_makesMore_80 (by decide) ?_
    exact z_zret C P (by rw [Option.some.inj h]) (by decide) dX6_makesMore_81
  · refine lv_aload_n hx hb dX6_makesMore_68 rfl (lv_at hl 1 rfl) ?_
    refine gF6_47 C P zs0 rfl dX6_makesMore_69 ?_
    refine lv_iload hx hb dX6_makesMore_72 (lv_at hl 0 rfl) ?_
    refine z_callVb C P (As := [.int v54]) (m5_isLand zW_37) cW6_151 rfl zW_37.1 rfl (by decide) hl.1 rfl (Nat.le_of_ble_eq_true rfl) dX6_makesMore_74 ⟨Nat.zero_le _, Nat.zero_le _⟩ (fun H locs n74 P => ?_)
    refine z_if_ne (tgt := 82) hx hb dX6_makesMore_77 (by decide) h (fun h => ?_) (fun h => ?_)
    · refine lv_aload_n hx hb dX6_makesMore_82 rfl (lv_at hl 1 rfl) ?_
      refine lv_iload hx hb dX6_makesMore_83 (lv_at hl 7 rfl) ?_
      refine lv_iload hx hb dX6_makesMore_85 (lv_at hl 0 rfl) ?_
      obtain ⟨r87, g87, h⟩ := bd1_some h
      refine z_callVi C P (As := [.int x8, .int v54]) (m6_bestGift g87) cW6_291 rfl zs0 rfl (by decide) hl.1 rfl (Nat.le_of_ble_eq_true rfl) dX6_makesMore_87 ⟨Nat.zero_le _, Nat.zero_le _⟩ (fun H locs P => ?_)
      refine lv_istore (lv' := [(10, .int r87), (9, .int v54), (0, .ref (ad 0)), (1, .int x1), (2, .int x2), (3, .long x3), (5, .long x5), (7, .int x7), (8, .int x8)]) hx hb dX6_makesMore_90 hl (by decide) rfl (fun ls hl => ?_)
      refine lv_iload hx hb dX6_makesMore_92 (lv_at hl 0 rfl) ?_
      refine z_if_ge (tgt := 99) hx hb dX6_makesMore_94 (by decide) h (fun h => ?_) (fun h => ?_)
      · refine lv_lload_n hx hb dX6_makesMore_99 rfl (lv_at hl 5 rfl) ?_
        refine lv_aload_n hx hb dX6_makesMore_100 rfl (lv_at hl 2 rfl) ?_
        refine gF6_47 C P zs0 rfl dX6_makesMore_101 ?_
        refine gF6_157 C P zW_37.1 rfl dX6_makesMore_104 ?_
        refine lv_iload hx hb dX6_makesMore_107 (lv_at hl 1 rfl) ?_
        refine z_aald C P zW_37.2.2.2.1 (zrs3 37) zW_37.2.2.2.2.1 dX6_makesMore_109 h (fun h hg109 => ?_)
        refine lv_iload hx hb dX6_makesMore_110 (lv_at hl 0 rfl) ?_
        refine z_iald C P hg109 dX6_makesMore_112 h (fun h hi => ?_)
        refine lv_i2l hx hb dX6_makesMore_113 rfl ?_
        refine lv_lmul hx hb dX6_makesMore_114 ?_
        refine z_topl h (fun v115 h => ?_)
        refine lv_lstore_n (lv' := [(3, .long v115), (10, .int r87), (9, .int v54), (0, .ref (ad 0)), (1, .int x1), (2, .int x2), (5, .long x5), (7, .int x7), (8, .int x8)]) hx hb dX6_makesMore_115 rfl hl (by decide) rfl (fun ls hl => ?_)
        refine lv_lload hx hb dX6_makesMore_116 (lv_at hl 6 rfl) ?_
        refine lv_aload_n hx hb dX6_makesMore_118 rfl (lv_at hl 3 rfl) ?_
        refine gF6_47 C P zs0 rfl dX6_makesMore_119 ?_
        refine gF6_157 C P zW_37.1 rfl dX6_makesMore_122 ?_
        refine lv_iload hx hb dX6_makesMore_125 (lv_at hl 8 rfl) ?_
        refine z_aald C P zW_37.2.2.2.1 (zrs3 37) zW_37.2.2.2.2.1 dX6_makesMore_127 h (fun h hg127 => ?_)
        refine lv_iload hx hb dX6_makesMore_128 (lv_at hl 1 rfl) ?_
        refine z_iald C P hg127 dX6_makesMore_130 h (fun h hi => ?_)
        refine lv_i2l hx hb dX6_makesMore_131 rfl ?_
        refine lv_lmul hx hb dX6_makesMore_132 ?_
        refine z_topl h (fun v133 h => ?_)
        refine lv_lstore (lv' := [(5, .long v133), (3, .long v115), (10, .int r87), (9, .int v54), (0, .ref (ad 0)), (1, .int x1), (2, .int x2), (7, .int x7), (8, .int x8)]) hx hb dX6_makesMore_133 hl (by decide) rfl (fun ls hl => ?_)
        obtain ⟨v135, ev135, h⟩ := z_nm h
        refine lv_iinc (v := v135) (lv' := [(7, .int v135), (5, .long v133), (3, .long v115), (10, .int r87), (9, .int v54), (0, .ref (ad 0)), (1, .int x1), (2, .int x2), (8, .int x8)]) hx hb dX6_makesMore_135 hl (k := 7) rfl (by rw [ev135]; rfl) (by decide) rfl (fun ls hl => ?_)
        refine lv_goto (tgt := 20) hx hb dX6_makesMore_138 (by decide) ?_
        exact hk20 _ _ _ _ _ _ _ _ h P (lv_sub hl [5, 6, 7, 2, 1, 0] rfl)
      · refine lv_iconst (v := 0) hx hb dX6_makesMore_97 (by decide) ?_
        exact z_zret C P (by rw [Option.some.inj h]) (by decide) dX6_makesMore_98
    · refine lv_iconst (v := 0) hx hb dX6_makesMore_80 (by decide) ?_
      exact z_zret C P (by rw [Option.some.inj h]) (by decide) dX6_makesMore_81
theorem w6_makesMore_20 (C : zCx p s m args meth c cX6_makesMore 11 RX6 (some .boolean) D ad cA A) {z : Int32} {S : Zs} :
    ∀ (n : Nat) (x1 : Int32) (x2 : Int32) (x3 : Int64) (x5 : Int64) (x7 : Int32) (H : Heap) (locs : List Loc) (ls : Array Slot), f6_makesMore_20 S n x1 x2 x3 x5 x7 = some z → zP D zC ad cA A S s H locs → lv_has ls 11 [(0, .ref (ad 0)), (1, .int x1), (2, .int x2), (3, .long x3), (5, .long x5), (7, .int x7)] → W p l e (zrm 1 24) s m args below meth c H locs 0 0 (MQ below (zQb D zC ad cA A (z, S)) args s 0 0 A) (F0 m 20 ls []) := by
  have hx := C.1
  have hb := C.2.1
  intro n
  induction n with
  | zero =>
    intro x1 x2 x3 x5 x7 H locs ls h
    cases h
  | succ n ih =>
    intro x1 x2 x3 x5 x7 H locs ls h P hl
    unfold f6_makesMore_20 at h
    refine lv_iload hx hb dX6_makesMore_20 (lv_at hl 5 rfl) ?_
    refine lv_iload_n hx hb dX6_makesMore_22 rfl (lv_at hl 2 rfl) ?_
    refine z_icmp_ge (tgt := 141) hx hb dX6_makesMore_23 (by decide) h (fun h => ?_) (fun h => ?_)
    · refine lv_lload_n hx hb dX6_makesMore_141 rfl (lv_at hl 3 rfl) ?_
      refine lv_lload hx hb dX6_makesMore_142 (lv_at hl 4 rfl) ?_
      refine z_lcmp_ge (tgt := 152) hx hb dX6_makesMore_144 dX6_makesMore_145 (by decide) h (fun h => ?_) (fun h => ?_)
      · refine lv_iconst (v := 0) hx hb dX6_makesMore_152 (by decide) ?_
        exact z_zret C P (by rw [Option.some.inj h]) (by decide) dX6_makesMore_153
      · refine lv_iconst (v := 1) hx hb dX6_makesMore_148 (by decide) ?_
        refine lv_goto (tgt := 153) hx hb dX6_makesMore_149 (by decide) ?_
        exact z_zret C P (by rw [Option.some.inj h]) (by decide) dX6_makesMore_153
    · refine lv_iload_n hx hb dX6_makesMore_26 rfl (lv_at hl 1 rfl) ?_
      refine lv_iload hx hb dX6_makesMore_27 (lv_at hl 5 rfl) ?_
      refine z_callSi C P (As := [.int x1, .int x7]) (m6_landOfRing) cW6_288 rfl (by decide) hl.1 rfl (Nat.le_of_ble_eq_true rfl) dX6_makesMore_29 ⟨Nat.zero_le _, Nat.zero_le _⟩ (fun H locs P => ?_)
      refine z_topi h (fun v32 h => ?_)
      refine lv_istore (lv' := [(8, .int v32), (0, .ref (ad 0)), (1, .int x1), (2, .int x2), (3, .long x3), (5, .long x5), (7, .int x7)]) hx hb dX6_makesMore_32 hl (by decide) rfl (fun ls hl => ?_)
      refine lv_iload_n hx hb dX6_makesMore_34 rfl (lv_at hl 2 rfl) ?_
      refine lv_iload hx hb dX6_makesMore_35 (lv_at hl 6 rfl) ?_
      refine lv_iconst (v := 1) hx hb dX6_makesMore_37 (by decide) ?_
      refine lv_iadd hx hb dX6_makesMore_38 ?_
      refine lv_iload_n hx hb dX6_makesMore_39 rfl (lv_at hl 3 rfl) ?_
      refine z_icmp_ge (tgt := 50) hx hb dX6_makesMore_40 (by decide) h (fun h => ?_) (fun h => ?_)
      · refine lv_iconst (v := 0) hx hb dX6_makesMore_50 (by decide) ?_
        exact w6_makesMore_51 C ih _ _ _ _ _ _ _ _ _ _ _ h P (lv_sub hl [1, 2, 3, 4, 5, 6, 0] rfl)
      · refine lv_iload hx hb dX6_makesMore_43 (lv_at hl 6 rfl) ?_
        refine lv_iconst (v := 1) hx hb dX6_makesMore_45 (by decide) ?_
        refine lv_iadd hx hb dX6_makesMore_46 ?_
        refine lv_goto (tgt := 51) hx hb dX6_makesMore_47 (by decide) ?_
        exact w6_makesMore_51 C ih _ _ _ _ _ _ _ _ _ _ _ h P (lv_sub hl [1, 2, 3, 4, 5, 6, 0] rfl)
theorem w6_makesMore_11 (C : zCx p s m args meth c cX6_makesMore 11 RX6 (some .boolean) D ad cA A) {z : Int32} {S : Zs} (x1 : Int32) (t0 : Int32) (H : Heap) (locs : List Loc) (ls : Array Slot) (h : f6_makesMore_11 S x1 t0 = some z) (P : zP D zC ad cA A S s H locs) (hl : lv_has ls 11 [(0, .ref (ad 0)), (1, .int x1)]) :
    W p l e (zrm 1 24) s m args below meth c H locs 0 0 (MQ below (zQb D zC ad cA A (z, S)) args s 0 0 A) (F0 m 11 ls [.int t0]) := by
  have hx := C.1
  have hb := C.2.1
  unfold f6_makesMore_11 at h
  refine lv_istore_n (lv' := [(2, .int t0), (0, .ref (ad 0)), (1, .int x1)]) hx hb dX6_makesMore_11 rfl hl (by decide) rfl (fun ls hl => ?_)
  refine lv_lconst (v := 1) hx hb dX6_makesMore_12 (by decide) ?_
  refine lv_lstore_n (lv' := [(3, .long (1 : Int64)), (2, .int t0), (0, .ref (ad 0)), (1, .int x1)]) hx hb dX6_makesMore_13 rfl hl (by decide) rfl (fun ls hl => ?_)
  refine lv_lconst (v := 1) hx hb dX6_makesMore_14 (by decide) ?_
  refine lv_lstore (lv' := [(5, .long (1 : Int64)), (3, .long (1 : Int64)), (2, .int t0), (0, .ref (ad 0)), (1, .int x1)]) hx hb dX6_makesMore_15 hl (by decide) rfl (fun ls hl => ?_)
  refine lv_iconst (v := 0) hx hb dX6_makesMore_17 (by decide) ?_
  refine lv_istore (lv' := [(7, .int (0 : Int32)), (5, .long (1 : Int64)), (3, .long (1 : Int64)), (2, .int t0), (0, .ref (ad 0)), (1, .int x1)]) hx hb dX6_makesMore_18 hl (by decide) rfl (fun ls hl => ?_)
  exact w6_makesMore_20 C _ _ _ _ _ _ _ _ _ h P (lv_sub hl [4, 5, 3, 2, 1, 0] rfl)
theorem m6_makesMore {l : Launch} {D : va_G} {cA : Nat → ClassId} {ad : Nat → Nat} {x1 : Int32} {S : Zs} {z : Int32} (h : f6_makesMore S x1 = some z) :
    zMb l yX6_makesMore cX6_makesMore 11 1 24 D zC ad cA S [.ref (ad 0), .int x1] (z, S) := by
  refine z_enter (Qc := fun A => zQb D zC ad cA A (z, S)) (by decide +kernel) (Nat.le_of_ble_eq_true rfl) (fun p e s m below meth c A C P ls hl => ?_)
  have hx := C.1
  have hb := C.2.1
  have hl : lv_has ls 11 [(0, .ref (ad 0)), (1, .int x1)] := hl
  unfold f6_makesMore at h
  refine lv_iload_n hx hb dX6_makesMore_0 rfl (lv_at hl 1 rfl) ?_
  refine lv_bipush (v := 64) hx hb dX6_makesMore_1 (by decide) ?_
  refine z_icmp_ge (tgt := 10) hx hb dX6_makesMore_3 (by decide) h (fun h => ?_) (fun h => ?_)
  · refine lv_iconst (v := 3) hx hb dX6_makesMore_10 (by decide) ?_
    exact w6_makesMore_11 C _ _ _ _ _ h P (lv_sub hl [0, 1] rfl)
  · refine lv_iconst (v := 2) hx hb dX6_makesMore_6 (by decide) ?_
    refine lv_goto (tgt := 11) hx hb dX6_makesMore_7 (by decide) ?_
    exact w6_makesMore_11 C _ _ _ _ _ h P (lv_sub hl [0, 1] rfl)
theorem w6_leastRing_2 (C : zCx p s m args meth c cX6_leastRing 2 RX6 (some .long) D ad cA A) {z : Int64} {S : Zs} :
    ∀ (n : Nat) (x1 : Int32) (H : Heap) (locs : List Loc) (ls : Array Slot), f6_leastRing_2 S n x1 = some z → zP D zC ad cA A S s H locs → lv_has ls 2 [(0, .ref (ad 0)), (1, .int x1)] → W p l e (zrm 2 54) s m args below meth c H locs 0 0 (MQ below (zQl D zC ad cA A (z, S)) args s 0 0 A) (F0 m 2 ls []) := by
  have hx := C.1
  have hb := C.2.1
  intro n
  induction n with
  | zero =>
    intro x1 H locs ls h
    cases h
  | succ n ih =>
    intro x1 H locs ls h P hl
    unfold f6_leastRing_2 at h
    refine lv_iload_n hx hb dX6_leastRing_2 rfl (lv_at hl 1 rfl) ?_
    obtain ⟨t3, zz3, zt3⟩ := C.2.2.2.2.2.2.2.2.2.1
    refine z_gets C P zz3 zst6_282 dX6_leastRing_3 ?_
    refine z_tlen C P zt3 (v := 5) (by decide) dX6_leastRing_6 ?_
    refine z_icmp_ge (tgt := 35) hx hb dX6_leastRing_7 (by decide) h (fun h => ?_) (fun h => ?_)
    · refine lv_lconst (v := 0) hx hb dX6_leastRing_35 (by decide) ?_
      exact z_lret C P (by rw [Option.some.inj h]) dX6_leastRing_36
    · refine lv_aload_n hx hb dX6_leastRing_10 rfl (lv_at hl 0 rfl) ?_
      obtain ⟨t11, zz11, zt11⟩ := C.2.2.2.2.2.2.2.2.2.1
      refine z_gets C P zz11 zst6_282 dX6_leastRing_11 ?_
      refine lv_iload_n hx hb dX6_leastRing_14 rfl (lv_at hl 1 rfl) ?_
      refine z_tald C P zt11 dX6_leastRing_15 h (fun h => ?_)
      obtain ⟨r16, g16, h⟩ := bd1_some h
      refine z_callVb C P (As := [.int (zRings.getD x1.toNatClampNeg 0)]) (m6_makesMore g16) cW6_285 rfl zs0 rfl (by decide) hl.1 rfl (Nat.le_of_ble_eq_true rfl) dX6_leastRing_16 ⟨Nat.zero_le _, Nat.zero_le _⟩ (fun H locs n16 P => ?_)
      refine z_if_eq (tgt := 29) hx hb dX6_leastRing_19 (by decide) h (fun h => ?_) (fun h => ?_)
      · obtain ⟨v29, ev29, h⟩ := z_nm h
        refine lv_iinc (v := v29) (lv' := [(1, .int v29), (0, .ref (ad 0))]) hx hb dX6_leastRing_29 hl (k := 1) rfl (by rw [ev29]; rfl) (by decide) rfl (fun ls hl => ?_)
        refine lv_goto (tgt := 2) hx hb dX6_leastRing_32 (by decide) ?_
        exact ih _ _ _ _ h P (lv_sub hl [1, 0] rfl)
      · obtain ⟨t22, zz22, zt22⟩ := C.2.2.2.2.2.2.2.2.2.1
        refine z_gets C P zz22 zst6_282 dX6_leastRing_22 ?_
        refine lv_iload_n hx hb dX6_leastRing_25 rfl (lv_at hl 1 rfl) ?_
        refine z_tald C P zt22 dX6_leastRing_26 h (fun h => ?_)
        refine lv_i2l hx hb dX6_leastRing_27 rfl ?_
        exact z_lret C P (by rw [Option.some.inj h]) dX6_leastRing_28
theorem m6_leastRing {l : Launch} {D : va_G} {cA : Nat → ClassId} {ad : Nat → Nat} {S : Zs} {z : Int64} (h : f6_leastRing S = some z) :
    zMl l yX6_leastRing cX6_leastRing 2 2 54 D zC ad cA S [.ref (ad 0)] (z, S) := by
  refine z_enter (Qc := fun A => zQl D zC ad cA A (z, S)) (by decide +kernel) (Nat.le_of_ble_eq_true rfl) (fun p e s m below meth c A C P ls hl => ?_)
  have hx := C.1
  have hb := C.2.1
  have hl : lv_has ls 2 [(0, .ref (ad 0))] := hl
  unfold f6_leastRing at h
  refine lv_iconst (v := 0) hx hb dX6_leastRing_0 (by decide) ?_
  refine lv_istore_n (lv' := [(1, .int (0 : Int32)), (0, .ref (ad 0))]) hx hb dX6_leastRing_1 rfl hl (by decide) rfl (fun ls hl => ?_)
  exact w6_leastRing_2 C _ _ _ _ _ h P (lv_sub hl [1, 0] rfl)
theorem w6_more_52 (C : zCx p s m args meth c cX6_more 6 RX6 (some .long) D ad cA A) {z : Int64 × Zs} :
    ∀ (n : Nat) (x1 : Int32) (x2 : Int32) (x4 : Int32) (S : Zs) (H : Heap) (locs : List Loc) (ls : Array Slot), f6_more_52 n x1 x2 x4 S = some z → zP D zC ad cA A S s H locs → lv_has ls 6 [(0, .ref (ad 0)), (1, .int x1), (2, .int x2), (4, .int x4)] → W p l e (zrm 3 75) s m args below meth c H locs 0 0 (MQ below (zQl D zC ad cA A z) args s 0 0 A) (F0 m 52 ls []) := by
  have hx := C.1
  have hb := C.2.1
  intro n
  induction n with
  | zero =>
    intro x1 x2 x4 S H locs ls h
    cases h
  | succ n ih =>
    intro x1 x2 x4 S H locs ls h P hl
    unfold f6_more_52 at h
    refine lv_iload hx hb dX6_more_52 (lv_at hl 3 rfl) ?_
    refine lv_aload_n hx hb dX6_more_54 rfl (lv_at hl 0 rfl) ?_
    refine gF6_47 C P zs0 rfl dX6_more_55 ?_
    refine gF6_203 C P zW_37.1 rfl dX6_more_58 ?_
    refine z_icmp_ge (tgt := 115) hx hb dX6_more_61 (by decide) h (fun h => ?_) (fun h => ?_)
    · refine lv_aload_n hx hb dX6_more_115 rfl (lv_at hl 0 rfl) ?_
      refine lv_aload_n hx hb dX6_more_116 rfl (lv_at hl 0 rfl) ?_
      obtain ⟨r117, g117, h⟩ := bd1_some h
      refine z_callVl C P (As := []) (m6_leastRing g117) cW6_228 rfl zs0 rfl (by decide) hl.1 rfl (Nat.le_of_ble_eq_true rfl) dX6_more_117 ⟨Nat.zero_le _, Nat.zero_le _⟩ (fun H locs P => ?_)
      obtain ⟨r120, S120, g120, h⟩ := bd2_some h
      refine z_callVl C P (As := [.long r117]) (m6_fine g120) cW6_90 rfl zs0 rfl (by decide) hl.1 rfl (Nat.le_of_ble_eq_true rfl) dX6_more_120 ⟨Nat.zero_le _, Nat.zero_le _⟩ (fun H locs P => ?_)
      exact z_lret C P (Option.some.inj h) dX6_more_123
    · refine lv_aload_n hx hb dX6_more_64 rfl (lv_at hl 0 rfl) ?_
      refine gF6_12 C P zs0 rfl dX6_more_65 ?_
      refine lv_iload_n hx hb dX6_more_68 rfl (lv_at hl 1 rfl) ?_
      refine lv_iload_n hx hb dX6_more_69 rfl (lv_at hl 2 rfl) ?_
      refine lv_iload hx hb dX6_more_70 (lv_at hl 3 rfl) ?_
      refine lv_iadd hx hb dX6_more_72 ?_
      obtain ⟨r73, g73, h⟩ := bd1_some h
      refine z_callVi C P (As := [.int x1, .int (x2 + x4)]) (m2_item g73) cW6_195 rfl zs1 rfl (by decide) hl.1 rfl (Nat.le_of_ble_eq_true rfl) dX6_more_73 ⟨Nat.zero_le _, Nat.zero_le _⟩ (fun H locs P => ?_)
      refine lv_istore (lv' := [(5, .int r73), (0, .ref (ad 0)), (1, .int x1), (2, .int x2), (4, .int x4)]) hx hb dX6_more_76 hl (by decide) rfl (fun ls hl => ?_)
      refine lv_iload hx hb dX6_more_78 (lv_at hl 0 rfl) ?_
      refine lv_iconst (v := 1) hx hb dX6_more_80 (by decide) ?_
      refine z_icmp_lt (tgt := 96) hx hb dX6_more_81 (by decide) h (fun h => ?_) (fun h => ?_)
      · refine lv_ldc2 (v := (-9000000000000000001)) hx hb C.2.2.2.1 (C.2.2.2.2.1 _ kK6_80) dX6_more_96 ?_
        exact z_lret C P (Option.some.inj h) dX6_more_99
      · refine lv_iload hx hb dX6_more_84 (lv_at hl 0 rfl) ?_
        refine lv_aload_n hx hb dX6_more_86 rfl (lv_at hl 1 rfl) ?_
        refine gF6_47 C P zs0 rfl dX6_more_87 ?_
        refine z_callVi C P (As := []) (m5_allLands zW_37) cW6_225 rfl zW_37.1 rfl (by decide) hl.1 rfl (Nat.le_of_ble_eq_true rfl) dX6_more_90 ⟨Nat.zero_le _, Nat.zero_le _⟩ (fun H locs P => ?_)
        refine z_icmp_le (tgt := 100) hx hb dX6_more_93 (by decide) h (fun h => ?_) (fun h => ?_)
        · refine lv_aload_n hx hb dX6_more_100 rfl (lv_at hl 1 rfl) ?_
          refine gF6_61 C P zs0 rfl dX6_more_101 ?_
          refine lv_iload hx hb dX6_more_104 (lv_at hl 4 rfl) ?_
          refine lv_iload hx hb dX6_more_106 (lv_at hl 0 rfl) ?_
          refine z_iast C P zs65 dX6_more_108 h (fun S108 H locs h P => ?_)
          obtain ⟨v109, ev109, h⟩ := z_nm h
          refine lv_iinc (v := v109) (lv' := [(4, .int v109), (5, .int r73), (0, .ref (ad 0)), (1, .int x1), (2, .int x2)]) hx hb dX6_more_109 hl (k := 4) rfl (by rw [ev109]; rfl) (by decide) rfl (fun ls hl => ?_)
          refine lv_goto (tgt := 52) hx hb dX6_more_112 (by decide) ?_
          exact ih _ _ _ _ _ _ _ h P (lv_sub hl [2, 3, 4, 0] rfl)
        · refine lv_ldc2 (v := (-9000000000000000001)) hx hb C.2.2.2.1 (C.2.2.2.2.1 _ kK6_80) dX6_more_96 ?_
          exact z_lret C P (Option.some.inj h) dX6_more_99
theorem m6_more {l : Launch} {D : va_G} {cA : Nat → ClassId} {ad : Nat → Nat} {x1 : Int32} {x2 : Int32} {S : Zs} {z : Int64 × Zs} (h : f6_more x1 x2 S = some z) :
    zMl l yX6_more cX6_more 6 3 75 D zC ad cA S [.ref (ad 0), .int x1, .int x2] z := by
  refine z_enter (Qc := fun A => zQl D zC ad cA A z) (by decide +kernel) (Nat.le_of_ble_eq_true rfl) (fun p e s m below meth c A C P ls hl => ?_)
  have hx := C.1
  have hb := C.2.1
  have hl : lv_has ls 6 [(0, .ref (ad 0)), (1, .int x1), (2, .int x2)] := hl
  unfold f6_more at h
  refine lv_iload_n hx hb dX6_more_0 rfl (lv_at hl 1 rfl) ?_
  refine z_callSb C P (As := [.int x1]) (m2_isRow) cW6_73 rfl (by decide) hl.1 rfl (Nat.le_of_ble_eq_true rfl) dX6_more_1 ⟨Nat.zero_le _, Nat.zero_le _⟩ (fun H locs n1 P => ?_)
  refine z_if_ne (tgt := 11) hx hb dX6_more_4 (by decide) h (fun h => ?_) (fun h => ?_)
  · refine lv_aload_n hx hb dX6_more_11 rfl (lv_at hl 0 rfl) ?_
    refine gF6_47 C P zs0 rfl dX6_more_12 ?_
    refine z_callVb C P (As := []) (m5_isThere zW_37) cW6_186 rfl zW_37.1 rfl (by decide) hl.1 rfl (Nat.le_of_ble_eq_true rfl) dX6_more_15 ⟨Nat.zero_le _, Nat.zero_le _⟩ (fun H locs n15 P => ?_)
    refine z_if_ne (tgt := 25) hx hb dX6_more_18 (by decide) h (fun h => ?_) (fun h => ?_)
    · refine lv_aload_n hx hb dX6_more_25 rfl (lv_at hl 0 rfl) ?_
      refine lv_iload_n hx hb dX6_more_26 rfl (lv_at hl 1 rfl) ?_
      refine lv_iload_n hx hb dX6_more_27 rfl (lv_at hl 2 rfl) ?_
      refine lv_aload_n hx hb dX6_more_28 rfl (lv_at hl 0 rfl) ?_
      refine gF6_47 C P zs0 rfl dX6_more_29 ?_
      refine gF6_203 C P zW_37.1 rfl dX6_more_32 ?_
      obtain ⟨r35, g35, h⟩ := bd1_some h
      refine z_callVi C P (As := [.int x1, .int x2, .int (S.1 37 1)]) (m6_findingAt g35) cW6_192 rfl zs0 rfl (by decide) hl.1 rfl (Nat.le_of_ble_eq_true rfl) dX6_more_35 ⟨Nat.zero_le _, Nat.zero_le _⟩ (fun H locs P => ?_)
      refine lv_istore_n (lv' := [(3, .int r35), (0, .ref (ad 0)), (1, .int x1), (2, .int x2)]) hx hb dX6_more_38 rfl hl (by decide) rfl (fun ls hl => ?_)
      refine lv_iload_n hx hb dX6_more_39 rfl (lv_at hl 0 rfl) ?_
      refine z_if_eq (tgt := 49) hx hb dX6_more_40 (by decide) h (fun h => ?_) (fun h => ?_)
      · refine lv_iconst (v := 0) hx hb dX6_more_49 (by decide) ?_
        refine lv_istore (lv' := [(4, .int (0 : Int32)), (3, .int r35), (0, .ref (ad 0)), (1, .int x1), (2, .int x2)]) hx hb dX6_more_50 hl (by decide) rfl (fun ls hl => ?_)
        exact w6_more_52 C _ _ _ _ _ _ _ _ h P (lv_sub hl [2, 3, 4, 0] rfl)
      · refine lv_aload_n hx hb dX6_more_43 rfl (lv_at hl 1 rfl) ?_
        refine lv_iload_n hx hb dX6_more_44 rfl (lv_at hl 0 rfl) ?_
        obtain ⟨r45, S45, g45, h⟩ := bd2_some h
        refine z_callVl C P (As := [.int r35]) (m6_found g45) cW6_82 rfl zs0 rfl (by decide) hl.1 rfl (Nat.le_of_ble_eq_true rfl) dX6_more_45 ⟨Nat.zero_le _, Nat.zero_le _⟩ (fun H locs P => ?_)
        exact z_lret C P (Option.some.inj h) dX6_more_48
    · refine lv_ldc2 (v := (-9000000000000000002)) hx hb C.2.2.2.1 (C.2.2.2.2.1 _ kK6_190) dX6_more_21 ?_
      exact z_lret C P (Option.some.inj h) dX6_more_24
  · refine lv_ldc2 (v := (-9000000000000000001)) hx hb C.2.2.2.1 (C.2.2.2.2.1 _ kK6_80) dX6_more_7 ?_
    exact z_lret C P (Option.some.inj h) dX6_more_10
theorem m6_stays {l : Launch} {D : va_G} {cA : Nat → ClassId} {ad : Nat → Nat} {x1 : Int32} {x2 : Int32} {x3 : Int32} {S : Zs} {z : Int64} (h : f6_stays S x1 x2 x3 = some z) :
    zMl l yX6_stays cX6_stays 8 2 48 D zC ad cA S [.ref (ad 0), .int x1, .int x2, .int x3] (z, S) := by
  refine z_enter (Qc := fun A => zQl D zC ad cA A (z, S)) (by decide +kernel) (Nat.le_of_ble_eq_true rfl) (fun p e s m below meth c A C P ls hl => ?_)
  have hx := C.1
  have hb := C.2.1
  have hl : lv_has ls 8 [(0, .ref (ad 0)), (1, .int x1), (2, .int x2), (3, .int x3)] := hl
  unfold f6_stays at h
  refine lv_aload_n hx hb dX6_stays_0 rfl (lv_at hl 0 rfl) ?_
  refine gF6_47 C P zs0 rfl dX6_stays_1 ?_
  refine lv_iload_n hx hb dX6_stays_4 rfl (lv_at hl 1 rfl) ?_
  refine z_callVb C P (As := [.int x1]) (m5_isLand zW_37) cW6_151 rfl zW_37.1 rfl (by decide) hl.1 rfl (Nat.le_of_ble_eq_true rfl) dX6_stays_5 ⟨Nat.zero_le _, Nat.zero_le _⟩ (fun H locs n5 P => ?_)
  refine z_if_eq (tgt := 33) hx hb dX6_stays_8 (by decide) h (fun h => ?_) (fun h => ?_)
  · refine lv_ldc2 (v := (-9000000000000000001)) hx hb C.2.2.2.1 (C.2.2.2.2.1 _ kK6_80) dX6_stays_33 ?_
    exact z_lret C P (by rw [Option.some.inj h]) dX6_stays_36
  · refine lv_aload_n hx hb dX6_stays_11 rfl (lv_at hl 0 rfl) ?_
    refine gF6_47 C P zs0 rfl dX6_stays_12 ?_
    refine lv_iload_n hx hb dX6_stays_15 rfl (lv_at hl 2 rfl) ?_
    refine z_callVb C P (As := [.int x2]) (m5_isGood zW_37) cW6_154 rfl zW_37.1 rfl (by decide) hl.1 rfl (Nat.le_of_ble_eq_true rfl) dX6_stays_16 ⟨Nat.zero_le _, Nat.zero_le _⟩ (fun H locs n16 P => ?_)
    refine z_if_eq (tgt := 33) hx hb dX6_stays_19 (by decide) h (fun h => ?_) (fun h => ?_)
    · refine lv_ldc2 (v := (-9000000000000000001)) hx hb C.2.2.2.1 (C.2.2.2.2.1 _ kK6_80) dX6_stays_33 ?_
      exact z_lret C P (by rw [Option.some.inj h]) dX6_stays_36
    · refine lv_iload_n hx hb dX6_stays_22 rfl (lv_at hl 3 rfl) ?_
      refine z_if_lt (tgt := 33) hx hb dX6_stays_23 (by decide) h (fun h => ?_) (fun h => ?_)
      · refine lv_ldc2 (v := (-9000000000000000001)) hx hb C.2.2.2.1 (C.2.2.2.2.1 _ kK6_80) dX6_stays_33 ?_
        exact z_lret C P (by rw [Option.some.inj h]) dX6_stays_36
      · refine lv_iload_n hx hb dX6_stays_26 rfl (lv_at hl 3 rfl) ?_
        refine lv_sipush (v := 900) hx hb dX6_stays_27 (by decide) ?_
        refine z_icmp_le (tgt := 37) hx hb dX6_stays_30 (by decide) h (fun h => ?_) (fun h => ?_)
        · refine lv_aload_n hx hb dX6_stays_37 rfl (lv_at hl 0 rfl) ?_
          refine gF6_47 C P zs0 rfl dX6_stays_38 ?_
          refine lv_aload_n hx hb dX6_stays_41 rfl (lv_at hl 0 rfl) ?_
          refine gF6_47 C P zs0 rfl dX6_stays_42 ?_
          refine gF6_167 C P zW_37.1 rfl dX6_stays_45 ?_
          refine lv_iload_n hx hb dX6_stays_48 rfl (lv_at hl 1 rfl) ?_
          refine lv_iload_n hx hb dX6_stays_49 rfl (lv_at hl 2 rfl) ?_
          obtain ⟨r50, g50, h⟩ := bd1_some h
          refine z_callVl C P (As := [.ref (ad (37 + 7)), .int x1, .int x2]) (m5_cost zW_37 zW_37.2.2.2.2.2.1 g50) cW6_182 rfl zW_37.1 rfl (by decide) hl.1 rfl (Nat.le_of_ble_eq_true rfl) dX6_stays_50 ⟨Nat.zero_le _, Nat.zero_le _⟩ (fun H locs P => ?_)
          refine lv_ldc2 (v := 100) hx hb C.2.2.2.1 (C.2.2.2.2.1 _ kK6_232) dX6_stays_53 ?_
          refine lv_lmul hx hb dX6_stays_56 ?_
          refine z_topl h (fun v57 h => ?_)
          refine lv_lstore (lv' := [(4, .long v57), (0, .ref (ad 0)), (1, .int x1), (2, .int x2), (3, .int x3)]) hx hb dX6_stays_57 hl (by decide) rfl (fun ls hl => ?_)
          refine lv_aload_n hx hb dX6_stays_59 rfl (lv_at hl 1 rfl) ?_
          refine gF6_47 C P zs0 rfl dX6_stays_60 ?_
          refine lv_aload_n hx hb dX6_stays_63 rfl (lv_at hl 1 rfl) ?_
          refine gF6_47 C P zs0 rfl dX6_stays_64 ?_
          refine gF6_167 C P zW_37.1 rfl dX6_stays_67 ?_
          refine lv_iload_n hx hb dX6_stays_70 rfl (lv_at hl 3 rfl) ?_
          obtain ⟨r71, g71, h⟩ := bd1_some h
          refine z_callVl C P (As := [.ref (ad (37 + 7)), .int x2]) (m5_leastCost zW_37 zW_37.2.2.2.2.2.1 g71) cW6_178 rfl zW_37.1 rfl (by decide) hl.1 rfl (Nat.le_of_ble_eq_true rfl) dX6_stays_71 ⟨Nat.zero_le _, Nat.zero_le _⟩ (fun H locs P => ?_)
          refine lv_bipush (v := 100) hx hb dX6_stays_74 (by decide) ?_
          refine lv_iload_n hx hb dX6_stays_76 rfl (lv_at hl 4 rfl) ?_
          refine lv_iadd hx hb dX6_stays_77 ?_
          refine lv_i2l hx hb dX6_stays_78 rfl ?_
          refine lv_lmul hx hb dX6_stays_79 ?_
          refine z_topl h (fun v80 h => ?_)
          refine lv_lstore (lv' := [(6, .long v80), (4, .long v57), (0, .ref (ad 0)), (1, .int x1), (2, .int x2), (3, .int x3)]) hx hb dX6_stays_80 hl (by decide) rfl (fun ls hl => ?_)
          refine lv_lload hx hb dX6_stays_82 (lv_at hl 1 rfl) ?_
          refine lv_lload hx hb dX6_stays_84 (lv_at hl 0 rfl) ?_
          refine z_lcmp_gt (tgt := 94) hx hb dX6_stays_86 dX6_stays_87 (by decide) h (fun h => ?_) (fun h => ?_)
          · refine lv_lconst (v := 0) hx hb dX6_stays_94 (by decide) ?_
            exact z_lret C P (by rw [Option.some.inj h]) dX6_stays_95
          · refine lv_lconst (v := 1) hx hb dX6_stays_90 (by decide) ?_
            refine lv_goto (tgt := 95) hx hb dX6_stays_91 (by decide) ?_
            exact z_lret C P (by rw [Option.some.inj h]) dX6_stays_95
        · refine lv_ldc2 (v := (-9000000000000000001)) hx hb C.2.2.2.1 (C.2.2.2.2.1 _ kK6_80) dX6_stays_33 ?_
          exact z_lret C P (by rw [Option.some.inj h]) dX6_stays_36
theorem m6_keepAhead {l : Launch} {D : va_G} {cA : Nat → ClassId} {ad : Nat → Nat} {S : Zs} {z : Zs} (h : f6_keepAhead S = some z) :
    zMv l yX6_keepAhead cX6_keepAhead 1 2 90 D zC ad cA S [.ref (ad 0)] z := by
  refine z_enter (Qc := fun A => zQv D zC ad cA A z) (by decide +kernel) (Nat.le_of_ble_eq_true rfl) (fun p e s m below meth c A C P ls hl => ?_)
  have hx := C.1
  have hb := C.2.1
  have hl : lv_has ls 1 [(0, .ref (ad 0))] := hl
  unfold f6_keepAhead at h
  refine lv_aload_n hx hb dX6_keepAhead_0 rfl (lv_at hl 0 rfl) ?_
  refine gF6_51 C P zs0 rfl dX6_keepAhead_1 ?_
  refine lv_aload_n hx hb dX6_keepAhead_4 rfl (lv_at hl 0 rfl) ?_
  refine gF6_47 C P zs0 rfl dX6_keepAhead_5 ?_
  obtain ⟨S8, g8, h⟩ := bd1_some h
  refine z_callVv C P (As := [.ref (ad 37)]) (m5_take zW_46 zW_37 g8) cW6_142 rfl zW_46.1 rfl (by decide) hl.1 rfl (Nat.le_of_ble_eq_true rfl) dX6_keepAhead_8 ⟨Nat.zero_le _, Nat.zero_le _⟩ (fun H locs P => ?_)
  refine lv_aload_n hx hb dX6_keepAhead_11 rfl (lv_at hl 0 rfl) ?_
  refine lv_iconst (v := 1) hx hb dX6_keepAhead_12 (by decide) ?_
  refine pF6_65 C P zs0 rfl dX6_keepAhead_13 (by decide) (by decide) h (fun S13 H locs h P => ?_)
  exact z_vret C P (Option.some.inj h) dX6_keepAhead_16
theorem m6_learn {l : Launch} {D : va_G} {cA : Nat → ClassId} {ad : Nat → Nat} {x1 : Int32} {x2 : Int32} {x3 : Int32} {S : Zs} {z : Int64 × Zs} (h : f6_learn x1 x2 x3 S = some z) :
    zMl l yX6_learn cX6_learn 5 5 131 D zC ad cA S [.ref (ad 0), .int x1, .int x2, .int x3] z := by
  refine z_enter (Qc := fun A => zQl D zC ad cA A z) (by decide +kernel) (Nat.le_of_ble_eq_true rfl) (fun p e s m below meth c A C P ls hl => ?_)
  have hx := C.1
  have hb := C.2.1
  have hl : lv_has ls 5 [(0, .ref (ad 0)), (1, .int x1), (2, .int x2), (3, .int x3)] := hl
  unfold f6_learn at h
  refine lv_aload_n hx hb dX6_learn_0 rfl (lv_at hl 0 rfl) ?_
  refine gF6_47 C P zs0 rfl dX6_learn_1 ?_
  refine lv_iload_n hx hb dX6_learn_4 rfl (lv_at hl 1 rfl) ?_
  refine z_callVb C P (As := [.int x1]) (m5_isLand zW_37) cW6_151 rfl zW_37.1 rfl (by decide) hl.1 rfl (Nat.le_of_ble_eq_true rfl) dX6_learn_5 ⟨Nat.zero_le _, Nat.zero_le _⟩ (fun H locs n5 P => ?_)
  refine z_if_eq (tgt := 38) hx hb dX6_learn_8 (by decide) h (fun h => ?_) (fun h => ?_)
  · refine lv_ldc2 (v := (-9000000000000000001)) hx hb C.2.2.2.1 (C.2.2.2.2.1 _ kK6_80) dX6_learn_38 ?_
    exact z_lret C P (Option.some.inj h) dX6_learn_41
  · refine lv_aload_n hx hb dX6_learn_11 rfl (lv_at hl 0 rfl) ?_
    refine gF6_47 C P zs0 rfl dX6_learn_12 ?_
    refine lv_iload_n hx hb dX6_learn_15 rfl (lv_at hl 2 rfl) ?_
    refine z_callVb C P (As := [.int x2]) (m5_isLand zW_37) cW6_151 rfl zW_37.1 rfl (by decide) hl.1 rfl (Nat.le_of_ble_eq_true rfl) dX6_learn_16 ⟨Nat.zero_le _, Nat.zero_le _⟩ (fun H locs n16 P => ?_)
    refine z_if_eq (tgt := 38) hx hb dX6_learn_19 (by decide) h (fun h => ?_) (fun h => ?_)
    · refine lv_ldc2 (v := (-9000000000000000001)) hx hb C.2.2.2.1 (C.2.2.2.2.1 _ kK6_80) dX6_learn_38 ?_
      exact z_lret C P (Option.some.inj h) dX6_learn_41
    · refine lv_iload_n hx hb dX6_learn_22 rfl (lv_at hl 1 rfl) ?_
      refine lv_iload_n hx hb dX6_learn_23 rfl (lv_at hl 2 rfl) ?_
      refine z_icmp_eq (tgt := 38) hx hb dX6_learn_24 (by decide) h (fun h => ?_) (fun h => ?_)
      · refine lv_ldc2 (v := (-9000000000000000001)) hx hb C.2.2.2.1 (C.2.2.2.2.1 _ kK6_80) dX6_learn_38 ?_
        exact z_lret C P (Option.some.inj h) dX6_learn_41
      · refine lv_aload_n hx hb dX6_learn_27 rfl (lv_at hl 0 rfl) ?_
        refine gF6_47 C P zs0 rfl dX6_learn_28 ?_
        refine lv_iload_n hx hb dX6_learn_31 rfl (lv_at hl 3 rfl) ?_
        refine z_callVb C P (As := [.int x3]) (m5_isGood zW_37) cW6_154 rfl zW_37.1 rfl (by decide) hl.1 rfl (Nat.le_of_ble_eq_true rfl) dX6_learn_32 ⟨Nat.zero_le _, Nat.zero_le _⟩ (fun H locs n32 P => ?_)
        refine z_if_ne (tgt := 42) hx hb dX6_learn_35 (by decide) h (fun h => ?_) (fun h => ?_)
        · refine lv_aload_n hx hb dX6_learn_42 rfl (lv_at hl 0 rfl) ?_
          obtain ⟨S43, g43, h⟩ := bd1_some h
          refine z_callVv C P (As := []) (m6_keepAhead g43) cW6_234 rfl zs0 rfl (by decide) hl.1 rfl (Nat.le_of_ble_eq_true rfl) dX6_learn_43 ⟨Nat.zero_le _, Nat.zero_le _⟩ (fun H locs P => ?_)
          refine lv_aload_n hx hb dX6_learn_46 rfl (lv_at hl 0 rfl) ?_
          refine gF6_47 C P zs0 rfl dX6_learn_47 ?_
          refine gF6_157 C P zW_37.1 rfl dX6_learn_50 ?_
          refine lv_iload_n hx hb dX6_learn_53 rfl (lv_at hl 1 rfl) ?_
          refine z_aald C P zW_37.2.2.2.1 (zrs3 37) zW_37.2.2.2.2.1 dX6_learn_54 h (fun h hg54 => ?_)
          refine lv_iload_n hx hb dX6_learn_55 rfl (lv_at hl 3 rfl) ?_
          refine z_iald C P hg54 dX6_learn_56 h (fun h hi => ?_)
          refine lv_aload_n hx hb dX6_learn_57 rfl (lv_at hl 0 rfl) ?_
          refine gF6_47 C P zs0 rfl dX6_learn_58 ?_
          refine gF6_157 C P zW_37.1 rfl dX6_learn_61 ?_
          refine lv_iload_n hx hb dX6_learn_64 rfl (lv_at hl 2 rfl) ?_
          refine z_aald C P zW_37.2.2.2.1 (zrs3 37) zW_37.2.2.2.2.1 dX6_learn_65 h (fun h hg65 => ?_)
          refine lv_iload_n hx hb dX6_learn_66 rfl (lv_at hl 3 rfl) ?_
          refine z_iald C P hg65 dX6_learn_67 h (fun h hi => ?_)
          refine lv_isub hx hb dX6_learn_68 ?_
          refine z_topi h (fun v69 h => ?_)
          refine lv_istore (lv' := [(4, .int v69), (0, .ref (ad 0)), (1, .int x1), (2, .int x2), (3, .int x3)]) hx hb dX6_learn_69 hl (by decide) rfl (fun ls hl => ?_)
          refine lv_iload hx hb dX6_learn_71 (lv_at hl 0 rfl) ?_
          refine z_if_gt (tgt := 78) hx hb dX6_learn_73 (by decide) h (fun h => ?_) (fun h => ?_)
          · refine lv_aload_n hx hb dX6_learn_78 rfl (lv_at hl 1 rfl) ?_
            refine gF6_47 C P zs0 rfl dX6_learn_79 ?_
            refine gF6_157 C P zW_37.1 rfl dX6_learn_82 ?_
            refine lv_iload_n hx hb dX6_learn_85 rfl (lv_at hl 2 rfl) ?_
            refine z_aald C P zW_37.2.2.2.1 (zrs3 37) zW_37.2.2.2.2.1 dX6_learn_86 h (fun h hg86 => ?_)
            refine lv_iload_n hx hb dX6_learn_87 rfl (lv_at hl 4 rfl) ?_
            refine lv_aload_n hx hb dX6_learn_88 rfl (lv_at hl 1 rfl) ?_
            refine gF6_47 C P zs0 rfl dX6_learn_89 ?_
            refine gF6_157 C P zW_37.1 rfl dX6_learn_92 ?_
            refine lv_iload_n hx hb dX6_learn_95 rfl (lv_at hl 3 rfl) ?_
            refine z_aald C P zW_37.2.2.2.1 (zrs3 37) zW_37.2.2.2.2.1 dX6_learn_96 h (fun h hg96 => ?_)
            refine lv_iload_n hx hb dX6_learn_97 rfl (lv_at hl 4 rfl) ?_
            refine z_iald C P hg96 dX6_learn_98 h (fun h hi => ?_)
            refine z_iast C P hg86 dX6_learn_99 h (fun S99 H locs h P => ?_)
            refine lv_aload_n hx hb dX6_learn_100 rfl (lv_at hl 1 rfl) ?_
            refine gF6_33 C P zs0 rfl dX6_learn_101 ?_
            refine lv_aload_n hx hb dX6_learn_104 rfl (lv_at hl 1 rfl) ?_
            refine gF6_47 C P zs0 rfl dX6_learn_105 ?_
            obtain ⟨S108, g108, h⟩ := bd1_some h
            refine z_callVv C P (As := [.ref (ad 37)]) (m1_settle zW_37 g108) cW6_138 rfl zs17 rfl (by decide) hl.1 rfl (Nat.le_of_ble_eq_true rfl) dX6_learn_108 ⟨Nat.zero_le _, Nat.zero_le _⟩ (fun H locs P => ?_)
            refine lv_iload hx hb dX6_learn_111 (lv_at hl 0 rfl) ?_
            refine lv_i2l hx hb dX6_learn_113 rfl ?_
            exact z_lret C P (Option.some.inj h) dX6_learn_114
          · refine lv_lconst (v := 0) hx hb dX6_learn_76 (by decide) ?_
            exact z_lret C P (Option.some.inj h) dX6_learn_77
        · refine lv_ldc2 (v := (-9000000000000000001)) hx hb C.2.2.2.1 (C.2.2.2.2.1 _ kK6_80) dX6_learn_38 ?_
          exact z_lret C P (Option.some.inj h) dX6_learn_41
theorem w6_on_136 (C : zCx p s m args meth c cX6_on 9 RX6 (some .long) D ad cA A) {z : Int64} {S : Zs} {k33 : Int32 → Int32 → Int32 → Int32 → Option Int64} (hk33 : ∀ (x1 : Int32) (x2 : Int32) (x3 : Int32) (x4 : Int32) (H : Heap) (locs : List Loc) (ls : Array Slot), k33 x1 x2 x3 x4 = some z → zP D zC ad cA A S s H locs → lv_has ls 9 [(0, .ref (ad 0)), (1, .int x1), (2, .int x2), (3, .int x3), (4, .int x4)] → W p l e (zrm 2 48) s m args below meth c H locs 0 0 (MQ below (zQl D zC ad cA A (z, S)) args s 0 0 A) (F0 m 33 ls [])) (x1 : Int32) (x2 : Int32) (x4 : Int32) (t0 : Int32) (H : Heap) (locs : List Loc) (ls : Array Slot) (h : f6_on_136 S k33 x1 x2 x4 t0 = some z) (P : zP D zC ad cA A S s H locs) (hl : lv_has ls 9 [(0, .ref (ad 0)), (1, .int x1), (2, .int x2), (4, .int x4)]) :
    W p l e (zrm 2 48) s m args below meth c H locs 0 0 (MQ below (zQl D zC ad cA A (z, S)) args s 0 0 A) (F0 m 136 ls [.int t0]) := by
  have hx := C.1
  have hb := C.2.1
  unfold f6_on_136 at h
  refine lv_istore_n (lv' := [(3, .int t0), (0, .ref (ad 0)), (1, .int x1), (2, .int x2), (4, .int x4)]) hx hb dX6_on_136 rfl hl (by decide) rfl (fun ls hl => ?_)
  obtain ⟨v137, ev137, h⟩ := z_nm h
  refine lv_iinc (v := v137) (lv' := [(4, .int v137), (3, .int t0), (0, .ref (ad 0)), (1, .int x1), (2, .int x2)]) hx hb dX6_on_137 hl (k := 4) rfl (by rw [ev137]; rfl) (by decide) rfl (fun ls hl => ?_)
  refine lv_goto (tgt := 33) hx hb dX6_on_140 (by decide) ?_
  exact hk33 _ _ _ _ _ _ _ h P (lv_sub hl [2, 3, 4, 1, 0] rfl)
theorem w6_on_131 (C : zCx p s m args meth c cX6_on 9 RX6 (some .long) D ad cA A) {z : Int64} {S : Zs} {k33 : Int32 → Int32 → Int32 → Int32 → Option Int64} (hk33 : ∀ (x1 : Int32) (x2 : Int32) (x3 : Int32) (x4 : Int32) (H : Heap) (locs : List Loc) (ls : Array Slot), k33 x1 x2 x3 x4 = some z → zP D zC ad cA A S s H locs → lv_has ls 9 [(0, .ref (ad 0)), (1, .int x1), (2, .int x2), (3, .int x3), (4, .int x4)] → W p l e (zrm 2 48) s m args below meth c H locs 0 0 (MQ below (zQl D zC ad cA A (z, S)) args s 0 0 A) (F0 m 33 ls [])) (x1 : Int32) (x2 : Int32) (x4 : Int32) (H : Heap) (locs : List Loc) (ls : Array Slot) (h : f6_on_131 S k33 x1 x2 x4 = some z) (P : zP D zC ad cA A S s H locs) (hl : lv_has ls 9 [(0, .ref (ad 0)), (1, .int x1), (2, .int x2), (4, .int x4)]) :
    W p l e (zrm 2 48) s m args below meth c H locs 0 0 (MQ below (zQl D zC ad cA A (z, S)) args s 0 0 A) (F0 m 131 ls []) := by
  have hx := C.1
  have hb := C.2.1
  unfold f6_on_131 at h
  refine lv_iconst (v := 1) hx hb dX6_on_131 (by decide) ?_
  refine lv_goto (tgt := 136) hx hb dX6_on_132 (by decide) ?_
  exact w6_on_136 C hk33 _ _ _ _ _ _ _ h P (lv_sub hl [0, 1, 2, 3] rfl)
theorem w6_on_118 (C : zCx p s m args meth c cX6_on 9 RX6 (some .long) D ad cA A) {z : Int64} {S : Zs} {k33 : Int32 → Int32 → Int32 → Int32 → Option Int64} (hk33 : ∀ (x1 : Int32) (x2 : Int32) (x3 : Int32) (x4 : Int32) (H : Heap) (locs : List Loc) (ls : Array Slot), k33 x1 x2 x3 x4 = some z → zP D zC ad cA A S s H locs → lv_has ls 9 [(0, .ref (ad 0)), (1, .int x1), (2, .int x2), (3, .int x3), (4, .int x4)] → W p l e (zrm 2 48) s m args below meth c H locs 0 0 (MQ below (zQl D zC ad cA A (z, S)) args s 0 0 A) (F0 m 33 ls [])) (x1 : Int32) (x3 : Int32) (x4 : Int32) (x5 : Int64) (x7 : Int64) (t0 : Int32) (H : Heap) (locs : List Loc) (ls : Array Slot) (h : f6_on_118 S k33 x1 x3 x4 x5 x7 t0 = some z) (P : zP D zC ad cA A S s H locs) (hl : lv_has ls 9 [(0, .ref (ad 0)), (1, .int x1), (3, .int x3), (4, .int x4), (5, .long x5), (7, .long x7)]) :
    W p l e (zrm 2 48) s m args below meth c H locs 0 0 (MQ below (zQl D zC ad cA A (z, S)) args s 0 0 A) (F0 m 118 ls [.int t0]) := by
  have hx := C.1
  have hb := C.2.1
  unfold f6_on_118 at h
  refine lv_istore_n (lv' := [(2, .int t0), (0, .ref (ad 0)), (1, .int x1), (3, .int x3), (4, .int x4), (5, .long x5), (7, .long x7)]) hx hb dX6_on_118 rfl hl (by decide) rfl (fun ls hl => ?_)
  refine lv_iload_n hx hb dX6_on_119 rfl (lv_at hl 3 rfl) ?_
  refine z_if_ne (tgt := 131) hx hb dX6_on_120 (by decide) h (fun h => ?_) (fun h => ?_)
  · exact w6_on_131 C hk33 _ _ _ _ _ _ h P (lv_sub hl [1, 2, 0, 4] rfl)
  · refine lv_lload hx hb dX6_on_123 (lv_at hl 5 rfl) ?_
    refine lv_lload hx hb dX6_on_125 (lv_at hl 6 rfl) ?_
    refine z_lcmp_ge (tgt := 135) hx hb dX6_on_127 dX6_on_128 (by decide) h (fun h => ?_) (fun h => ?_)
    · refine lv_iconst (v := 0) hx hb dX6_on_135 (by decide) ?_
      exact w6_on_136 C hk33 _ _ _ _ _ _ _ h P (lv_sub hl [1, 2, 0, 4] rfl)
    · exact w6_on_131 C hk33 _ _ _ _ _ _ h P (lv_sub hl [1, 2, 0, 4] rfl)
theorem w6_on_113 (C : zCx p s m args meth c cX6_on 9 RX6 (some .long) D ad cA A) {z : Int64} {S : Zs} {k33 : Int32 → Int32 → Int32 → Int32 → Option Int64} (hk33 : ∀ (x1 : Int32) (x2 : Int32) (x3 : Int32) (x4 : Int32) (H : Heap) (locs : List Loc) (ls : Array Slot), k33 x1 x2 x3 x4 = some z → zP D zC ad cA A S s H locs → lv_has ls 9 [(0, .ref (ad 0)), (1, .int x1), (2, .int x2), (3, .int x3), (4, .int x4)] → W p l e (zrm 2 48) s m args below meth c H locs 0 0 (MQ below (zQl D zC ad cA A (z, S)) args s 0 0 A) (F0 m 33 ls [])) (x1 : Int32) (x3 : Int32) (x4 : Int32) (x5 : Int64) (x7 : Int64) (H : Heap) (locs : List Loc) (ls : Array Slot) (h : f6_on_113 S k33 x1 x3 x4 x5 x7 = some z) (P : zP D zC ad cA A S s H locs) (hl : lv_has ls 9 [(0, .ref (ad 0)), (1, .int x1), (3, .int x3), (4, .int x4), (5, .long x5), (7, .long x7)]) :
    W p l e (zrm 2 48) s m args below meth c H locs 0 0 (MQ below (zQl D zC ad cA A (z, S)) args s 0 0 A) (F0 m 113 ls []) := by
  have hx := C.1
  have hb := C.2.1
  unfold f6_on_113 at h
  refine lv_iconst (v := 1) hx hb dX6_on_113 (by decide) ?_
  refine lv_goto (tgt := 118) hx hb dX6_on_114 (by decide) ?_
  exact w6_on_118 C hk33 _ _ _ _ _ _ _ _ _ h P (lv_sub hl [0, 1, 2, 3, 4, 5] rfl)
theorem w6_on_33 (C : zCx p s m args meth c cX6_on 9 RX6 (some .long) D ad cA A) {z : Int64} {S : Zs} :
    ∀ (n : Nat) (x1 : Int32) (x2 : Int32) (x3 : Int32) (x4 : Int32) (H : Heap) (locs : List Loc) (ls : Array Slot), f6_on_33 S n x1 x2 x3 x4 = some z → zP D zC ad cA A S s H locs → lv_has ls 9 [(0, .ref (ad 0)), (1, .int x1), (2, .int x2), (3, .int x3), (4, .int x4)] → W p l e (zrm 2 48) s m args below meth c H locs 0 0 (MQ below (zQl D zC ad cA A (z, S)) args s 0 0 A) (F0 m 33 ls []) := by
  have hx := C.1
  have hb := C.2.1
  intro n
  induction n with
  | zero =>
    intro x1 x2 x3 x4 H locs ls h
    cases h
  | succ n ih =>
    intro x1 x2 x3 x4 H locs ls h P hl
    unfold f6_on_33 at h
    refine lv_iload hx hb dX6_on_33 (lv_at hl 4 rfl) ?_
    refine lv_aload_n hx hb dX6_on_35 rfl (lv_at hl 0 rfl) ?_
    refine gF6_47 C P zs0 rfl dX6_on_36 ?_
    refine gF6_203 C P zW_37.1 rfl dX6_on_39 ?_
    refine z_icmp_ge (tgt := 143) hx hb dX6_on_42 (by decide) h (fun h => ?_) (fun h => ?_)
    · refine lv_iload_n hx hb dX6_on_143 rfl (lv_at hl 2 rfl) ?_
      refine z_if_eq (tgt := 159) hx hb dX6_on_144 (by decide) h (fun h => ?_) (fun h => ?_)
      · refine lv_iload_n hx hb dX6_on_159 rfl (lv_at hl 3 rfl) ?_
        refine z_if_eq (tgt := 169) hx hb dX6_on_160 (by decide) h (fun h => ?_) (fun h => ?_)
        · refine lv_lconst (v := 0) hx hb dX6_on_169 (by decide) ?_
          exact z_lret C P (by rw [Option.some.inj h]) dX6_on_170
        · refine lv_ldc2 (v := (-1)) hx hb C.2.2.2.1 (C.2.2.2.2.1 _ kK6_239) dX6_on_163 ?_
          refine lv_goto (tgt := 170) hx hb dX6_on_166 (by decide) ?_
          exact z_lret C P (by rw [Option.some.inj h]) dX6_on_170
      · refine lv_iload_n hx hb dX6_on_147 rfl (lv_at hl 3 rfl) ?_
        refine z_if_eq (tgt := 157) hx hb dX6_on_148 (by decide) h (fun h => ?_) (fun h => ?_)
        · refine lv_lconst (v := 1) hx hb dX6_on_157 (by decide) ?_
          exact z_lret C P (by rw [Option.some.inj h]) dX6_on_158
        · refine lv_ldc2 (v := 2) hx hb C.2.2.2.1 (C.2.2.2.2.1 _ kK6_237) dX6_on_151 ?_
          refine lv_goto (tgt := 158) hx hb dX6_on_154 (by decide) ?_
          exact z_lret C P (by rw [Option.some.inj h]) dX6_on_158
    · refine lv_aload_n hx hb dX6_on_45 rfl (lv_at hl 0 rfl) ?_
      refine gF6_47 C P zs0 rfl dX6_on_46 ?_
      refine gF6_167 C P zW_37.1 rfl dX6_on_49 ?_
      refine lv_iload_n hx hb dX6_on_52 rfl (lv_at hl 1 rfl) ?_
      refine z_lald C P zW_37.2.2.2.2.2.1 dX6_on_53 h (fun h hi => ?_)
      refine lv_aload_n hx hb dX6_on_54 rfl (lv_at hl 0 rfl) ?_
      refine gF6_51 C P zs0 rfl dX6_on_55 ?_
      refine lv_aload_n hx hb dX6_on_58 rfl (lv_at hl 0 rfl) ?_
      refine gF6_51 C P zs0 rfl dX6_on_59 ?_
      refine gF6_167 C P zW_46.1 rfl dX6_on_62 ?_
      refine lv_iload hx hb dX6_on_65 (lv_at hl 4 rfl) ?_
      obtain ⟨r67, g67, h⟩ := bd1_some h
      refine z_callVl C P (As := [.ref (ad (46 + 7)), .int x4]) (m5_leastCost zW_46 zW_46.2.2.2.2.2.1 g67) cW6_178 rfl zW_46.1 rfl (by decide) hl.1 rfl (Nat.le_of_ble_eq_true rfl) dX6_on_67 ⟨Nat.zero_le _, Nat.zero_le _⟩ (fun H locs P => ?_)
      refine lv_lmul hx hb dX6_on_70 ?_
      refine z_topl h (fun v71 h => ?_)
      refine lv_lstore (lv' := [(5, .long v71), (0, .ref (ad 0)), (1, .int x1), (2, .int x2), (3, .int x3), (4, .int x4)]) hx hb dX6_on_71 hl (by decide) rfl (fun ls hl => ?_)
      refine lv_aload_n hx hb dX6_on_73 rfl (lv_at hl 1 rfl) ?_
      refine gF6_51 C P zs0 rfl dX6_on_74 ?_
      refine gF6_167 C P zW_46.1 rfl dX6_on_77 ?_
      refine lv_iload_n hx hb dX6_on_80 rfl (lv_at hl 2 rfl) ?_
      refine z_lald C P zW_46.2.2.2.2.2.1 dX6_on_81 h (fun h hi => ?_)
      refine lv_aload_n hx hb dX6_on_82 rfl (lv_at hl 1 rfl) ?_
      refine gF6_47 C P zs0 rfl dX6_on_83 ?_
      refine lv_aload_n hx hb dX6_on_86 rfl (lv_at hl 1 rfl) ?_
      refine gF6_47 C P zs0 rfl dX6_on_87 ?_
      refine gF6_167 C P zW_37.1 rfl dX6_on_90 ?_
      refine lv_iload hx hb dX6_on_93 (lv_at hl 5 rfl) ?_
      obtain ⟨r95, g95, h⟩ := bd1_some h
      refine z_callVl C P (As := [.ref (ad (37 + 7)), .int x4]) (m5_leastCost zW_37 zW_37.2.2.2.2.2.1 g95) cW6_178 rfl zW_37.1 rfl (by decide) hl.1 rfl (Nat.le_of_ble_eq_true rfl) dX6_on_95 ⟨Nat.zero_le _, Nat.zero_le _⟩ (fun H locs P => ?_)
      refine lv_lmul hx hb dX6_on_98 ?_
      refine z_topl h (fun v99 h => ?_)
      refine lv_lstore (lv' := [(7, .long v99), (5, .long v71), (0, .ref (ad 0)), (1, .int x1), (2, .int x2), (3, .int x3), (4, .int x4)]) hx hb dX6_on_99 hl (by decide) rfl (fun ls hl => ?_)
      refine lv_iload_n hx hb dX6_on_101 rfl (lv_at hl 4 rfl) ?_
      refine z_if_ne (tgt := 113) hx hb dX6_on_102 (by decide) h (fun h => ?_) (fun h => ?_)
      · exact w6_on_113 C ih _ _ _ _ _ _ _ _ h P (lv_sub hl [2, 3, 5, 6, 1, 0] rfl)
      · refine lv_lload hx hb dX6_on_105 (lv_at hl 1 rfl) ?_
        refine lv_lload hx hb dX6_on_107 (lv_at hl 0 rfl) ?_
        refine z_lcmp_le (tgt := 117) hx hb dX6_on_109 dX6_on_110 (by decide) h (fun h => ?_) (fun h => ?_)
        · refine lv_iconst (v := 0) hx hb dX6_on_117 (by decide) ?_
          exact w6_on_118 C ih _ _ _ _ _ _ _ _ _ h P (lv_sub hl [2, 3, 5, 6, 1, 0] rfl)
        · exact w6_on_113 C ih _ _ _ _ _ _ _ _ h P (lv_sub hl [2, 3, 5, 6, 1, 0] rfl)
theorem m6_on {l : Launch} {D : va_G} {cA : Nat → ClassId} {ad : Nat → Nat} {x1 : Int32} {S : Zs} {z : Int64} (h : f6_on S x1 = some z) :
    zMl l yX6_on cX6_on 9 2 48 D zC ad cA S [.ref (ad 0), .int x1] (z, S) := by
  refine z_enter (Qc := fun A => zQl D zC ad cA A (z, S)) (by decide +kernel) (Nat.le_of_ble_eq_true rfl) (fun p e s m below meth c A C P ls hl => ?_)
  have hx := C.1
  have hb := C.2.1
  have hl : lv_has ls 9 [(0, .ref (ad 0)), (1, .int x1)] := hl
  unfold f6_on at h
  refine lv_aload_n hx hb dX6_on_0 rfl (lv_at hl 0 rfl) ?_
  refine gF6_47 C P zs0 rfl dX6_on_1 ?_
  refine lv_iload_n hx hb dX6_on_4 rfl (lv_at hl 1 rfl) ?_
  refine z_callVb C P (As := [.int x1]) (m5_isLand zW_37) cW6_151 rfl zW_37.1 rfl (by decide) hl.1 rfl (Nat.le_of_ble_eq_true rfl) dX6_on_5 ⟨Nat.zero_le _, Nat.zero_le _⟩ (fun H locs n5 P => ?_)
  refine z_if_ne (tgt := 15) hx hb dX6_on_8 (by decide) h (fun h => ?_) (fun h => ?_)
  · refine lv_aload_n hx hb dX6_on_15 rfl (lv_at hl 0 rfl) ?_
    refine gF6_65 C P zs0 rfl dX6_on_16 ?_
    refine z_if_ne (tgt := 26) hx hb dX6_on_19 (by decide) h (fun h => ?_) (fun h => ?_)
    · refine lv_iconst (v := 0) hx hb dX6_on_26 (by decide) ?_
      refine lv_istore_n (lv' := [(2, .int (0 : Int32)), (0, .ref (ad 0)), (1, .int x1)]) hx hb dX6_on_27 rfl hl (by decide) rfl (fun ls hl => ?_)
      refine lv_iconst (v := 0) hx hb dX6_on_28 (by decide) ?_
      refine lv_istore_n (lv' := [(3, .int (0 : Int32)), (2, .int (0 : Int32)), (0, .ref (ad 0)), (1, .int x1)]) hx hb dX6_on_29 rfl hl (by decide) rfl (fun ls hl => ?_)
      refine lv_iconst (v := 0) hx hb dX6_on_30 (by decide) ?_
      refine lv_istore (lv' := [(4, .int (0 : Int32)), (3, .int (0 : Int32)), (2, .int (0 : Int32)), (0, .ref (ad 0)), (1, .int x1)]) hx hb dX6_on_31 hl (by decide) rfl (fun ls hl => ?_)
      exact w6_on_33 C _ _ _ _ _ _ _ _ h P (lv_sub hl [3, 4, 2, 1, 0] rfl)
    · refine lv_ldc2 (v := (-9000000000000000002)) hx hb C.2.2.2.1 (C.2.2.2.2.1 _ kK6_190) dX6_on_22 ?_
      exact z_lret C P (by rw [Option.some.inj h]) dX6_on_25
  · refine lv_ldc2 (v := (-9000000000000000001)) hx hb C.2.2.2.1 (C.2.2.2.2.1 _ kK6_80) dX6_on_11 ?_
    exact z_lret C P (by rw [Option.some.inj h]) dX6_on_14
end ZVC5
