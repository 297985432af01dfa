section ZVC3
variable {p : Program} {l : Launch} {e : Env} {s : State} {m : MethodId} {args : Array Value} {below : List Frame} {meth : Method} {c : Code} {D : va_G} {cA : Nat → ClassId} {A : Nat → Prop} {ad : Nat → Nat}
theorem w6_bestGift_92 (C : zCx p s m args meth c cX6_bestGift 5 RX6 (some .int) D ad cA A) {z : Int32} {S : Zs} {k5 : Int32 → Int32 → Int32 → Int32 → Option Int32} (hk5 : ∀ (x1 : Int32) (x2 : Int32) (x3 : Int32) (x4 : Int32) (H : Heap) (locs : List Loc) (ls : Array Slot), k5 x1 x2 x3 x4 = some z → zP D zC ad cA A S s H locs → lv_has ls 5 [(0, .ref (ad 0)), (1, .int x1), (2, .int x2), (3, .int x3), (4, .int x4)] → W p l e (zrm 0 0) s m args below meth c H locs 0 0 (MQ below (zQi D zC ad cA A (z, S)) args s 0 0 A) (F0 m 5 ls [])) (x1 : Int32) (x2 : Int32) (x3 : Int32) (x4 : Int32) (H : Heap) (locs : List Loc) (ls : Array Slot) (h : f6_bestGift_92 S k5 x1 x2 x3 x4 = some z) (P : zP D zC ad cA A S s H locs) (hl : lv_has ls 5 [(0, .ref (ad 0)), (1, .int x1), (2, .int x2), (3, .int x3), (4, .int x4)]) :
    W p l e (zrm 0 0) s m args below meth c H locs 0 0 (MQ below (zQi D zC ad cA A (z, S)) args s 0 0 A) (F0 m 92 ls []) := by
  have hx := C.1
  have hb := C.2.1
  unfold f6_bestGift_92 at h
  obtain ⟨v92, ev92, h⟩ := z_nm h
  refine lv_iinc (v := v92) (lv' := [(4, .int v92), (0, .ref (ad 0)), (1, .int x1), (2, .int x2), (3, .int x3)]) hx hb dX6_bestGift_92 hl (k := 4) rfl (by rw [ev92]; rfl) (by decide) rfl (fun ls hl => ?_)
  refine lv_goto (tgt := 5) hx hb dX6_bestGift_95 (by decide) ?_
  exact hk5 _ _ _ _ _ _ _ h P (lv_sub hl [1, 2, 3, 4, 0] rfl)
theorem w6_bestGift_89 (C : zCx p s m args meth c cX6_bestGift 5 RX6 (some .int) D ad cA A) {z : Int32} {S : Zs} {k5 : Int32 → Int32 → Int32 → Int32 → Option Int32} (hk5 : ∀ (x1 : Int32) (x2 : Int32) (x3 : Int32) (x4 : Int32) (H : Heap) (locs : List Loc) (ls : Array Slot), k5 x1 x2 x3 x4 = some z → zP D zC ad cA A S s H locs → lv_has ls 5 [(0, .ref (ad 0)), (1, .int x1), (2, .int x2), (3, .int x3), (4, .int x4)] → W p l e (zrm 0 0) s m args below meth c H locs 0 0 (MQ below (zQi D zC ad cA A (z, S)) args s 0 0 A) (F0 m 5 ls [])) (x1 : Int32) (x2 : Int32) (x4 : Int32) (H : Heap) (locs : List Loc) (ls : Array Slot) (h : f6_bestGift_89 S k5 x1 x2 x4 = some z) (P : zP D zC ad cA A S s H locs) (hl : lv_has ls 5 [(0, .ref (ad 0)), (1, .int x1), (2, .int x2), (4, .int x4)]) :
    W p l e (zrm 0 0) s m args below meth c H locs 0 0 (MQ below (zQi D zC ad cA A (z, S)) args s 0 0 A) (F0 m 89 ls []) := by
  have hx := C.1
  have hb := C.2.1
  unfold f6_bestGift_89 at h
  refine lv_iload hx hb dX6_bestGift_89 (lv_at hl 3 rfl) ?_
  refine lv_istore_n (lv' := [(3, .int x4), (0, .ref (ad 0)), (1, .int x1), (2, .int x2), (4, .int x4)]) hx hb dX6_bestGift_91 rfl hl (by decide) rfl (fun ls hl => ?_)
  exact w6_bestGift_92 C hk5 _ _ _ _ _ _ _ h P (lv_sub hl [1, 2, 3, 0, 4] rfl)
theorem w6_bestGift_5 (C : zCx p s m args meth c cX6_bestGift 5 RX6 (some .int) D ad cA A) {z : Int32} {S : Zs} :
    ∀ (n : Nat) (x1 : Int32) (x2 : Int32) (x3 : Int32) (x4 : Int32) (H : Heap) (locs : List Loc) (ls : Array Slot), f6_bestGift_5 S n x1 x2 x3 x4 = some z → zP D zC ad cA A S s H locs → lv_has ls 5 [(0, .ref (ad 0)), (1, .int x1), (2, .int x2), (3, .int x3), (4, .int x4)] → W p l e (zrm 0 0) s m args below meth c H locs 0 0 (MQ below (zQi D zC ad cA A (z, S)) args s 0 0 A) (F0 m 5 ls []) := by
  have hx := C.1
  have hb := C.2.1
  intro n
  induction n with
  | zero =>
    intro x1 x2 x3 x4 H locs ls h
    cases h
  | succ n ih =>
    intro x1 x2 x3 x4 H locs ls h P hl
    unfold f6_bestGift_5 at h
    refine lv_iload hx hb dX6_bestGift_5 (lv_at hl 4 rfl) ?_
    refine lv_aload_n hx hb dX6_bestGift_7 rfl (lv_at hl 0 rfl) ?_
    refine gF6_47 C P zs0 rfl dX6_bestGift_8 ?_
    refine gF6_203 C P zW_37.1 rfl dX6_bestGift_11 ?_
    refine z_icmp_ge (tgt := 98) hx hb dX6_bestGift_14 (by decide) h (fun h => ?_) (fun h => ?_)
    · refine lv_iload_n hx hb dX6_bestGift_98 rfl (lv_at hl 3 rfl) ?_
      exact z_iret C P (by rw [Option.some.inj h]) dX6_bestGift_99
    · refine lv_aload_n hx hb dX6_bestGift_17 rfl (lv_at hl 0 rfl) ?_
      refine gF6_61 C P zs0 rfl dX6_bestGift_18 ?_
      refine lv_iload hx hb dX6_bestGift_21 (lv_at hl 4 rfl) ?_
      refine z_iald C P zs65 dX6_bestGift_23 h (fun h hi => ?_)
      refine lv_iload_n hx hb dX6_bestGift_24 rfl (lv_at hl 1 rfl) ?_
      refine lv_ishr hx hb dX6_bestGift_25 ?_
      refine lv_iconst (v := 1) hx hb dX6_bestGift_26 (by decide) ?_
      refine lv_iand hx hb dX6_bestGift_27 ?_
      refine z_if_ne (tgt := 34) hx hb dX6_bestGift_28 (by decide) h (fun h => ?_) (fun h => ?_)
      · refine lv_iload_n hx hb dX6_bestGift_34 rfl (lv_at hl 3 rfl) ?_
        refine z_if_lt (tgt := 89) hx hb dX6_bestGift_35 (by decide) h (fun h => ?_) (fun h => ?_)
        · exact w6_bestGift_89 C ih _ _ _ _ _ _ h P (lv_sub hl [0, 1, 2, 4] rfl)
        · refine lv_aload_n hx hb dX6_bestGift_38 rfl (lv_at hl 0 rfl) ?_
          refine gF6_47 C P zs0 rfl dX6_bestGift_39 ?_
          refine gF6_157 C P zW_37.1 rfl dX6_bestGift_42 ?_
          refine lv_iload_n hx hb dX6_bestGift_45 rfl (lv_at hl 2 rfl) ?_
          refine z_aald C P zW_37.2.2.2.1 (zrs3 37) zW_37.2.2.2.2.1 dX6_bestGift_46 h (fun h hg46 => ?_)
          refine lv_iload hx hb dX6_bestGift_47 (lv_at hl 4 rfl) ?_
          refine z_iald C P hg46 dX6_bestGift_49 h (fun h hi => ?_)
          refine lv_aload_n hx hb dX6_bestGift_50 rfl (lv_at hl 0 rfl) ?_
          refine gF6_47 C P zs0 rfl dX6_bestGift_51 ?_
          refine gF6_157 C P zW_37.1 rfl dX6_bestGift_54 ?_
          refine lv_iload_n hx hb dX6_bestGift_57 rfl (lv_at hl 1 rfl) ?_
          refine z_aald C P zW_37.2.2.2.1 (zrs3 37) zW_37.2.2.2.2.1 dX6_bestGift_58 h (fun h hg58 => ?_)
          refine lv_iload_n hx hb dX6_bestGift_59 rfl (lv_at hl 3 rfl) ?_
          refine z_iald C P hg58 dX6_bestGift_60 h (fun h hi => ?_)
          refine lv_imul hx hb dX6_bestGift_61 ?_
          refine lv_aload_n hx hb dX6_bestGift_62 rfl (lv_at hl 0 rfl) ?_
          refine gF6_47 C P zs0 rfl dX6_bestGift_63 ?_
          refine gF6_157 C P zW_37.1 rfl dX6_bestGift_66 ?_
          refine lv_iload_n hx hb dX6_bestGift_69 rfl (lv_at hl 2 rfl) ?_
          refine z_aald C P zW_37.2.2.2.1 (zrs3 37) zW_37.2.2.2.2.1 dX6_bestGift_70 h (fun h hg70 => ?_)
          refine lv_iload_n hx hb dX6_bestGift_71 rfl (lv_at hl 3 rfl) ?_
          refine z_iald C P hg70 dX6_bestGift_72 h (fun h hi => ?_)
          refine lv_aload_n hx hb dX6_bestGift_73 rfl (lv_at hl 0 rfl) ?_
          refine gF6_47 C P zs0 rfl dX6_bestGift_74 ?_
          refine gF6_157 C P zW_37.1 rfl dX6_bestGift_77 ?_
          refine lv_iload_n hx hb dX6_bestGift_80 rfl (lv_at hl 1 rfl) ?_
          refine z_aald C P zW_37.2.2.2.1 (zrs3 37) zW_37.2.2.2.2.1 dX6_bestGift_81 h (fun h hg81 => ?_)
          refine lv_iload hx hb dX6_bestGift_82 (lv_at hl 4 rfl) ?_
          refine z_iald C P hg81 dX6_bestGift_84 h (fun h hi => ?_)
          refine lv_imul hx hb dX6_bestGift_85 ?_
          refine z_icmp_ge (tgt := 92) hx hb dX6_bestGift_86 (by decide) h (fun h => ?_) (fun h => ?_)
          · exact w6_bestGift_92 C ih _ _ _ _ _ _ _ h P (lv_sub hl [0, 1, 2, 3, 4] rfl)
          · exact w6_bestGift_89 C ih _ _ _ _ _ _ h P (lv_sub hl [0, 1, 2, 4] rfl)
      · refine lv_goto (tgt := 92) hx hb dX6_bestGift_31 (by decide) ?_
        exact w6_bestGift_92 C ih _ _ _ _ _ _ _ h P (lv_sub hl [0, 1, 2, 3, 4] rfl)
theorem m6_bestGift {l : Launch} {D : va_G} {cA : Nat → ClassId} {ad : Nat → Nat} {x1 : Int32} {x2 : Int32} {S : Zs} {z : Int32} (h : f6_bestGift S x1 x2 = some z) :
    zMi l yX6_bestGift cX6_bestGift 5 0 0 D zC ad cA S [.ref (ad 0), .int x1, .int x2] (z, S) := by
  refine z_enter (Qc := fun A => zQi D zC ad cA A (z, S)) (by decide +kernel) (Nat.le_of_ble_eq_true rfl) (fun p e s m below meth c A C P ls hl => ?_)
  have hx := C.1
  have hb := C.2.1
  have hl : lv_has ls 5 [(0, .ref (ad 0)), (1, .int x1), (2, .int x2)] := hl
  unfold f6_bestGift at h
  refine lv_iconst (v := (-1)) hx hb dX6_bestGift_0 (by decide) ?_
  refine lv_istore_n (lv' := [(3, .int (-1 : Int32)), (0, .ref (ad 0)), (1, .int x1), (2, .int x2)]) hx hb dX6_bestGift_1 rfl hl (by decide) rfl (fun ls hl => ?_)
  refine lv_iconst (v := 0) hx hb dX6_bestGift_2 (by decide) ?_
  refine lv_istore (lv' := [(4, .int (0 : Int32)), (3, .int (-1 : Int32)), (0, .ref (ad 0)), (1, .int x1), (2, .int x2)]) hx hb dX6_bestGift_3 hl (by decide) rfl (fun ls hl => ?_)
  exact w6_bestGift_5 C _ _ _ _ _ _ _ _ h P (lv_sub hl [2, 3, 4, 1, 0] rfl)
theorem w6_makesMore_51 (C : zCx p s m args meth c cX6_makesMore 11 RX6 (some .boolean) D ad cA A) {z : Int32} {S : Zs} {k20 : Int32 → Int32 → Int64 → Int64 → Int32 → Option Int32} (hk20 : ∀ (x1 : Int32) (x2 : Int32) (x3 : Int64) (x5 : Int64) (x7 : Int32) (H : Heap) (locs : List Loc) (ls : Array Slot), k20 x1 x2 x3 x5 x7 = some z → zP D zC ad cA A S s H locs → lv_has ls 11 [(0, .ref (ad 0)), (1, .int x1), (2, .int x2), (3, .long x3), (5, .long x5), (7, .int x7)] → W p l e (zrm 1 24) s m args below meth c H locs 0 0 (MQ below (zQb D zC ad cA A (z, S)) args s 0 0 A) (F0 m 20 ls [])) (x1 : Int32) (x2 : Int32) (x3 : Int64) (x5 : Int64) (x7 : Int32) (x8 : Int32) (t0 : Int32) (t1 : Int32) (H : Heap) (locs : List Loc) (ls : Array Slot) (h : f6_makesMore_51 S k20 x1 x2 x3 x5 x7 x8 t0 t1 = some z) (P : zP D zC ad cA A S s H locs) (hl : lv_has ls 11 [(0, .ref (ad 0)), (1, .int x1), (2, .int x2), (3, .long x3), (5, .long x5), (7, .int x7), (8, .int x8)]) :
    W p l e (zrm 1 24) s m args below meth c H locs 0 0 (MQ below (zQb D zC ad cA A (z, S)) args s 0 0 A) (F0 m 51 ls [.int t0, .int t1]) := by
  have hx := C.1
  have hb := C.2.1
  unfold f6_makesMore_51 at h
  refine z_callSi C P (As := [.int t1, .int t0]) (m6_landOfRing) cW6_288 rfl (by decide) hl.1 rfl (Nat.le_of_ble_eq_true rfl) dX6_makesMore_51 ⟨Nat.zero_le _, Nat.zero_le _⟩ (fun H locs P => ?_)
  refine z_topi h (fun v54 h => ?_)
  refine lv_istore (lv' := [(9, .int v54), (0, .ref (ad 0)), (1, .int x1), (2, .int x2), (3, .long x3), (5, .long x5), (7, .int x7), (8, .int x8)]) hx hb dX6_makesMore_54 hl (by decide) rfl (fun ls hl => ?_)
  refine lv_aload_n hx hb dX6_makesMore_56 rfl (lv_at hl 1 rfl) ?_
  refine gF6_47 C P zs0 rfl dX6_makesMore_57 ?_
  refine lv_iload hx hb dX6_makesMore_60 (lv_at hl 7 rfl) ?_
  refine z_callVb C P (As := [.int x8]) (m5_isLand zW_37) cW6_151 rfl zW_37.1 rfl (by decide) hl.1 rfl (Nat.le_of_ble_eq_true rfl) dX6_makesMore_62 ⟨Nat.zero_le _, Nat.zero_le _⟩ (fun H locs n62 P => ?_)
  refine z_if_eq (tgt := 80) hx hb dX6_makesMore_65 (by decide) h (fun h => ?_) (fun h => ?_)
  · refine lv_iconst (v := 0) hx hb dX6_makesMore_80 (by decide) ?_
    exact z_zret C P (by rw [Option.some.inj h]) (by decide) dX6_makesMore_81
  · refine lv_aload_n hx hb dX6_makesMore_68 rfl (lv_at hl 1 rfl) ?_
    refine gF6_47 C P zs0 rfl dX6_makesMore_69 ?_
    refine lv_iload hx hb dX6_makesMore_72 (lv_at hl 0 rfl) ?_
    refine z_callVb C P (As := [.int v54]) (m5_isLand zW_37) cW6_151 rfl zW_37.1 rfl (by decide) hl.1 rfl (Nat.le_of_ble_eq_true rfl) dX6_makesMore_74 ⟨Nat.zero_le _, Nat.zero_le _⟩ (fun H locs n74 P => ?_)
    refine z_if_ne (tgt := 82) hx hb dX6_makesMore_77 (by decide) h (fun h => ?_) (fun h => ?_)
    · refine lv_aload_n hx hb dX6_makesMore_82 rfl (lv_at hl 1 rfl) ?_
      refine lv_iload hx hb dX6_makesMore_83 (lv_at hl 7 rfl) ?_
      refine lv_iload hx hb dX6_makesMore_85 (lv_at hl 0 rfl) ?_
      obtain ⟨r87, g87, h⟩ := bd1_some h
      refine z_callVi C P (As := [.int x8, .int v54]) (m6_bestGift g87) cW6_291 rfl zs0 rfl (by decide) hl.1 rfl (Nat.le_of_ble_eq_true rfl) dX6_makesMore_87 ⟨Nat.zero_le _, Nat.zero_le _⟩ (fun H locs P => ?_)
      refine lv_istore (lv' := [(10, .int r87), (9, .int v54), (0, .ref (ad 0)), (1, .int x1), (2, .int x2), (3, .long x3), (5, .long x5), (7, .int x7), (8, .int x8)]) hx hb dX6_makesMore_90 hl (by decide) rfl (fun ls hl => ?_)
      refine lv_iload hx hb dX6_makesMore_92 (lv_at hl 0 rfl) ?_
      refine z_if_ge (tgt := 99) hx hb dX6_makesMore_94 (by decide) h (fun h => ?_) (fun h => ?_)
      · refine lv_lload_n hx hb dX6_makesMore_99 rfl (lv_at hl 5 rfl) ?_
        refine lv_aload_n hx hb dX6_makesMore_100 rfl (lv_at hl 2 rfl) ?_
        refine gF6_47 C P zs0 rfl dX6_makesMore_101 ?_
        refine gF6_157 C P zW_37.1 rfl dX6_makesMore_104 ?_
        refine lv_iload hx hb dX6_makesMore_107 (lv_at hl 1 rfl) ?_
        refine z_aald C P zW_37.2.2.2.1 (zrs3 37) zW_37.2.2.2.2.1 dX6_makesMore_109 h (fun h hg109 => ?_)
        refine lv_iload hx hb dX6_makesMore_110 (lv_at hl 0 rfl) ?_
        refine z_iald C P hg109 dX6_makesMore_112 h (fun h hi => ?_)
        refine lv_i2l hx hb dX6_makesMore_113 rfl ?_
        refine lv_lmul hx hb dX6_makesMore_114 ?_
        refine z_topl h (fun v115 h => ?_)
        refine lv_lstore_n (lv' := [(3, .long v115), (10, .int r87), (9, .int v54), (0, .ref (ad 0)), (1, .int x1), (2, .int x2), (5, .long x5), (7, .int x7), (8, .int x8)]) hx hb dX6_makesMore_115 rfl hl (by decide) rfl (fun ls hl => ?_)
        refine lv_lload hx hb dX6_makesMore_116 (lv_at hl 6 rfl) ?_
        refine lv_aload_n hx hb dX6_makesMore_118 rfl (lv_at hl 3 rfl) ?_
        refine gF6_47 C P zs0 rfl dX6_makesMore_119 ?_
        refine gF6_157 C P zW_37.1 rfl dX6_makesMore_122 ?_
        refine lv_iload hx hb dX6_makesMore_125 (lv_at hl 8 rfl) ?_
        refine z_aald C P zW_37.2.2.2.1 (zrs3 37) zW_37.2.2.2.2.1 dX6_makesMore_127 h (fun h hg127 => ?_)
        refine lv_iload hx hb dX6_makesMore_128 (lv_at hl 1 rfl) ?_
        refine z_iald C P hg127 dX6_makesMore_130 h (fun h hi => ?_)
        refine lv_i2l hx hb dX6_makesMore_131 rfl ?_
        refine lv_lmul hx hb dX6_makesMore_132 ?_
        refine z_topl h (fun v133 h => ?_)
        refine lv_lstore (lv' := [(5, .long v133), (3, .long v115), (10, .int r87), (9, .int v54), (0, .ref (ad 0)), (1, .int x1), (2, .int x2), (7, .int x7), (8, .int x8)]) hx hb dX6_makesMore_133 hl (by decide) rfl (fun ls hl => ?_)
        obtain ⟨v135, ev135, h⟩ := z_nm h
        refine lv_iinc (v := v135) (lv' := [(7, .int v135), (5, .long v133), (3, .long v115), (10, .int r87), (9, .int v54), (0, .ref (ad 0)), (1, .int x1), (2, .int x2), (8, .int x8)]) hx hb dX6_makesMore_135 hl (k := 7) rfl (by rw [ev135]; rfl) (by decide) rfl (fun ls hl => ?_)
        refine lv_goto (tgt := 20) hx hb dX6_makesMore_138 (by decide) ?_
        exact hk20 _ _ _ _ _ _ _ _ h P (lv_sub hl [5, 6, 7, 2, 1, 0] rfl)
      · refine lv_iconst (v := 0) hx hb dX6_makesMore_97 (by decide) ?_
        exact z_zret C P (by rw [Option.some.inj h]) (by decide) dX6_makesMore_98
    · refine lv_iconst (v := 0) hx hb dX6_makesMore_80 (by decide) ?_
      exact z_zret C P (by rw [Option.some.inj h]) (by decide) dX6_makesMore_81
theorem w6_makesMore_20 (C : zCx p s m args meth c cX6_makesMore 11 RX6 (some .boolean) D ad cA A) {z : Int32} {S : Zs} :
    ∀ (n : Nat) (x1 : Int32) (x2 : Int32) (x3 : Int64) (x5 : Int64) (x7 : Int32) (H : Heap) (locs : List Loc) (ls : Array Slot), f6_makesMore_20 S n x1 x2 x3 x5 x7 = some z → zP D zC ad cA A S s H locs → lv_has ls 11 [(0, .ref (ad 0)), (1, .int x1), (2, .int x2), (3, .long x3), (5, .long x5), (7, .int x7)] → W p l e (zrm 1 24) s m args below meth c H locs 0 0 (MQ below (zQb D zC ad cA A (z, S)) args s 0 0 A) (F0 m 20 ls []) := by
  have hx := C.1
  have hb := C.2.1
  intro n
  induction n with
  | zero =>
    intro x1 x2 x3 x5 x7 H locs ls h
    cases h
  | succ n ih =>
    intro x1 x2 x3 x5 x7 H locs ls h P hl
    unfold f6_makesMore_20 at h
    refine lv_iload hx hb dX6_makesMore_20 (lv_at hl 5 rfl) ?_
    refine lv_iload_n hx hb dX6_makesMore_22 rfl (lv_at hl 2 rfl) ?_
    refine z_icmp_ge (tgt := 141) hx hb dX6_makesMore_23 (by decide) h (fun h => ?_) (fun h => ?_)
    · refine lv_lload_n hx hb dX6_makesMore_141 rfl (lv_at hl 3 rfl) ?_
      refine lv_lload hx hb dX6_makesMore_142 (lv_at hl 4 rfl) ?_
      refine z_lcmp_ge (tgt := 152) hx hb dX6_makesMore_144 dX6_makesMore_145 (by decide) h (fun h => ?_) (fun h => ?_)
      · refine lv_iconst (v := 0) hx hb dX6_makesMore_152 (by decide) ?_
        exact z_zret C P (by rw [Option.some.inj h]) (by decide) dX6_makesMore_153
      · refine lv_iconst (v := 1) hx hb dX6_makesMore_148 (by decide) ?_
        refine lv_goto (tgt := 153) hx hb dX6_makesMore_149 (by decide) ?_
        exact z_zret C P (by rw [Option.some.inj h]) (by decide) dX6_makesMore_153
    · refine lv_iload_n hx hb dX6_makesMore_26 rfl (lv_at hl 1 rfl) ?_
      refine lv_iload hx hb dX6_makesMore_27 (lv_at hl 5 rfl) ?_
      refine z_callSi C P (As := [.int x1, .int x7]) (m6_landOfRing) cW6_288 rfl (by decide) hl.1 rfl (Nat.le_of_ble_eq_true rfl) dX6_makesMore_29 ⟨Nat.zero_le _, Nat.zero_le _⟩ (fun H locs P => ?_)
      refine z_topi h (fun v32 h => ?_)
      refine lv_istore (lv' := [(8, .int v32), (0, .ref (ad 0)), (1, .int x1), (2, .int x2), (3, .long x3), (5, .long x5), (7, .int x7)]) hx hb dX6_makesMore_32 hl (by decide) rfl (fun ls hl => ?_)
      refine lv_iload_n hx hb dX6_makesMore_34 rfl (lv_at hl 2 rfl) ?_
      refine lv_iload hx hb dX6_makesMore_35 (lv_at hl 6 rfl) ?_
      refine lv_iconst (v := 1) hx hb dX6_makesMore_37 (by decide) ?_
      refine lv_iadd hx hb dX6_makesMore_38 ?_
      refine lv_iload_n hx hb dX6_makesMore_39 rfl (lv_at hl 3 rfl) ?_
      refine z_icmp_ge (tgt := 50) hx hb dX6_makesMore_40 (by decide) h (fun h => ?_) (fun h => ?_)
      · refine lv_iconst (v := 0) hx hb dX6_makesMore_50 (by decide) ?_
        exact w6_makesMore_51 C ih _ _ _ _ _ _ _ _ _ _ _ h P (lv_sub hl [1, 2, 3, 4, 5, 6, 0] rfl)
      · refine lv_iload hx hb dX6_makesMore_43 (lv_at hl 6 rfl) ?_
        refine lv_iconst (v := 1) hx hb dX6_makesMore_45 (by decide) ?_
        refine lv_iadd hx hb dX6_makesMore_46 ?_
        refine lv_goto (tgt := 51) hx hb dX6_makesMore_47 (by decide) ?_
        exact w6_makesMore_51 C ih _ _ _ _ _ _ _ _ _ _ _ h P (lv_sub hl [1, 2, 3, 4, 5, 6, 0] rfl)
theorem w6_makesMore_11 (C : zCx p s m args meth c cX6_makesMore 11 RX6 (some .boolean) D ad cA A) {z : Int32} {S : Zs} (x1 : Int32) (t0 : Int32) (H : Heap) (locs : List Loc) (ls : Array Slot) (h : f6_makesMore_11 S x1 t0 = some z) (P : zP D zC ad cA A S s H locs) (hl : lv_has ls 11 [(0, .ref (ad 0)), (1, .int x1)]) :
    W p l e (zrm 1 24) s m args below meth c H locs 0 0 (MQ below (zQb D zC ad cA A (z, S)) args s 0 0 A) (F0 m 11 ls [.int t0]) := by
  have hx := C.1
  have hb := C.2.1
  unfold f6_makesMore_11 at h
  refine lv_istore_n (lv' := [(2, .int t0), (0, .ref (ad 0)), (1, .int x1)]) hx hb dX6_makesMore_11 rfl hl (by decide) rfl (fun ls hl => ?_)
  refine lv_lconst (v := 1) hx hb dX6_makesMore_12 (by decide) ?_
  refine lv_lstore_n (lv' := [(3, .long (1 : Int64)), (2, .int t0), (0, .ref (ad 0)), (1, .int x1)]) hx hb dX6_makesMore_13 rfl hl (by decide) rfl (fun ls hl => ?_)
  refine lv_lconst (v := 1) hx hb dX6_makesMore_14 (by decide) ?_
  refine lv_lstore (lv' := [(5, .long (1 : Int64)), (3, .long (1 : Int64)), (2, .int t0), (0, .ref (ad 0)), (1, .int x1)]) hx hb dX6_makesMore_15 hl (by decide) rfl (fun ls hl => ?_)
  refine lv_iconst (v := 0) hx hb dX6_makesMore_17 (by decide) ?_
  refine lv_istore (lv' := [(7, .int (0 : Int32)), (5, .long (1 : Int64)), (3, .long (1 : Int64)), (2, .int t0), (0, .ref (ad 0)), (1, .int x1)]) hx hb dX6_makesMore_18 hl (by decide) rfl (fun ls hl => ?_)
  exact w6_makesMore_20 C _ _ _ _ _ _ _ _ _ h P (lv_sub hl [4, 5, 3, 2, 1, 0] rfl)
theorem m6_makesMore {l : Launch} {D : va_G} {cA : Nat → ClassId} {ad : Nat → Nat} {x1 : Int32} {S : Zs} {z : Int32} (h : f6_makesMore S x1 = some z) :
    zMb l yX6_makesMore cX6_makesMore 11 1 24 D zC ad cA S [.ref (ad 0), .int x1] (z, S) := by
  refine z_enter (Qc := fun A => zQb D zC ad cA A (z, S)) (by decide +kernel) (Nat.le_of_ble_eq_true rfl) (fun p e s m below meth c A C P ls hl => ?_)
  have hx := C.1
  have hb := C.2.1
  have hl : lv_has ls 11 [(0, .ref (ad 0)), (1, .int x1)] := hl
  unfold f6_makesMore at h
  refine lv_iload_n hx hb dX6_makesMore_0 rfl (lv_at hl 1 rfl) ?_
  refine lv_bipush (v := 64) hx hb dX6_makesMore_1 (by decide) ?_
  refine z_icmp_ge (tgt := 10) hx hb dX6_makesMore_3 (by decide) h (fun h => ?_) (fun h => ?_)
  · refine lv_iconst (v := 3) hx hb dX6_makesMore_10 (by decide) ?_
    exact w6_makesMore_11 C _ _ _ _ _ h P (lv_sub hl [0, 1] rfl)
  · refine lv_iconst (v := 2) hx hb dX6_makesMore_6 (by decide) ?_
    refine lv_goto (tgt := 11) hx hb dX6_makesMore_7 (by decide) ?_
    exact w6_makesMore_11 C _ _ _ _ _ h P (lv_sub hl [0, 1] rfl)
theorem m6_stays {l : Launch} {D : va_G} {cA : Nat → ClassId} {ad : Nat → Nat} {x1 : Int32} {x2 : Int32} {x3 : Int32} {S : Zs} {z : Int64} (h : f6_stays S x1 x2 x3 = some z) :
    zMl l yX6_stays cX6_stays 8 2 48 D zC ad cA S [.ref (ad 0), .int x1, .int x2, .int x3] (z, S) := by
  refine z_enter (Qc := fun A => zQl D zC ad cA A (z, S)) (by decide +kernel) (Nat.le_of_ble_eq_true rfl) (fun p e s m below meth c A C P ls hl => ?_)
  have hx := C.1
  have hb := C.2.1
  have hl : lv_has ls 8 [(0, .ref (ad 0)), (1, .int x1), (2, .int x2), (3, .int x3)] := hl
  unfold f6_stays at h
  refine lv_aload_n hx hb dX6_stays_0 rfl (lv_at hl 0 rfl) ?_
  refine gF6_47 C P zs0 rfl dX6_stays_1 ?_
  refine lv_iload_n hx hb dX6_stays_4 rfl (lv_at hl 1 rfl) ?_
  refine z_callVb C P (As := [.int x1]) (m5_isLand zW_37) cW6_151 rfl zW_37.1 rfl (by decide) hl.1 rfl (Nat.le_of_ble_eq_true rfl) dX6_stays_5 ⟨Nat.zero_le _, Nat.zero_le _⟩ (fun H locs n5 P => ?_)
  refine z_if_eq (tgt := 33) hx hb dX6_stays_8 (by decide) h (fun h => ?_) (fun h => ?_)
  · refine lv_ldc2 (v := (-9000000000000000001)) hx hb C.2.2.2.1 (C.2.2.2.2.1 _ kK6_80) dX6_stays_33 ?_
    exact z_lret C P (by rw [Option.some.inj h]) dX6_stays_36
  · refine lv_aload_n hx hb dX6_stays_11 rfl (lv_at hl 0 rfl) ?_
    refine gF6_47 C P zs0 rfl dX6_stays_12 ?_
    refine lv_iload_n hx hb dX6_stays_15 rfl (lv_at hl 2 rfl) ?_
    refine z_callVb C P (As := [.int x2]) (m5_isGood zW_37) cW6_154 rfl zW_37.1 rfl (by decide) hl.1 rfl (Nat.le_of_ble_eq_true rfl) dX6_stays_16 ⟨Nat.zero_le _, Nat.zero_le _⟩ (fun H locs n16 P => ?_)
    refine z_if_eq (tgt := 33) hx hb dX6_stays_19 (by decide) h (fun h => ?_) (fun h => ?_)
    · refine lv_ldc2 (v := (-9000000000000000001)) hx hb C.2.2.2.1 (C.2.2.2.2.1 _ kK6_80) dX6_stays_33 ?_
      exact z_lret C P (by rw [Option.some.inj h]) dX6_stays_36
    · refine lv_iload_n hx hb dX6_stays_22 rfl (lv_at hl 3 rfl) ?_
      refine z_if_lt (tgt := 33) hx hb dX6_stays_23 (by decide) h (fun h => ?_) (fun h => ?_)
      · refine lv_ldc2 (v := (-9000000000000000001)) hx hb C.2.2.2.1 (C.2.2.2.2.1 _ kK6_80) dX6_stays_33 ?_
        exact z_lret C P (by rw [Option.some.inj h]) dX6_stays_36
      · refine lv_iload_n hx hb dX6_stays_26 rfl (lv_at hl 3 rfl) ?_
        refine lv_sipush (v := 900) hx hb dX6_stays_27 (by decide) ?_
        refine z_icmp_le (tgt := 37) hx hb dX6_stays_30 (by decide) h (fun h => ?_) (fun h => ?_)
        · refine lv_aload_n hx hb dX6_stays_37 rfl (lv_at hl 0 rfl) ?_
          refine gF6_47 C P zs0 rfl dX6_stays_38 ?_
          refine lv_aload_n hx hb dX6_stays_41 rfl (lv_at hl 0 rfl) ?_
          refine gF6_47 C P zs0 rfl dX6_stays_42 ?_
          refine gF6_167 C P zW_37.1 rfl dX6_stays_45 ?_
          refine lv_iload_n hx hb dX6_stays_48 rfl (lv_at hl 1 rfl) ?_
          refine lv_iload_n hx hb dX6_stays_49 rfl (lv_at hl 2 rfl) ?_
          obtain ⟨r50, g50, h⟩ := bd1_some h
          refine z_callVl C P (As := [.ref (ad (37 + 7)), .int x1, .int x2]) (m5_cost zW_37 zW_37.2.2.2.2.2.1 g50) cW6_182 rfl zW_37.1 rfl (by decide) hl.1 rfl (Nat.le_of_ble_eq_true rfl) dX6_stays_50 ⟨Nat.zero_le _, Nat.zero_le _⟩ (fun H locs P => ?_)
          refine lv_ldc2 (v := 100) hx hb C.2.2.2.1 (C.2.2.2.2.1 _ kK6_232) dX6_stays_53 ?_
          refine lv_lmul hx hb dX6_stays_56 ?_
          refine z_topl h (fun v57 h => ?_)
          refine lv_lstore (lv' := [(4, .long v57), (0, .ref (ad 0)), (1, .int x1), (2, .int x2), (3, .int x3)]) hx hb dX6_stays_57 hl (by decide) rfl (fun ls hl => ?_)
          refine lv_aload_n hx hb dX6_stays_59 rfl (lv_at hl 1 rfl) ?_
          refine gF6_47 C P zs0 rfl dX6_stays_60 ?_
          refine lv_aload_n hx hb dX6_stays_63 rfl (lv_at hl 1 rfl) ?_
          refine gF6_47 C P zs0 rfl dX6_stays_64 ?_
          refine gF6_167 C P zW_37.1 rfl dX6_stays_67 ?_
          refine lv_iload_n hx hb dX6_stays_70 rfl (lv_at hl 3 rfl) ?_
          obtain ⟨r71, g71, h⟩ := bd1_some h
          refine z_callVl C P (As := [.ref (ad (37 + 7)), .int x2]) (m5_leastCost zW_37 zW_37.2.2.2.2.2.1 g71) cW6_178 rfl zW_37.1 rfl (by decide) hl.1 rfl (Nat.le_of_ble_eq_true rfl) dX6_stays_71 ⟨Nat.zero_le _, Nat.zero_le _⟩ (fun H locs P => ?_)
          refine lv_bipush (v := 100) hx hb dX6_stays_74 (by decide) ?_
          refine lv_iload_n hx hb dX6_stays_76 rfl (lv_at hl 4 rfl) ?_
          refine lv_iadd hx hb dX6_stays_77 ?_
          refine lv_i2l hx hb dX6_stays_78 rfl ?_
          refine lv_lmul hx hb dX6_stays_79 ?_
          refine z_topl h (fun v80 h => ?_)
          refine lv_lstore (lv' := [(6, .long v80), (4, .long v57), (0, .ref (ad 0)), (1, .int x1), (2, .int x2), (3, .int x3)]) hx hb dX6_stays_80 hl (by decide) rfl (fun ls hl => ?_)
          refine lv_lload hx hb dX6_stays_82 (lv_at hl 1 rfl) ?_
          refine lv_lload hx hb dX6_stays_84 (lv_at hl 0 rfl) ?_
          refine z_lcmp_gt (tgt := 94) hx hb dX6_stays_86 dX6_stays_87 (by decide) h (fun h => ?_) (fun h => ?_)
          · refine lv_lconst (v := 0) hx hb dX6_stays_94 (by decide) ?_
            exact z_lret C P (by rw [Option.some.inj h]) dX6_stays_95
          · refine lv_lconst (v := 1) hx hb dX6_stays_90 (by decide) ?_
            refine lv_goto (tgt := 95) hx hb dX6_stays_91 (by decide) ?_
            exact z_lret C P (by rw [Option.some.inj h]) dX6_stays_95
        · refine lv_ldc2 (v := (-9000000000000000001)) hx hb C.2.2.2.1 (C.2.2.2.2.1 _ kK6_80) dX6_stays_33 ?_
          exact z_lret C P (by rw [Option.some.inj h]) dX6_stays_36
theorem w5_take_61 (C : zCx p s m args meth c cX5_take 3 RX5 none D ad cA A) {o : Nat} (ho : zW o) {q1 : Nat} (hq1 : zW q1) {z : Zs} :
    ∀ (n : Nat) (x2 : Int32) (S : Zs) (H : Heap) (locs : List Loc) (ls : Array Slot), f5_take_61 o q1 n x2 S = some z → zP D zC ad cA A S s H locs → lv_has ls 3 [(0, .ref (ad o)), (1, .ref (ad q1)), (2, .int x2)] → W p l e (zrm 1 68) s m args below meth c H locs 0 0 (MQ below (zQv D zC ad cA A z) args s 0 0 A) (F0 m 61 ls []) := by
  have hx := C.1
  have hb := C.2.1
  intro n
  induction n with
  | zero =>
    intro x2 S H locs ls h
    cases h
  | succ n ih =>
    intro x2 S H locs ls h P hl
    unfold f5_take_61 at h
    refine lv_iload_n hx hb dX5_take_61 rfl (lv_at hl 2 rfl) ?_
    refine lv_iconst (v := 3) hx hb dX5_take_62 (by decide) ?_
    refine z_icmp_ge (tgt := 91) hx hb dX5_take_63 (by decide) h (fun h => ?_) (fun h => ?_)
    · exact z_vret C P (Option.some.inj h) dX5_take_91
    · refine lv_aload_n hx hb dX5_take_66 rfl (lv_at hl 1 rfl) ?_
      refine gF5_27 C P hq1.1 rfl dX5_take_67 ?_
      refine lv_iload_n hx hb dX5_take_70 rfl (lv_at hl 2 rfl) ?_
      refine z_aald C P hq1.2.2.2.1 (zrs3 q1) hq1.2.2.2.2.1 dX5_take_71 h (fun h hg71 => ?_)
      refine lv_iconst (v := 0) hx hb dX5_take_72 (by decide) ?_
      refine lv_aload_n hx hb dX5_take_73 rfl (lv_at hl 0 rfl) ?_
      refine gF5_27 C P ho.1 rfl dX5_take_74 ?_
      refine lv_iload_n hx hb dX5_take_77 rfl (lv_at hl 2 rfl) ?_
      refine z_aald C P ho.2.2.2.1 (zrs3 o) ho.2.2.2.2.1 dX5_take_78 h (fun h hg78 => ?_)
      refine lv_iconst (v := 0) hx hb dX5_take_79 (by decide) ?_
      refine lv_bipush (v := 6) hx hb dX5_take_80 (by decide) ?_
      refine z_acpI C P zacp5_37 hg71 hg78 (by decide) hl.1 (Nat.le_of_ble_eq_true rfl) dX5_take_82 h (fun S82 H locs h P => ?_)
      obtain ⟨v85, ev85, h⟩ := z_nm h
      refine lv_iinc (v := v85) (lv' := [(2, .int v85), (0, .ref (ad o)), (1, .ref (ad q1))]) hx hb dX5_take_85 hl (k := 2) rfl (by rw [ev85]; rfl) (by decide) rfl (fun ls hl => ?_)
      refine lv_goto (tgt := 61) hx hb dX5_take_88 (by decide) ?_
      exact ih _ _ _ _ _ h P (lv_sub hl [1, 2, 0] rfl)
theorem m5_take {l : Launch} {D : va_G} {cA : Nat → ClassId} {ad : Nat → Nat} {o : Nat} (ho : zW o) {q1 : Nat} (hq1 : zW q1) {S : Zs} {z : Zs} (h : f5_take o q1 S = some z) :
    zMv l yX5_take cX5_take 3 1 68 D zC ad cA S [.ref (ad o), .ref (ad q1)] z := by
  refine z_enter (Qc := fun A => zQv D zC ad cA A z) (by decide +kernel) (Nat.le_of_ble_eq_true rfl) (fun p e s m below meth c A C P ls hl => ?_)
  have hx := C.1
  have hb := C.2.1
  have hl : lv_has ls 3 [(0, .ref (ad o)), (1, .ref (ad q1))] := hl
  unfold f5_take at h
  refine lv_aload_n hx hb dX5_take_0 rfl (lv_at hl 0 rfl) ?_
  refine lv_aload_n hx hb dX5_take_1 rfl (lv_at hl 1 rfl) ?_
  refine gF5_9 C P hq1.1 rfl dX5_take_2 ?_
  refine pF5_9 C P ho.1 rfl dX5_take_5 h (fun S5 H locs h P => ?_)
  refine lv_aload_n hx hb dX5_take_8 rfl (lv_at hl 0 rfl) ?_
  refine lv_aload_n hx hb dX5_take_9 rfl (lv_at hl 1 rfl) ?_
  refine gF5_15 C P hq1.1 rfl dX5_take_10 ?_
  refine pF5_15 C P ho.1 rfl dX5_take_13 h (fun S13 H locs h P => ?_)
  refine lv_aload_n hx hb dX5_take_16 rfl (lv_at hl 1 rfl) ?_
  refine gF5_18 C P hq1.1 rfl dX5_take_17 ?_
  refine lv_iconst (v := 0) hx hb dX5_take_20 (by decide) ?_
  refine lv_aload_n hx hb dX5_take_21 rfl (lv_at hl 0 rfl) ?_
  refine gF5_18 C P ho.1 rfl dX5_take_22 ?_
  refine lv_iconst (v := 0) hx hb dX5_take_25 (by decide) ?_
  refine lv_bipush (v := 6) hx hb dX5_take_26 (by decide) ?_
  refine z_acpI C P zacp5_37 hq1.2.1 ho.2.1 (by decide) hl.1 (Nat.le_of_ble_eq_true rfl) dX5_take_28 h (fun S28 H locs h P => ?_)
  refine lv_aload_n hx hb dX5_take_31 rfl (lv_at hl 1 rfl) ?_
  refine gF5_22 C P hq1.1 rfl dX5_take_32 ?_
  refine lv_iconst (v := 0) hx hb dX5_take_35 (by decide) ?_
  refine lv_aload_n hx hb dX5_take_36 rfl (lv_at hl 0 rfl) ?_
  refine gF5_22 C P ho.1 rfl dX5_take_37 ?_
  refine lv_iconst (v := 0) hx hb dX5_take_40 (by decide) ?_
  refine lv_iconst (v := 3) hx hb dX5_take_41 (by decide) ?_
  refine z_acpI C P zacp5_37 hq1.2.2.1 ho.2.2.1 (by decide) hl.1 (Nat.le_of_ble_eq_true rfl) dX5_take_42 h (fun S42 H locs h P => ?_)
  refine lv_aload_n hx hb dX5_take_45 rfl (lv_at hl 1 rfl) ?_
  refine gF5_30 C P hq1.1 rfl dX5_take_46 ?_
  refine lv_iconst (v := 0) hx hb dX5_take_49 (by decide) ?_
  refine lv_aload_n hx hb dX5_take_50 rfl (lv_at hl 0 rfl) ?_
  refine gF5_30 C P ho.1 rfl dX5_take_51 ?_
  refine lv_iconst (v := 0) hx hb dX5_take_54 (by decide) ?_
  refine lv_iconst (v := 3) hx hb dX5_take_55 (by decide) ?_
  refine z_acpL C P zacp5_37 hq1.2.2.2.2.2.1 ho.2.2.2.2.2.1 (by decide) hl.1 (Nat.le_of_ble_eq_true rfl) dX5_take_56 h (fun S56 H locs h P => ?_)
  refine lv_iconst (v := 0) hx hb dX5_take_59 (by decide) ?_
  refine lv_istore_n (lv' := [(2, .int (0 : Int32)), (0, .ref (ad o)), (1, .ref (ad q1))]) hx hb dX5_take_60 rfl hl (by decide) rfl (fun ls hl => ?_)
  exact w5_take_61 C ho hq1 _ _ _ _ _ _ h P (lv_sub hl [1, 2, 0] rfl)
theorem m6_keepAhead {l : Launch} {D : va_G} {cA : Nat → ClassId} {ad : Nat → Nat} {S : Zs} {z : Zs} (h : f6_keepAhead S = some z) :
    zMv l yX6_keepAhead cX6_keepAhead 1 2 90 D zC ad cA S [.ref (ad 0)] z := by
  refine z_enter (Qc := fun A => zQv D zC ad cA A z) (by decide +kernel) (Nat.le_of_ble_eq_true rfl) (fun p e s m below meth c A C P ls hl => ?_)
  have hx := C.1
  have hb := C.2.1
  have hl : lv_has ls 1 [(0, .ref (ad 0))] := hl
  unfold f6_keepAhead at h
  refine lv_aload_n hx hb dX6_keepAhead_0 rfl (lv_at hl 0 rfl) ?_
  refine gF6_51 C P zs0 rfl dX6_keepAhead_1 ?_
  refine lv_aload_n hx hb dX6_keepAhead_4 rfl (lv_at hl 0 rfl) ?_
  refine gF6_47 C P zs0 rfl dX6_keepAhead_5 ?_
  obtain ⟨S8, g8, h⟩ := bd1_some h
  refine z_callVv C P (As := [.ref (ad 37)]) (m5_take zW_46 zW_37 g8) cW6_142 rfl zW_46.1 rfl (by decide) hl.1 rfl (Nat.le_of_ble_eq_true rfl) dX6_keepAhead_8 ⟨Nat.zero_le _, Nat.zero_le _⟩ (fun H locs P => ?_)
  refine lv_aload_n hx hb dX6_keepAhead_11 rfl (lv_at hl 0 rfl) ?_
  refine lv_iconst (v := 1) hx hb dX6_keepAhead_12 (by decide) ?_
  refine pF6_65 C P zs0 rfl dX6_keepAhead_13 (by decide) (by decide) h (fun S13 H locs h P => ?_)
  exact z_vret C P (Option.some.inj h) dX6_keepAhead_16
theorem w1_clearWins_9 (C : zCx p s m args meth c cX1_clearWins 3 RX1 none D ad cA A) {z : Zs} {k2 : Int32 → Zs → Option Zs} (hk2 : ∀ (x1 : Int32) (S : Zs) (H : Heap) (locs : List Loc) (ls : Array Slot), k2 x1 S = some z → zP D zC ad cA A S s H locs → lv_has ls 3 [(0, .ref (ad 17)), (1, .int x1)] → W p l e (zrm 0 0) s m args below meth c H locs 0 0 (MQ below (zQv D zC ad cA A z) args s 0 0 A) (F0 m 2 ls [])) :
    ∀ (n : Nat) (x1 : Int32) (x2 : Int32) (S : Zs) (H : Heap) (locs : List Loc) (ls : Array Slot), f1_clearWins_9 k2 n x1 x2 S = some z → zP D zC ad cA A S s H locs → lv_has ls 3 [(0, .ref (ad 17)), (1, .int x1), (2, .int x2)] → W p l e (zrm 0 0) s m args below meth c H locs 0 0 (MQ below (zQv D zC ad cA A z) args s 0 0 A) (F0 m 9 ls []) := by
  have hx := C.1
  have hb := C.2.1
  intro n
  induction n with
  | zero =>
    intro x1 x2 S H locs ls h
    cases h
  | succ n ih =>
    intro x1 x2 S H locs ls h P hl
    unfold f1_clearWins_9 at h
    refine lv_iload_n hx hb dX1_clearWins_9 rfl (lv_at hl 2 rfl) ?_
    refine lv_bipush (v := 6) hx hb dX1_clearWins_10 (by decide) ?_
    refine z_icmp_ge (tgt := 30) hx hb dX1_clearWins_12 (by decide) h (fun h => ?_) (fun h => ?_)
    · obtain ⟨v30, ev30, h⟩ := z_nm h
      refine lv_iinc (v := v30) (lv' := [(1, .int v30), (0, .ref (ad 17)), (2, .int x2)]) hx hb dX1_clearWins_30 hl (k := 1) rfl (by rw [ev30]; rfl) (by decide) rfl (fun ls hl => ?_)
      refine lv_goto (tgt := 2) hx hb dX1_clearWins_33 (by decide) ?_
      exact hk2 _ _ _ _ _ h P (lv_sub hl [1, 0] rfl)
    · refine lv_aload_n hx hb dX1_clearWins_15 rfl (lv_at hl 0 rfl) ?_
      refine gF1_23 C P zs17 rfl dX1_clearWins_16 ?_
      refine lv_iload_n hx hb dX1_clearWins_19 rfl (lv_at hl 1 rfl) ?_
      refine z_aald C P zs28 zs28r zs28g dX1_clearWins_20 h (fun h hg20 => ?_)
      refine lv_iload_n hx hb dX1_clearWins_21 rfl (lv_at hl 2 rfl) ?_
      refine lv_iconst (v := 0) hx hb dX1_clearWins_22 (by decide) ?_
      refine z_iast C P hg20 dX1_clearWins_23 h (fun S23 H locs h P => ?_)
      obtain ⟨v24, ev24, h⟩ := z_nm h
      refine lv_iinc (v := v24) (lv' := [(2, .int v24), (0, .ref (ad 17)), (1, .int x1)]) hx hb dX1_clearWins_24 hl (k := 2) rfl (by rw [ev24]; rfl) (by decide) rfl (fun ls hl => ?_)
      refine lv_goto (tgt := 9) hx hb dX1_clearWins_27 (by decide) ?_
      exact ih _ _ _ _ _ _ h P (lv_sub hl [1, 2, 0] rfl)
theorem w1_clearWins_2 (C : zCx p s m args meth c cX1_clearWins 3 RX1 none D ad cA A) {z : Zs} :
    ∀ (n : Nat) (x1 : Int32) (S : Zs) (H : Heap) (locs : List Loc) (ls : Array Slot), f1_clearWins_2 n x1 S = some z → zP D zC ad cA A S s H locs → lv_has ls 3 [(0, .ref (ad 17)), (1, .int x1)] → W p l e (zrm 0 0) s m args below meth c H locs 0 0 (MQ below (zQv D zC ad cA A z) args s 0 0 A) (F0 m 2 ls []) := by
  have hx := C.1
  have hb := C.2.1
  intro n
  induction n with
  | zero =>
    intro x1 S H locs ls h
    cases h
  | succ n ih =>
    intro x1 S H locs ls h P hl
    unfold f1_clearWins_2 at h
    refine lv_iload_n hx hb dX1_clearWins_2 rfl (lv_at hl 1 rfl) ?_
    refine lv_iconst (v := 3) hx hb dX1_clearWins_3 (by decide) ?_
    refine z_icmp_ge (tgt := 36) hx hb dX1_clearWins_4 (by decide) h (fun h => ?_) (fun h => ?_)
    · exact z_vret C P (Option.some.inj h) dX1_clearWins_36
    · refine lv_iconst (v := 0) hx hb dX1_clearWins_7 (by decide) ?_
      refine lv_istore_n (lv' := [(2, .int (0 : Int32)), (0, .ref (ad 17)), (1, .int x1)]) hx hb dX1_clearWins_8 rfl hl (by decide) rfl (fun ls hl => ?_)
      exact w1_clearWins_9 C ih _ _ _ _ _ _ _ h P (lv_sub hl [1, 2, 0] rfl)
theorem m1_clearWins {l : Launch} {D : va_G} {cA : Nat → ClassId} {ad : Nat → Nat} {S : Zs} {z : Zs} (h : f1_clearWins S = some z) :
    zMv l yX1_clearWins cX1_clearWins 3 0 0 D zC ad cA S [.ref (ad 17)] z := by
  refine z_enter (Qc := fun A => zQv D zC ad cA A z) (by decide +kernel) (Nat.le_of_ble_eq_true rfl) (fun p e s m below meth c A C P ls hl => ?_)
  have hx := C.1
  have hb := C.2.1
  have hl : lv_has ls 3 [(0, .ref (ad 17))] := hl
  unfold f1_clearWins at h
  refine lv_iconst (v := 0) hx hb dX1_clearWins_0 (by decide) ?_
  refine lv_istore_n (lv' := [(1, .int (0 : Int32)), (0, .ref (ad 17))]) hx hb dX1_clearWins_1 rfl hl (by decide) rfl (fun ls hl => ?_)
  exact w1_clearWins_2 C _ _ _ _ _ _ h P (lv_sub hl [1, 0] rfl)
theorem w0_layTied_48 (C : zCx p s m args meth c cX0_layTied 10 RX0 none D ad cA A) {o : Nat} (ho : zPr o) {q1 : Nat} (hq1 : zW q1) {z : Zs} :
    ∀ (n : Nat) (x2 : Int32) (x3 : Int64) (x5 : Int32) (x6 : Int64) (x8 : Int32) (x9 : Int32) (S : Zs) (H : Heap) (locs : List Loc) (ls : Array Slot), f0_layTied_48 o q1 n x2 x3 x5 x6 x8 x9 S = some z → zP D zC ad cA A S s H locs → lv_has ls 10 [(0, .ref (ad o)), (1, .ref (ad q1)), (2, .int x2), (3, .long x3), (5, .int x5), (6, .long x6), (8, .int x8), (9, .int x9)] → W p l e (zrm 1 23) s m args below meth c H locs 0 0 (MQ below (zQv D zC ad cA A z) args s 0 0 A) (F0 m 48 ls []) := by
  have hx := C.1
  have hb := C.2.1
  intro n
  induction n with
  | zero =>
    intro x2 x3 x5 x6 x8 x9 S H locs ls h
    cases h
  | succ n ih =>
    intro x2 x3 x5 x6 x8 x9 S H locs ls h P hl
    unfold f0_layTied_48 at h
    refine lv_iload hx hb dX0_layTied_48 (lv_at hl 7 rfl) ?_
    refine lv_aload_n hx hb dX0_layTied_50 rfl (lv_at hl 0 rfl) ?_
    refine gF0_9 C P ho.1 rfl dX0_layTied_51 ?_
    refine z_icmp_ge (tgt := 131) hx hb dX0_layTied_54 (by decide) h (fun h => ?_) (fun h => ?_)
    · exact z_vret C P (Option.some.inj h) dX0_layTied_131
    · refine lv_aload_n hx hb dX0_layTied_57 rfl (lv_at hl 0 rfl) ?_
      refine gF0_15 C P ho.1 rfl dX0_layTied_58 ?_
      refine lv_iload hx hb dX0_layTied_61 (lv_at hl 7 rfl) ?_
      refine lv_aload_n hx hb dX0_layTied_63 rfl (lv_at hl 1 rfl) ?_
      refine gF0_48 C P hq1.1 rfl dX0_layTied_64 ?_
      refine lv_iload hx hb dX0_layTied_67 (lv_at hl 7 rfl) ?_
      refine z_iald C P hq1.2.1 dX0_layTied_69 h (fun h hi => ?_)
      refine z_iast C P ho.2.1 dX0_layTied_70 h (fun S70 H locs h P => ?_)
      refine lv_aload_n hx hb dX0_layTied_71 rfl (lv_at hl 0 rfl) ?_
      refine gF0_19 C P ho.1 rfl dX0_layTied_72 ?_
      refine lv_iload hx hb dX0_layTied_75 (lv_at hl 7 rfl) ?_
      refine lv_aload_n hx hb dX0_layTied_77 rfl (lv_at hl 1 rfl) ?_
      refine gF0_49 C P hq1.1 rfl dX0_layTied_78 ?_
      refine lv_iload_n hx hb dX0_layTied_81 rfl (lv_at hl 2 rfl) ?_
      refine z_aald C P hq1.2.2.2.1 (zrs3 q1) hq1.2.2.2.2.1 dX0_layTied_82 h (fun h hg82 => ?_)
      refine lv_iload hx hb dX0_layTied_83 (lv_at hl 7 rfl) ?_
      refine z_iald C P hg82 dX0_layTied_85 h (fun h hi => ?_)
      refine lv_i2l hx hb dX0_layTied_86 rfl ?_
      refine lv_lload_n hx hb dX0_layTied_87 rfl (lv_at hl 3 rfl) ?_
      refine lv_lmul hx hb dX0_layTied_88 ?_
      refine lv_aload_n hx hb dX0_layTied_89 rfl (lv_at hl 1 rfl) ?_
      refine gF0_49 C P hq1.1 rfl dX0_layTied_90 ?_
      refine lv_iload hx hb dX0_layTied_93 (lv_at hl 4 rfl) ?_
      refine z_aald C P hq1.2.2.2.1 (zrs3 q1) hq1.2.2.2.2.1 dX0_layTied_95 h (fun h hg95 => ?_)
      refine lv_iload hx hb dX0_layTied_96 (lv_at hl 7 rfl) ?_
      refine z_iald C P hg95 dX0_layTied_98 h (fun h hi => ?_)
      refine lv_i2l hx hb dX0_layTied_99 rfl ?_
      refine lv_lload hx hb dX0_layTied_100 (lv_at hl 5 rfl) ?_
      refine lv_lmul hx hb dX0_layTied_102 ?_
      refine z_minL C zmin0_53 (by decide) hl.1 (Nat.le_of_ble_eq_true rfl) dX0_layTied_103 ⟨Nat.zero_le _, Nat.zero_le _⟩ ?_
      refine z_last C P ho.2.2.1 dX0_layTied_106 h (fun S106 H locs h P => ?_)
      refine lv_aload_n hx hb dX0_layTied_107 rfl (lv_at hl 0 rfl) ?_
      refine gF0_23 C P ho.1 rfl dX0_layTied_108 ?_
      refine lv_iload hx hb dX0_layTied_111 (lv_at hl 7 rfl) ?_
      refine lv_aload_n hx hb dX0_layTied_113 rfl (lv_at hl 1 rfl) ?_
      refine gF0_49 C P hq1.1 rfl dX0_layTied_114 ?_
      refine lv_iload hx hb dX0_layTied_117 (lv_at hl 6 rfl) ?_
      refine z_aald C P hq1.2.2.2.1 (zrs3 q1) hq1.2.2.2.2.1 dX0_layTied_119 h (fun h hg119 => ?_)
      refine lv_iload hx hb dX0_layTied_120 (lv_at hl 7 rfl) ?_
      refine z_iald C P hg119 dX0_layTied_122 h (fun h hi => ?_)
      refine lv_i2l hx hb dX0_layTied_123 rfl ?_
      refine z_last C P ho.2.2.2.1 dX0_layTied_124 h (fun S124 H locs h P => ?_)
      obtain ⟨v125, ev125, h⟩ := z_nm h
      refine lv_iinc (v := v125) (lv' := [(9, .int v125), (0, .ref (ad o)), (1, .ref (ad q1)), (2, .int x2), (3, .long x3), (5, .int x5), (6, .long x6), (8, .int x8)]) hx hb dX0_layTied_125 hl (k := 7) rfl (by rw [ev125]; rfl) (by decide) rfl (fun ls hl => ?_)
      refine lv_goto (tgt := 48) hx hb dX0_layTied_128 (by decide) ?_
      exact ih _ _ _ _ _ _ _ _ _ _ h P (lv_sub hl [1, 2, 3, 4, 5, 6, 7, 0] rfl)
theorem m0_layTied {l : Launch} {D : va_G} {cA : Nat → ClassId} {ad : Nat → Nat} {o : Nat} (ho : zPr o) {q1 : Nat} (hq1 : zW q1) {x2 : Int32} {x3 : Int64} {x5 : Int32} {x6 : Int64} {x8 : Int32} {S : Zs} {z : Zs} (h : f0_layTied o q1 x2 x3 x5 x6 x8 S = some z) :
    zMv l yX0_layTied cX0_layTied 10 1 23 D zC ad cA S [.ref (ad o), .ref (ad q1), .int x2, .long x3, .int x5, .long x6, .int x8] z := by
  refine z_enter (Qc := fun A => zQv D zC ad cA A z) (by decide +kernel) (Nat.le_of_ble_eq_true rfl) (fun p e s m below meth c A C P ls hl => ?_)
  have hx := C.1
  have hb := C.2.1
  have hl : lv_has ls 10 [(0, .ref (ad o)), (1, .ref (ad q1)), (2, .int x2), (3, .long x3), (5, .int x5), (6, .long x6), (8, .int x8)] := hl
  unfold f0_layTied at h
  refine lv_aload_n hx hb dX0_layTied_0 rfl (lv_at hl 0 rfl) ?_
  refine lv_aload_n hx hb dX0_layTied_1 rfl (lv_at hl 1 rfl) ?_
  refine gF0_42 C P hq1.1 rfl dX0_layTied_2 ?_
  refine pF0_9 C P ho.1 rfl dX0_layTied_5 h (fun S5 H locs h P => ?_)
  refine lv_aload_n hx hb dX0_layTied_8 rfl (lv_at hl 0 rfl) ?_
  refine lv_aload_n hx hb dX0_layTied_9 rfl (lv_at hl 1 rfl) ?_
  refine gF0_45 C P hq1.1 rfl dX0_layTied_10 ?_
  refine lv_iload_n hx hb dX0_layTied_13 rfl (lv_at hl 2 rfl) ?_
  refine z_iald C P hq1.2.2.1 dX0_layTied_14 h (fun h hi => ?_)
  refine lv_i2l hx hb dX0_layTied_15 rfl ?_
  refine lv_lload_n hx hb dX0_layTied_16 rfl (lv_at hl 3 rfl) ?_
  refine lv_lmul hx hb dX0_layTied_17 ?_
  refine lv_aload_n hx hb dX0_layTied_18 rfl (lv_at hl 1 rfl) ?_
  refine gF0_45 C P hq1.1 rfl dX0_layTied_19 ?_
  refine lv_iload hx hb dX0_layTied_22 (lv_at hl 4 rfl) ?_
  refine z_iald C P hq1.2.2.1 dX0_layTied_24 h (fun h hi => ?_)
  refine lv_i2l hx hb dX0_layTied_25 rfl ?_
  refine lv_lload hx hb dX0_layTied_26 (lv_at hl 5 rfl) ?_
  refine lv_lmul hx hb dX0_layTied_28 ?_
  refine lv_ladd hx hb dX0_layTied_29 ?_
  refine pF0_29 C P ho.1 rfl dX0_layTied_30 h (fun S30 H locs h P => ?_)
  refine lv_aload_n hx hb dX0_layTied_33 rfl (lv_at hl 0 rfl) ?_
  refine lv_aload_n hx hb dX0_layTied_34 rfl (lv_at hl 1 rfl) ?_
  refine gF0_45 C P hq1.1 rfl dX0_layTied_35 ?_
  refine lv_iload hx hb dX0_layTied_38 (lv_at hl 6 rfl) ?_
  refine z_iald C P hq1.2.2.1 dX0_layTied_40 h (fun h hi => ?_)
  refine lv_i2l hx hb dX0_layTied_41 rfl ?_
  refine pF0_33 C P ho.1 rfl dX0_layTied_42 h (fun S42 H locs h P => ?_)
  refine lv_iconst (v := 0) hx hb dX0_layTied_45 (by decide) ?_
  refine lv_istore (lv' := [(9, .int (0 : Int32)), (0, .ref (ad o)), (1, .ref (ad q1)), (2, .int x2), (3, .long x3), (5, .int x5), (6, .long x6), (8, .int x8)]) hx hb dX0_layTied_46 hl (by decide) rfl (fun ls hl => ?_)
  exact w0_layTied_48 C ho hq1 _ _ _ _ _ _ _ _ _ _ _ h P (lv_sub hl [1, 2, 3, 4, 5, 6, 7, 0] rfl)
theorem m1_tie {l : Launch} {D : va_G} {cA : Nat → ClassId} {ad : Nat → Nat} {q1 : Nat} (hq1 : zW q1) {x2 : Int32} {x3 : Int32} {x4 : Int32} {S : Zs} {z : Zs} (h : f1_tie q1 x2 x3 x4 S = some z) :
    zMv l yX1_tie cX1_tie 10 2 53 D zC ad cA S [.ref (ad 17), .ref (ad q1), .int x2, .int x3, .int x4] z := by
  refine z_enter (Qc := fun A => zQv D zC ad cA A z) (by decide +kernel) (Nat.le_of_ble_eq_true rfl) (fun p e s m below meth c A C P ls hl => ?_)
  have hx := C.1
  have hb := C.2.1
  have hl : lv_has ls 10 [(0, .ref (ad 17)), (1, .ref (ad q1)), (2, .int x2), (3, .int x3), (4, .int x4)] := hl
  unfold f1_tie at h
  refine lv_iconst (v := 3) hx hb dX1_tie_0 (by decide) ?_
  refine lv_iload_n hx hb dX1_tie_1 rfl (lv_at hl 2 rfl) ?_
  refine lv_isub hx hb dX1_tie_2 ?_
  refine lv_iload_n hx hb dX1_tie_3 rfl (lv_at hl 3 rfl) ?_
  refine lv_isub hx hb dX1_tie_4 ?_
  refine z_topi h (fun v5 h => ?_)
  refine lv_istore (lv' := [(5, .int v5), (0, .ref (ad 17)), (1, .ref (ad q1)), (2, .int x2), (3, .int x3), (4, .int x4)]) hx hb dX1_tie_5 hl (by decide) rfl (fun ls hl => ?_)
  refine lv_aload_n hx hb dX1_tie_7 rfl (lv_at hl 2 rfl) ?_
  refine gF1_82 C P hq1.1 rfl dX1_tie_8 ?_
  refine lv_iload_n hx hb dX1_tie_11 rfl (lv_at hl 4 rfl) ?_
  refine z_aald C P hq1.2.2.2.1 (zrs3 q1) hq1.2.2.2.2.1 dX1_tie_12 h (fun h hg12 => ?_)
  refine lv_iload hx hb dX1_tie_13 (lv_at hl 5 rfl) ?_
  refine z_iald C P hg12 dX1_tie_15 h (fun h hi => ?_)
  refine lv_i2l hx hb dX1_tie_16 rfl ?_
  refine z_topl h (fun v17 h => ?_)
  refine lv_lstore (lv' := [(6, .long v17), (5, .int v5), (0, .ref (ad 17)), (1, .ref (ad q1)), (2, .int x2), (3, .int x3), (4, .int x4)]) hx hb dX1_tie_17 hl (by decide) rfl (fun ls hl => ?_)
  refine lv_aload_n hx hb dX1_tie_19 rfl (lv_at hl 3 rfl) ?_
  refine gF1_82 C P hq1.1 rfl dX1_tie_20 ?_
  refine lv_iload_n hx hb dX1_tie_23 rfl (lv_at hl 4 rfl) ?_
  refine z_aald C P hq1.2.2.2.1 (zrs3 q1) hq1.2.2.2.2.1 dX1_tie_24 h (fun h hg24 => ?_)
  refine lv_iload hx hb dX1_tie_25 (lv_at hl 6 rfl) ?_
  refine z_iald C P hg24 dX1_tie_27 h (fun h hi => ?_)
  refine lv_i2l hx hb dX1_tie_28 rfl ?_
  refine z_topl h (fun v29 h => ?_)
  refine lv_lstore (lv' := [(8, .long v29), (6, .long v17), (5, .int v5), (0, .ref (ad 17)), (1, .ref (ad q1)), (2, .int x2), (3, .int x3), (4, .int x4)]) hx hb dX1_tie_29 hl (by decide) rfl (fun ls hl => ?_)
  refine lv_aload_n hx hb dX1_tie_31 rfl (lv_at hl 3 rfl) ?_
  refine gF1_18 C P zs17 rfl dX1_tie_32 ?_
  refine lv_aload_n hx hb dX1_tie_35 rfl (lv_at hl 4 rfl) ?_
  refine lv_iload_n hx hb dX1_tie_36 rfl (lv_at hl 5 rfl) ?_
  refine lv_lload hx hb dX1_tie_37 (lv_at hl 1 rfl) ?_
  refine lv_iload_n hx hb dX1_tie_39 rfl (lv_at hl 6 rfl) ?_
  refine lv_lload hx hb dX1_tie_40 (lv_at hl 0 rfl) ?_
  refine lv_iload hx hb dX1_tie_42 (lv_at hl 2 rfl) ?_
  obtain ⟨S44, g44, h⟩ := bd1_some h
  refine z_callVv C P (As := [.ref (ad q1), .int x2, .long v17, .int x3, .long v29, .int v5]) (m0_layTied zPr_23 hq1 g44) cW1_85 rfl zPr_23.1 rfl (by decide) hl.1 rfl (Nat.le_of_ble_eq_true rfl) dX1_tie_44 ⟨Nat.zero_le _, Nat.zero_le _⟩ (fun H locs P => ?_)
  refine lv_aload_n hx hb dX1_tie_47 rfl (lv_at hl 3 rfl) ?_
  refine gF1_18 C P zs17 rfl dX1_tie_48 ?_
  obtain ⟨S51, g51, h⟩ := bd1_some h
  refine z_callVv C P (As := []) (m0_sort zPr_23 g51) cW1_40 rfl zPr_23.1 rfl (by decide) hl.1 rfl (Nat.le_of_ble_eq_true rfl) dX1_tie_51 ⟨Nat.zero_le _, Nat.zero_le _⟩ (fun H locs P => ?_)
  refine lv_aload_n hx hb dX1_tie_54 rfl (lv_at hl 3 rfl) ?_
  refine gF1_18 C P zs17 rfl dX1_tie_55 ?_
  obtain ⟨S58, g58, h⟩ := bd1_some h
  refine z_callVv C P (As := []) (m0_settleTwo zPr_23 g58) cW1_43 rfl zPr_23.1 rfl (by decide) hl.1 rfl (Nat.le_of_ble_eq_true rfl) dX1_tie_58 ⟨Nat.zero_le _, Nat.zero_le _⟩ (fun H locs P => ?_)
  refine lv_aload_n hx hb dX1_tie_61 rfl (lv_at hl 4 rfl) ?_
  refine gF1_32 C P hq1.1 rfl dX1_tie_62 ?_
  refine lv_iload_n hx hb dX1_tie_65 rfl (lv_at hl 5 rfl) ?_
  refine lv_lload hx hb dX1_tie_66 (lv_at hl 1 rfl) ?_
  refine lv_aload_n hx hb dX1_tie_68 rfl (lv_at hl 3 rfl) ?_
  refine gF1_18 C P zs17 rfl dX1_tie_69 ?_
  refine gF1_46 C P zPr_23.1 rfl dX1_tie_72 ?_
  refine lv_lmul hx hb dX1_tie_75 ?_
  refine z_last C P hq1.2.2.2.2.2.1 dX1_tie_76 h (fun S76 H locs h P => ?_)
  refine lv_aload_n hx hb dX1_tie_77 rfl (lv_at hl 4 rfl) ?_
  refine gF1_32 C P hq1.1 rfl dX1_tie_78 ?_
  refine lv_iload_n hx hb dX1_tie_81 rfl (lv_at hl 6 rfl) ?_
  refine lv_lload hx hb dX1_tie_82 (lv_at hl 0 rfl) ?_
  refine lv_aload_n hx hb dX1_tie_84 rfl (lv_at hl 3 rfl) ?_
  refine gF1_18 C P zs17 rfl dX1_tie_85 ?_
  refine gF1_46 C P zPr_23.1 rfl dX1_tie_88 ?_
  refine lv_lmul hx hb dX1_tie_91 ?_
  refine z_last C P hq1.2.2.2.2.2.1 dX1_tie_92 h (fun S92 H locs h P => ?_)
  refine lv_aload_n hx hb dX1_tie_93 rfl (lv_at hl 4 rfl) ?_
  refine gF1_32 C P hq1.1 rfl dX1_tie_94 ?_
  refine lv_iload hx hb dX1_tie_97 (lv_at hl 2 rfl) ?_
  refine lv_aload_n hx hb dX1_tie_99 rfl (lv_at hl 3 rfl) ?_
  refine gF1_18 C P zs17 rfl dX1_tie_100 ?_
  refine gF1_50 C P zPr_23.1 rfl dX1_tie_103 ?_
  refine z_last C P hq1.2.2.2.2.2.1 dX1_tie_106 h (fun S106 H locs h P => ?_)
  exact z_vret C P (Option.some.inj h) dX1_tie_107
end ZVC3
