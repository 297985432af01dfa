section ZVC2
variable {p : Program} {l : Launch} {e : Env} {s : State} {m : MethodId} {args : Array Value} {below : List Frame} {meth : Method} {c : Code} {D : va_G} {cA : Nat → ClassId} {A : Nat → Prop} {ad : Nat → Nat}
theorem w0_sort_80 (C : zCx p s m args meth c cX0_sort 3 RX0 none D ad cA A) {o : Nat} (ho : zPr o) {z : Zs} {k2 : Int32 → Zs → Option Zs} (hk2 : ∀ (x1 : Int32) (S : Zs) (H : Heap) (locs : List Loc) (ls : Array Slot), k2 x1 S = some z → zP D zC ad cA A S s H locs → lv_has ls 3 [(0, .ref (ad o)), (1, .int x1)] → W p l e (zrm 0 0) s m args below meth c H locs 0 0 (MQ below (zQv D zC ad cA A z) args s 0 0 A) (F0 m 2 ls [])) (x1 : Int32) (x2 : Int32) (S : Zs) (H : Heap) (locs : List Loc) (ls : Array Slot) (h : f0_sort_80 o k2 x1 x2 S = some z) (P : zP D zC ad cA A S s H locs) (hl : lv_has ls 3 [(0, .ref (ad o)), (1, .int x1), (2, .int x2)]) :
    W p l e (zrm 0 0) s m args below meth c H locs 0 0 (MQ below (zQv D zC ad cA A z) args s 0 0 A) (F0 m 80 ls []) := by
  have hx := C.1
  have hb := C.2.1
  unfold f0_sort_80 at h
  refine lv_aload_n hx hb dX0_sort_80 rfl (lv_at hl 0 rfl) ?_
  refine gF0_26 C P ho.1 rfl dX0_sort_81 ?_
  refine lv_iload_n hx hb dX0_sort_84 rfl (lv_at hl 2 rfl) ?_
  refine lv_iload_n hx hb dX0_sort_85 rfl (lv_at hl 1 rfl) ?_
  refine z_iast C P ho.2.2.2.2 dX0_sort_86 h (fun S86 H locs h P => ?_)
  obtain ⟨v87, ev87, h⟩ := z_nm h
  refine lv_iinc (v := v87) (lv' := [(1, .int v87), (0, .ref (ad o)), (2, .int x2)]) hx hb dX0_sort_87 hl (k := 1) rfl (by rw [ev87]; rfl) (by decide) rfl (fun ls hl => ?_)
  refine lv_goto (tgt := 2) hx hb dX0_sort_90 (by decide) ?_
  exact hk2 _ _ _ _ _ h P (lv_sub hl [1, 0] rfl)
theorem w0_sort_12 (C : zCx p s m args meth c cX0_sort 3 RX0 none D ad cA A) {o : Nat} (ho : zPr o) {z : Zs} {k2 : Int32 → Zs → Option Zs} (hk2 : ∀ (x1 : Int32) (S : Zs) (H : Heap) (locs : List Loc) (ls : Array Slot), k2 x1 S = some z → zP D zC ad cA A S s H locs → lv_has ls 3 [(0, .ref (ad o)), (1, .int x1)] → W p l e (zrm 0 0) s m args below meth c H locs 0 0 (MQ below (zQv D zC ad cA A z) args s 0 0 A) (F0 m 2 ls [])) :
    ∀ (n : Nat) (x1 : Int32) (x2 : Int32) (S : Zs) (H : Heap) (locs : List Loc) (ls : Array Slot), f0_sort_12 o k2 n x1 x2 S = some z → zP D zC ad cA A S s H locs → lv_has ls 3 [(0, .ref (ad o)), (1, .int x1), (2, .int x2)] → W p l e (zrm 0 0) s m args below meth c H locs 0 0 (MQ below (zQv D zC ad cA A z) args s 0 0 A) (F0 m 12 ls []) := by
  have hx := C.1
  have hb := C.2.1
  intro n
  induction n with
  | zero =>
    intro x1 x2 S H locs ls h
    cases h
  | succ n ih =>
    intro x1 x2 S H locs ls h P hl
    unfold f0_sort_12 at h
    refine lv_iload_n hx hb dX0_sort_12 rfl (lv_at hl 2 rfl) ?_
    refine z_if_le (tgt := 80) hx hb dX0_sort_13 (by decide) h (fun h => ?_) (fun h => ?_)
    · exact w0_sort_80 C ho hk2 _ _ _ _ _ _ h P (lv_sub hl [0, 1, 2] rfl)
    · refine lv_aload_n hx hb dX0_sort_16 rfl (lv_at hl 0 rfl) ?_
      refine gF0_19 C P ho.1 rfl dX0_sort_17 ?_
      refine lv_aload_n hx hb dX0_sort_20 rfl (lv_at hl 0 rfl) ?_
      refine gF0_26 C P ho.1 rfl dX0_sort_21 ?_
      refine lv_iload_n hx hb dX0_sort_24 rfl (lv_at hl 2 rfl) ?_
      refine lv_iconst (v := 1) hx hb dX0_sort_25 (by decide) ?_
      refine lv_isub hx hb dX0_sort_26 ?_
      refine z_iald C P ho.2.2.2.2 dX0_sort_27 h (fun h hi => ?_)
      refine z_lald C P ho.2.2.1 dX0_sort_28 h (fun h hi => ?_)
      refine lv_aload_n hx hb dX0_sort_29 rfl (lv_at hl 0 rfl) ?_
      refine gF0_23 C P ho.1 rfl dX0_sort_30 ?_
      refine lv_iload_n hx hb dX0_sort_33 rfl (lv_at hl 1 rfl) ?_
      refine z_lald C P ho.2.2.2.1 dX0_sort_34 h (fun h hi => ?_)
      refine lv_lmul hx hb dX0_sort_35 ?_
      refine lv_aload_n hx hb dX0_sort_36 rfl (lv_at hl 0 rfl) ?_
      refine gF0_19 C P ho.1 rfl dX0_sort_37 ?_
      refine lv_iload_n hx hb dX0_sort_40 rfl (lv_at hl 1 rfl) ?_
      refine z_lald C P ho.2.2.1 dX0_sort_41 h (fun h hi => ?_)
      refine lv_aload_n hx hb dX0_sort_42 rfl (lv_at hl 0 rfl) ?_
      refine gF0_23 C P ho.1 rfl dX0_sort_43 ?_
      refine lv_aload_n hx hb dX0_sort_46 rfl (lv_at hl 0 rfl) ?_
      refine gF0_26 C P ho.1 rfl dX0_sort_47 ?_
      refine lv_iload_n hx hb dX0_sort_50 rfl (lv_at hl 2 rfl) ?_
      refine lv_iconst (v := 1) hx hb dX0_sort_51 (by decide) ?_
      refine lv_isub hx hb dX0_sort_52 ?_
      refine z_iald C P ho.2.2.2.2 dX0_sort_53 h (fun h hi => ?_)
      refine z_lald C P ho.2.2.2.1 dX0_sort_54 h (fun h hi => ?_)
      refine lv_lmul hx hb dX0_sort_55 ?_
      refine z_lcmp_le (tgt := 80) hx hb dX0_sort_56 dX0_sort_57 (by decide) h (fun h => ?_) (fun h => ?_)
      · exact w0_sort_80 C ho hk2 _ _ _ _ _ _ h P (lv_sub hl [0, 1, 2] rfl)
      · refine lv_aload_n hx hb dX0_sort_60 rfl (lv_at hl 0 rfl) ?_
        refine gF0_26 C P ho.1 rfl dX0_sort_61 ?_
        refine lv_iload_n hx hb dX0_sort_64 rfl (lv_at hl 2 rfl) ?_
        refine lv_aload_n hx hb dX0_sort_65 rfl (lv_at hl 0 rfl) ?_
        refine gF0_26 C P ho.1 rfl dX0_sort_66 ?_
        refine lv_iload_n hx hb dX0_sort_69 rfl (lv_at hl 2 rfl) ?_
        refine lv_iconst (v := 1) hx hb dX0_sort_70 (by decide) ?_
        refine lv_isub hx hb dX0_sort_71 ?_
        refine z_iald C P ho.2.2.2.2 dX0_sort_72 h (fun h hi => ?_)
        refine z_iast C P ho.2.2.2.2 dX0_sort_73 h (fun S73 H locs h P => ?_)
        obtain ⟨v74, ev74, h⟩ := z_nm h
        refine lv_iinc (v := v74) (lv' := [(2, .int v74), (0, .ref (ad o)), (1, .int x1)]) hx hb dX0_sort_74 hl (k := 2) rfl (by rw [ev74]; rfl) (by decide) rfl (fun ls hl => ?_)
        refine lv_goto (tgt := 12) hx hb dX0_sort_77 (by decide) ?_
        exact ih _ _ _ _ _ _ h P (lv_sub hl [1, 2, 0] rfl)
theorem w0_sort_2 (C : zCx p s m args meth c cX0_sort 3 RX0 none D ad cA A) {o : Nat} (ho : zPr o) {z : Zs} :
    ∀ (n : Nat) (x1 : Int32) (S : Zs) (H : Heap) (locs : List Loc) (ls : Array Slot), f0_sort_2 o n x1 S = some z → zP D zC ad cA A S s H locs → lv_has ls 3 [(0, .ref (ad o)), (1, .int x1)] → W p l e (zrm 0 0) s m args below meth c H locs 0 0 (MQ below (zQv D zC ad cA A z) args s 0 0 A) (F0 m 2 ls []) := by
  have hx := C.1
  have hb := C.2.1
  intro n
  induction n with
  | zero =>
    intro x1 S H locs ls h
    cases h
  | succ n ih =>
    intro x1 S H locs ls h P hl
    unfold f0_sort_2 at h
    refine lv_iload_n hx hb dX0_sort_2 rfl (lv_at hl 1 rfl) ?_
    refine lv_aload_n hx hb dX0_sort_3 rfl (lv_at hl 0 rfl) ?_
    refine gF0_9 C P ho.1 rfl dX0_sort_4 ?_
    refine z_icmp_ge (tgt := 93) hx hb dX0_sort_7 (by decide) h (fun h => ?_) (fun h => ?_)
    · exact z_vret C P (Option.some.inj h) dX0_sort_93
    · refine lv_iload_n hx hb dX0_sort_10 rfl (lv_at hl 1 rfl) ?_
      refine lv_istore_n (lv' := [(2, .int x1), (0, .ref (ad o)), (1, .int x1)]) hx hb dX0_sort_11 rfl hl (by decide) rfl (fun ls hl => ?_)
      exact w0_sort_12 C ho ih _ _ _ _ _ _ _ h P (lv_sub hl [1, 2, 0] rfl)
theorem m0_sort {l : Launch} {D : va_G} {cA : Nat → ClassId} {ad : Nat → Nat} {o : Nat} (ho : zPr o) {S : Zs} {z : Zs} (h : f0_sort o S = some z) :
    zMv l yX0_sort cX0_sort 3 0 0 D zC ad cA S [.ref (ad o)] z := by
  refine z_enter (Qc := fun A => zQv D zC ad cA A z) (by decide +kernel) (Nat.le_of_ble_eq_true rfl) (fun p e s m below meth c A C P ls hl => ?_)
  have hx := C.1
  have hb := C.2.1
  have hl : lv_has ls 3 [(0, .ref (ad o))] := hl
  unfold f0_sort at h
  refine lv_iconst (v := 0) hx hb dX0_sort_0 (by decide) ?_
  refine lv_istore_n (lv' := [(1, .int (0 : Int32)), (0, .ref (ad o))]) hx hb dX0_sort_1 rfl hl (by decide) rfl (fun ls hl => ?_)
  exact w0_sort_2 C ho _ _ _ _ _ _ h P (lv_sub hl [1, 0] rfl)
theorem w0_allShares_4 (C : zCx p s m args meth c cX0_allShares 4 RX0 (some .long) D ad cA A) {o : Nat} (ho : zPr o) {z : Int64} {S : Zs} :
    ∀ (n : Nat) (x1 : Int64) (x3 : Int32) (H : Heap) (locs : List Loc) (ls : Array Slot), f0_allShares_4 o S n x1 x3 = some z → zP D zC ad cA A S s H locs → lv_has ls 4 [(0, .ref (ad o)), (1, .long x1), (3, .int x3)] → W p l e (zrm 0 0) s m args below meth c H locs 0 0 (MQ below (zQl D zC ad cA A (z, S)) args s 0 0 A) (F0 m 4 ls []) := by
  have hx := C.1
  have hb := C.2.1
  intro n
  induction n with
  | zero =>
    intro x1 x3 H locs ls h
    cases h
  | succ n ih =>
    intro x1 x3 H locs ls h P hl
    unfold f0_allShares_4 at h
    refine lv_iload_n hx hb dX0_allShares_4 rfl (lv_at hl 2 rfl) ?_
    refine lv_aload_n hx hb dX0_allShares_5 rfl (lv_at hl 0 rfl) ?_
    refine gF0_9 C P ho.1 rfl dX0_allShares_6 ?_
    refine z_icmp_ge (tgt := 28) hx hb dX0_allShares_9 (by decide) h (fun h => ?_) (fun h => ?_)
    · refine lv_lload_n hx hb dX0_allShares_28 rfl (lv_at hl 1 rfl) ?_
      exact z_lret C P (by rw [Option.some.inj h]) dX0_allShares_29
    · refine lv_lload_n hx hb dX0_allShares_12 rfl (lv_at hl 1 rfl) ?_
      refine lv_aload_n hx hb dX0_allShares_13 rfl (lv_at hl 0 rfl) ?_
      refine gF0_15 C P ho.1 rfl dX0_allShares_14 ?_
      refine lv_iload_n hx hb dX0_allShares_17 rfl (lv_at hl 2 rfl) ?_
      refine z_iald C P ho.2.1 dX0_allShares_18 h (fun h hi => ?_)
      refine lv_i2l hx hb dX0_allShares_19 rfl ?_
      refine lv_ladd hx hb dX0_allShares_20 ?_
      refine z_topl h (fun v21 h => ?_)
      refine lv_lstore_n (lv' := [(1, .long v21), (0, .ref (ad o)), (3, .int x3)]) hx hb dX0_allShares_21 rfl hl (by decide) rfl (fun ls hl => ?_)
      obtain ⟨v22, ev22, h⟩ := z_nm h
      refine lv_iinc (v := v22) (lv' := [(3, .int v22), (1, .long v21), (0, .ref (ad o))]) hx hb dX0_allShares_22 hl (k := 2) rfl (by rw [ev22]; rfl) (by decide) rfl (fun ls hl => ?_)
      refine lv_goto (tgt := 4) hx hb dX0_allShares_25 (by decide) ?_
      exact ih _ _ _ _ _ h P (lv_sub hl [2, 1, 0] rfl)
theorem m0_allShares {l : Launch} {D : va_G} {cA : Nat → ClassId} {ad : Nat → Nat} {o : Nat} (ho : zPr o) {S : Zs} {z : Int64} (h : f0_allShares o S = some z) :
    zMl l yX0_allShares cX0_allShares 4 0 0 D zC ad cA S [.ref (ad o)] (z, S) := by
  refine z_enter (Qc := fun A => zQl D zC ad cA A (z, S)) (by decide +kernel) (Nat.le_of_ble_eq_true rfl) (fun p e s m below meth c A C P ls hl => ?_)
  have hx := C.1
  have hb := C.2.1
  have hl : lv_has ls 4 [(0, .ref (ad o))] := hl
  unfold f0_allShares at h
  refine lv_lconst (v := 0) hx hb dX0_allShares_0 (by decide) ?_
  refine lv_lstore_n (lv' := [(1, .long (0 : Int64)), (0, .ref (ad o))]) hx hb dX0_allShares_1 rfl hl (by decide) rfl (fun ls hl => ?_)
  refine lv_iconst (v := 0) hx hb dX0_allShares_2 (by decide) ?_
  refine lv_istore_n (lv' := [(3, .int (0 : Int32)), (1, .long (0 : Int64)), (0, .ref (ad o))]) hx hb dX0_allShares_3 rfl hl (by decide) rfl (fun ls hl => ?_)
  exact w0_allShares_4 C ho _ _ _ _ _ _ h P (lv_sub hl [2, 1, 0] rfl)
theorem w0_settleTwo_135 (C : zCx p s m args meth c cX0_settleTwo 11 RX0 none D ad cA A) {o : Nat} (ho : zPr o) {z : Zs} (x1 : Int64) (x3 : Int64) (S : Zs) (H : Heap) (locs : List Loc) (ls : Array Slot) (h : f0_settleTwo_135 o x1 x3 S = some z) (P : zP D zC ad cA A S s H locs) (hl : lv_has ls 11 [(0, .ref (ad o)), (1, .long x1), (3, .long x3)]) :
    W p l e (zrm 1 23) s m args below meth c H locs 0 0 (MQ below (zQv D zC ad cA A z) args s 0 0 A) (F0 m 135 ls []) := by
  have hx := C.1
  have hb := C.2.1
  unfold f0_settleTwo_135 at h
  refine lv_aload_n hx hb dX0_settleTwo_135 rfl (lv_at hl 0 rfl) ?_
  refine lv_lload_n hx hb dX0_settleTwo_136 rfl (lv_at hl 2 rfl) ?_
  refine lv_aload_n hx hb dX0_settleTwo_137 rfl (lv_at hl 0 rfl) ?_
  refine gF0_33 C P ho.1 rfl dX0_settleTwo_138 ?_
  refine lv_lmul hx hb dX0_settleTwo_141 ?_
  refine pF0_36 C P ho.1 rfl dX0_settleTwo_142 h (fun S142 H locs h P => ?_)
  refine lv_aload_n hx hb dX0_settleTwo_145 rfl (lv_at hl 0 rfl) ?_
  refine lv_lload_n hx hb dX0_settleTwo_146 rfl (lv_at hl 1 rfl) ?_
  refine lv_lload_n hx hb dX0_settleTwo_147 rfl (lv_at hl 2 rfl) ?_
  refine lv_lsub hx hb dX0_settleTwo_148 ?_
  refine lv_aload_n hx hb dX0_settleTwo_149 rfl (lv_at hl 0 rfl) ?_
  refine gF0_29 C P ho.1 rfl dX0_settleTwo_150 ?_
  refine lv_lmul hx hb dX0_settleTwo_153 ?_
  refine pF0_39 C P ho.1 rfl dX0_settleTwo_154 h (fun S154 H locs h P => ?_)
  exact z_vret C P (Option.some.inj h) dX0_settleTwo_157
theorem w0_settleTwo_10 (C : zCx p s m args meth c cX0_settleTwo 11 RX0 none D ad cA A) {o : Nat} (ho : zPr o) {z : Zs} :
    ∀ (n : Nat) (x1 : Int64) (x3 : Int64) (x5 : Int32) (S : Zs) (H : Heap) (locs : List Loc) (ls : Array Slot), f0_settleTwo_10 o n x1 x3 x5 S = some z → zP D zC ad cA A S s H locs → lv_has ls 11 [(0, .ref (ad o)), (1, .long x1), (3, .long x3), (5, .int x5)] → W p l e (zrm 1 23) s m args below meth c H locs 0 0 (MQ below (zQv D zC ad cA A z) args s 0 0 A) (F0 m 10 ls []) := by
  have hx := C.1
  have hb := C.2.1
  intro n
  induction n with
  | zero =>
    intro x1 x3 x5 S H locs ls h
    cases h
  | succ n ih =>
    intro x1 x3 x5 S H locs ls h P hl
    unfold f0_settleTwo_10 at h
    refine lv_iload hx hb dX0_settleTwo_10 (lv_at hl 3 rfl) ?_
    refine lv_aload_n hx hb dX0_settleTwo_12 rfl (lv_at hl 0 rfl) ?_
    refine gF0_9 C P ho.1 rfl dX0_settleTwo_13 ?_
    refine z_icmp_ge (tgt := 135) hx hb dX0_settleTwo_16 (by decide) h (fun h => ?_) (fun h => ?_)
    · exact w0_settleTwo_135 C ho _ _ _ _ _ _ h P (lv_sub hl [0, 1, 2] rfl)
    · refine lv_aload_n hx hb dX0_settleTwo_19 rfl (lv_at hl 0 rfl) ?_
      refine gF0_26 C P ho.1 rfl dX0_settleTwo_20 ?_
      refine lv_iload hx hb dX0_settleTwo_23 (lv_at hl 3 rfl) ?_
      refine z_iald C P ho.2.2.2.2 dX0_settleTwo_25 h (fun h hi => ?_)
      refine z_topi h (fun v26 h => ?_)
      refine lv_istore (lv' := [(6, .int v26), (0, .ref (ad o)), (1, .long x1), (3, .long x3), (5, .int x5)]) hx hb dX0_settleTwo_26 hl (by decide) rfl (fun ls hl => ?_)
      refine lv_aload_n hx hb dX0_settleTwo_28 rfl (lv_at hl 1 rfl) ?_
      refine gF0_29 C P ho.1 rfl dX0_settleTwo_29 ?_
      refine lv_aload_n hx hb dX0_settleTwo_32 rfl (lv_at hl 1 rfl) ?_
      refine gF0_23 C P ho.1 rfl dX0_settleTwo_33 ?_
      refine lv_iload hx hb dX0_settleTwo_36 (lv_at hl 0 rfl) ?_
      refine z_lald C P ho.2.2.2.1 dX0_settleTwo_38 h (fun h hi => ?_)
      refine lv_lmul hx hb dX0_settleTwo_39 ?_
      refine z_topl h (fun v40 h => ?_)
      refine lv_lstore (lv' := [(7, .long v40), (6, .int v26), (0, .ref (ad o)), (1, .long x1), (3, .long x3), (5, .int x5)]) hx hb dX0_settleTwo_40 hl (by decide) rfl (fun ls hl => ?_)
      refine lv_lload hx hb dX0_settleTwo_42 (lv_at hl 0 rfl) ?_
      refine lv_aload_n hx hb dX0_settleTwo_44 rfl (lv_at hl 2 rfl) ?_
      refine gF0_33 C P ho.1 rfl dX0_settleTwo_45 ?_
      refine lv_aload_n hx hb dX0_settleTwo_48 rfl (lv_at hl 2 rfl) ?_
      refine gF0_19 C P ho.1 rfl dX0_settleTwo_49 ?_
      refine lv_iload hx hb dX0_settleTwo_52 (lv_at hl 1 rfl) ?_
      refine z_lald C P ho.2.2.1 dX0_settleTwo_54 h (fun h hi => ?_)
      refine lv_lmul hx hb dX0_settleTwo_55 ?_
      refine lv_ladd hx hb dX0_settleTwo_56 ?_
      refine z_topl h (fun v57 h => ?_)
      refine lv_lstore (lv' := [(9, .long v57), (7, .long v40), (6, .int v26), (0, .ref (ad o)), (1, .long x1), (3, .long x3), (5, .int x5)]) hx hb dX0_settleTwo_57 hl (by decide) rfl (fun ls hl => ?_)
      refine lv_lload hx hb dX0_settleTwo_59 (lv_at hl 1 rfl) ?_
      refine lv_lload_n hx hb dX0_settleTwo_61 rfl (lv_at hl 4 rfl) ?_
      refine lv_lmul hx hb dX0_settleTwo_62 ?_
      refine lv_lload_n hx hb dX0_settleTwo_63 rfl (lv_at hl 5 rfl) ?_
      refine lv_lload hx hb dX0_settleTwo_64 (lv_at hl 0 rfl) ?_
      refine lv_lmul hx hb dX0_settleTwo_66 ?_
      refine z_lcmp_ge (tgt := 74) hx hb dX0_settleTwo_67 dX0_settleTwo_68 (by decide) h (fun h => ?_) (fun h => ?_)
      · refine lv_lload hx hb dX0_settleTwo_74 (lv_at hl 1 rfl) ?_
        refine lv_lload_n hx hb dX0_settleTwo_76 rfl (lv_at hl 4 rfl) ?_
        refine lv_lmul hx hb dX0_settleTwo_77 ?_
        refine lv_lload_n hx hb dX0_settleTwo_78 rfl (lv_at hl 5 rfl) ?_
        refine lv_aload_n hx hb dX0_settleTwo_79 rfl (lv_at hl 3 rfl) ?_
        refine gF0_15 C P ho.1 rfl dX0_settleTwo_80 ?_
        refine lv_iload hx hb dX0_settleTwo_83 (lv_at hl 2 rfl) ?_
        refine z_iald C P ho.2.1 dX0_settleTwo_85 h (fun h hi => ?_)
        refine lv_i2l hx hb dX0_settleTwo_86 rfl ?_
        refine lv_ladd hx hb dX0_settleTwo_87 ?_
        refine lv_lload hx hb dX0_settleTwo_88 (lv_at hl 0 rfl) ?_
        refine lv_lmul hx hb dX0_settleTwo_90 ?_
        refine z_lcmp_gt (tgt := 118) hx hb dX0_settleTwo_91 dX0_settleTwo_92 (by decide) h (fun h => ?_) (fun h => ?_)
        · refine lv_lload_n hx hb dX0_settleTwo_118 rfl (lv_at hl 5 rfl) ?_
          refine lv_aload_n hx hb dX0_settleTwo_119 rfl (lv_at hl 3 rfl) ?_
          refine gF0_15 C P ho.1 rfl dX0_settleTwo_120 ?_
          refine lv_iload hx hb dX0_settleTwo_123 (lv_at hl 2 rfl) ?_
          refine z_iald C P ho.2.1 dX0_settleTwo_125 h (fun h hi => ?_)
          refine lv_i2l hx hb dX0_settleTwo_126 rfl ?_
          refine lv_ladd hx hb dX0_settleTwo_127 ?_
          refine z_topl h (fun v128 h => ?_)
          refine lv_lstore_n (lv' := [(3, .long v128), (9, .long v57), (7, .long v40), (6, .int v26), (0, .ref (ad o)), (1, .long x1), (5, .int x5)]) hx hb dX0_settleTwo_128 rfl hl (by decide) rfl (fun ls hl => ?_)
          obtain ⟨v129, ev129, h⟩ := z_nm h
          refine lv_iinc (v := v129) (lv' := [(5, .int v129), (3, .long v128), (9, .long v57), (7, .long v40), (6, .int v26), (0, .ref (ad o)), (1, .long x1)]) hx hb dX0_settleTwo_129 hl (k := 6) rfl (by rw [ev129]; rfl) (by decide) rfl (fun ls hl => ?_)
          refine lv_goto (tgt := 10) hx hb dX0_settleTwo_132 (by decide) ?_
          exact ih _ _ _ _ _ _ _ h P (lv_sub hl [5, 6, 1, 0] rfl)
        · refine lv_aload_n hx hb dX0_settleTwo_95 rfl (lv_at hl 3 rfl) ?_
          refine lv_aload_n hx hb dX0_settleTwo_96 rfl (lv_at hl 3 rfl) ?_
          refine gF0_23 C P ho.1 rfl dX0_settleTwo_97 ?_
          refine lv_iload hx hb dX0_settleTwo_100 (lv_at hl 2 rfl) ?_
          refine z_lald C P ho.2.2.2.1 dX0_settleTwo_102 h (fun h hi => ?_)
          refine pF0_36 C P ho.1 rfl dX0_settleTwo_103 h (fun S103 H locs h P => ?_)
          refine lv_aload_n hx hb dX0_settleTwo_106 rfl (lv_at hl 3 rfl) ?_
          refine lv_aload_n hx hb dX0_settleTwo_107 rfl (lv_at hl 3 rfl) ?_
          refine gF0_19 C P ho.1 rfl dX0_settleTwo_108 ?_
          refine lv_iload hx hb dX0_settleTwo_111 (lv_at hl 2 rfl) ?_
          refine z_lald C P ho.2.2.1 dX0_settleTwo_113 h (fun h hi => ?_)
          refine pF0_39 C P ho.1 rfl dX0_settleTwo_114 h (fun S114 H locs h P => ?_)
          exact z_vret C P (Option.some.inj h) dX0_settleTwo_117
      · refine lv_goto (tgt := 135) hx hb dX0_settleTwo_71 (by decide) ?_
        exact w0_settleTwo_135 C ho _ _ _ _ _ _ h P (lv_sub hl [3, 4, 5] rfl)
theorem m0_settleTwo {l : Launch} {D : va_G} {cA : Nat → ClassId} {ad : Nat → Nat} {o : Nat} (ho : zPr o) {S : Zs} {z : Zs} (h : f0_settleTwo o S = some z) :
    zMv l yX0_settleTwo cX0_settleTwo 11 1 23 D zC ad cA S [.ref (ad o)] z := by
  refine z_enter (Qc := fun A => zQv D zC ad cA A z) (by decide +kernel) (Nat.le_of_ble_eq_true rfl) (fun p e s m below meth c A C P ls hl => ?_)
  have hx := C.1
  have hb := C.2.1
  have hl : lv_has ls 11 [(0, .ref (ad o))] := hl
  unfold f0_settleTwo at h
  refine lv_aload_n hx hb dX0_settleTwo_0 rfl (lv_at hl 0 rfl) ?_
  obtain ⟨r1, g1, h⟩ := bd1_some h
  refine z_callVl C P (As := []) (m0_allShares ho g1) cW0_59 rfl ho.1 rfl (by decide) hl.1 rfl (Nat.le_of_ble_eq_true rfl) dX0_settleTwo_1 ⟨Nat.zero_le _, Nat.zero_le _⟩ (fun H locs P => ?_)
  refine lv_lstore_n (lv' := [(1, .long r1), (0, .ref (ad o))]) hx hb dX0_settleTwo_4 rfl hl (by decide) rfl (fun ls hl => ?_)
  refine lv_lconst (v := 0) hx hb dX0_settleTwo_5 (by decide) ?_
  refine lv_lstore_n (lv' := [(3, .long (0 : Int64)), (1, .long r1), (0, .ref (ad o))]) hx hb dX0_settleTwo_6 rfl hl (by decide) rfl (fun ls hl => ?_)
  refine lv_iconst (v := 0) hx hb dX0_settleTwo_7 (by decide) ?_
  refine lv_istore (lv' := [(5, .int (0 : Int32)), (3, .long (0 : Int64)), (1, .long r1), (0, .ref (ad o))]) hx hb dX0_settleTwo_8 hl (by decide) rfl (fun ls hl => ?_)
  exact w0_settleTwo_10 C ho _ _ _ _ _ _ _ _ h P (lv_sub hl [3, 2, 1, 0] rfl)
theorem w1_clearWins_9 (C : zCx p s m args meth c cX1_clearWins 3 RX1 none D ad cA A) {z : Zs} {k2 : Int32 → Zs → Option Zs} (hk2 : ∀ (x1 : Int32) (S : Zs) (H : Heap) (locs : List Loc) (ls : Array Slot), k2 x1 S = some z → zP D zC ad cA A S s H locs → lv_has ls 3 [(0, .ref (ad 17)), (1, .int x1)] → W p l e (zrm 0 0) s m args below meth c H locs 0 0 (MQ below (zQv D zC ad cA A z) args s 0 0 A) (F0 m 2 ls [])) :
    ∀ (n : Nat) (x1 : Int32) (x2 : Int32) (S : Zs) (H : Heap) (locs : List Loc) (ls : Array Slot), f1_clearWins_9 k2 n x1 x2 S = some z → zP D zC ad cA A S s H locs → lv_has ls 3 [(0, .ref (ad 17)), (1, .int x1), (2, .int x2)] → W p l e (zrm 0 0) s m args below meth c H locs 0 0 (MQ below (zQv D zC ad cA A z) args s 0 0 A) (F0 m 9 ls []) := by
  have hx := C.1
  have hb := C.2.1
  intro n
  induction n with
  | zero =>
    intro x1 x2 S H locs ls h
    cases h
  | succ n ih =>
    intro x1 x2 S H locs ls h P hl
    unfold f1_clearWins_9 at h
    refine lv_iload_n hx hb dX1_clearWins_9 rfl (lv_at hl 2 rfl) ?_
    refine lv_bipush (v := 6) hx hb dX1_clearWins_10 (by decide) ?_
    refine z_icmp_ge (tgt := 30) hx hb dX1_clearWins_12 (by decide) h (fun h => ?_) (fun h => ?_)
    · obtain ⟨v30, ev30, h⟩ := z_nm h
      refine lv_iinc (v := v30) (lv' := [(1, .int v30), (0, .ref (ad 17)), (2, .int x2)]) hx hb dX1_clearWins_30 hl (k := 1) rfl (by rw [ev30]; rfl) (by decide) rfl (fun ls hl => ?_)
      refine lv_goto (tgt := 2) hx hb dX1_clearWins_33 (by decide) ?_
      exact hk2 _ _ _ _ _ h P (lv_sub hl [1, 0] rfl)
    · refine lv_aload_n hx hb dX1_clearWins_15 rfl (lv_at hl 0 rfl) ?_
      refine gF1_23 C P zs17 rfl dX1_clearWins_16 ?_
      refine lv_iload_n hx hb dX1_clearWins_19 rfl (lv_at hl 1 rfl) ?_
      refine z_aald C P zs28 zs28r zs28g dX1_clearWins_20 h (fun h hg20 => ?_)
      refine lv_iload_n hx hb dX1_clearWins_21 rfl (lv_at hl 2 rfl) ?_
      refine lv_iconst (v := 0) hx hb dX1_clearWins_22 (by decide) ?_
      refine z_iast C P hg20 dX1_clearWins_23 h (fun S23 H locs h P => ?_)
      obtain ⟨v24, ev24, h⟩ := z_nm h
      refine lv_iinc (v := v24) (lv' := [(2, .int v24), (0, .ref (ad 17)), (1, .int x1)]) hx hb dX1_clearWins_24 hl (k := 2) rfl (by rw [ev24]; rfl) (by decide) rfl (fun ls hl => ?_)
      refine lv_goto (tgt := 9) hx hb dX1_clearWins_27 (by decide) ?_
      exact ih _ _ _ _ _ _ h P (lv_sub hl [1, 2, 0] rfl)
theorem w1_clearWins_2 (C : zCx p s m args meth c cX1_clearWins 3 RX1 none D ad cA A) {z : Zs} :
    ∀ (n : Nat) (x1 : Int32) (S : Zs) (H : Heap) (locs : List Loc) (ls : Array Slot), f1_clearWins_2 n x1 S = some z → zP D zC ad cA A S s H locs → lv_has ls 3 [(0, .ref (ad 17)), (1, .int x1)] → W p l e (zrm 0 0) s m args below meth c H locs 0 0 (MQ below (zQv D zC ad cA A z) args s 0 0 A) (F0 m 2 ls []) := by
  have hx := C.1
  have hb := C.2.1
  intro n
  induction n with
  | zero =>
    intro x1 S H locs ls h
    cases h
  | succ n ih =>
    intro x1 S H locs ls h P hl
    unfold f1_clearWins_2 at h
    refine lv_iload_n hx hb dX1_clearWins_2 rfl (lv_at hl 1 rfl) ?_
    refine lv_iconst (v := 3) hx hb dX1_clearWins_3 (by decide) ?_
    refine z_icmp_ge (tgt := 36) hx hb dX1_clearWins_4 (by decide) h (fun h => ?_) (fun h => ?_)
    · exact z_vret C P (Option.some.inj h) dX1_clearWins_36
    · refine lv_iconst (v := 0) hx hb dX1_clearWins_7 (by decide) ?_
      refine lv_istore_n (lv' := [(2, .int (0 : Int32)), (0, .ref (ad 17)), (1, .int x1)]) hx hb dX1_clearWins_8 rfl hl (by decide) rfl (fun ls hl => ?_)
      exact w1_clearWins_9 C ih _ _ _ _ _ _ _ h P (lv_sub hl [1, 2, 0] rfl)
theorem m1_clearWins {l : Launch} {D : va_G} {cA : Nat → ClassId} {ad : Nat → Nat} {S : Zs} {z : Zs} (h : f1_clearWins S = some z) :
    zMv l yX1_clearWins cX1_clearWins 3 0 0 D zC ad cA S [.ref (ad 17)] z := by
  refine z_enter (Qc := fun A => zQv D zC ad cA A z) (by decide +kernel) (Nat.le_of_ble_eq_true rfl) (fun p e s m below meth c A C P ls hl => ?_)
  have hx := C.1
  have hb := C.2.1
  have hl : lv_has ls 3 [(0, .ref (ad 17))] := hl
  unfold f1_clearWins at h
  refine lv_iconst (v := 0) hx hb dX1_clearWins_0 (by decide) ?_
  refine lv_istore_n (lv' := [(1, .int (0 : Int32)), (0, .ref (ad 17))]) hx hb dX1_clearWins_1 rfl hl (by decide) rfl (fun ls hl => ?_)
  exact w1_clearWins_2 C _ _ _ _ _ _ h P (lv_sub hl [1, 0] rfl)
theorem w0_layTied_48 (C : zCx p s m args meth c cX0_layTied 10 RX0 none D ad cA A) {o : Nat} (ho : zPr o) {q1 : Nat} (hq1 : zW q1) {z : Zs} :
    ∀ (n : Nat) (x2 : Int32) (x3 : Int64) (x5 : Int32) (x6 : Int64) (x8 : Int32) (x9 : Int32) (S : Zs) (H : Heap) (locs : List Loc) (ls : Array Slot), f0_layTied_48 o q1 n x2 x3 x5 x6 x8 x9 S = some z → zP D zC ad cA A S s H locs → lv_has ls 10 [(0, .ref (ad o)), (1, .ref (ad q1)), (2, .int x2), (3, .long x3), (5, .int x5), (6, .long x6), (8, .int x8), (9, .int x9)] → W p l e (zrm 1 23) s m args below meth c H locs 0 0 (MQ below (zQv D zC ad cA A z) args s 0 0 A) (F0 m 48 ls []) := by
  have hx := C.1
  have hb := C.2.1
  intro n
  induction n with
  | zero =>
    intro x2 x3 x5 x6 x8 x9 S H locs ls h
    cases h
  | succ n ih =>
    intro x2 x3 x5 x6 x8 x9 S H locs ls h P hl
    unfold f0_layTied_48 at h
    refine lv_iload hx hb dX0_layTied_48 (lv_at hl 7 rfl) ?_
    refine lv_aload_n hx hb dX0_layTied_50 rfl (lv_at hl 0 rfl) ?_
    refine gF0_9 C P ho.1 rfl dX0_layTied_51 ?_
    refine z_icmp_ge (tgt := 131) hx hb dX0_layTied_54 (by decide) h (fun h => ?_) (fun h => ?_)
    · exact z_vret C P (Option.some.inj h) dX0_layTied_131
    · refine lv_aload_n hx hb dX0_layTied_57 rfl (lv_at hl 0 rfl) ?_
      refine gF0_15 C P ho.1 rfl dX0_layTied_58 ?_
      refine lv_iload hx hb dX0_layTied_61 (lv_at hl 7 rfl) ?_
      refine lv_aload_n hx hb dX0_layTied_63 rfl (lv_at hl 1 rfl) ?_
      refine gF0_48 C P hq1.1 rfl dX0_layTied_64 ?_
      refine lv_iload hx hb dX0_layTied_67 (lv_at hl 7 rfl) ?_
      refine z_iald C P hq1.2.1 dX0_layTied_69 h (fun h hi => ?_)
      refine z_iast C P ho.2.1 dX0_layTied_70 h (fun S70 H locs h P => ?_)
      refine lv_aload_n hx hb dX0_layTied_71 rfl (lv_at hl 0 rfl) ?_
      refine gF0_19 C P ho.1 rfl dX0_layTied_72 ?_
      refine lv_iload hx hb dX0_layTied_75 (lv_at hl 7 rfl) ?_
      refine lv_aload_n hx hb dX0_layTied_77 rfl (lv_at hl 1 rfl) ?_
      refine gF0_49 C P hq1.1 rfl dX0_layTied_78 ?_
      refine lv_iload_n hx hb dX0_layTied_81 rfl (lv_at hl 2 rfl) ?_
      refine z_aald C P hq1.2.2.2.1 (zrs3 q1) hq1.2.2.2.2.1 dX0_layTied_82 h (fun h hg82 => ?_)
      refine lv_iload hx hb dX0_layTied_83 (lv_at hl 7 rfl) ?_
      refine z_iald C P hg82 dX0_layTied_85 h (fun h hi => ?_)
      refine lv_i2l hx hb dX0_layTied_86 rfl ?_
      refine lv_lload_n hx hb dX0_layTied_87 rfl (lv_at hl 3 rfl) ?_
      refine lv_lmul hx hb dX0_layTied_88 ?_
      refine lv_aload_n hx hb dX0_layTied_89 rfl (lv_at hl 1 rfl) ?_
      refine gF0_49 C P hq1.1 rfl dX0_layTied_90 ?_
      refine lv_iload hx hb dX0_layTied_93 (lv_at hl 4 rfl) ?_
      refine z_aald C P hq1.2.2.2.1 (zrs3 q1) hq1.2.2.2.2.1 dX0_layTied_95 h (fun h hg95 => ?_)
      refine lv_iload hx hb dX0_layTied_96 (lv_at hl 7 rfl) ?_
      refine z_iald C P hg95 dX0_layTied_98 h (fun h hi => ?_)
      refine lv_i2l hx hb dX0_layTied_99 rfl ?_
      refine lv_lload hx hb dX0_layTied_100 (lv_at hl 5 rfl) ?_
      refine lv_lmul hx hb dX0_layTied_102 ?_
      refine z_minL C zmin0_53 (by decide) hl.1 (Nat.le_of_ble_eq_true rfl) dX0_layTied_103 ⟨Nat.zero_le _, Nat.zero_le _⟩ ?_
      refine z_last C P ho.2.2.1 dX0_layTied_106 h (fun S106 H locs h P => ?_)
      refine lv_aload_n hx hb dX0_layTied_107 rfl (lv_at hl 0 rfl) ?_
      refine gF0_23 C P ho.1 rfl dX0_layTied_108 ?_
      refine lv_iload hx hb dX0_layTied_111 (lv_at hl 7 rfl) ?_
      refine lv_aload_n hx hb dX0_layTied_113 rfl (lv_at hl 1 rfl) ?_
      refine gF0_49 C P hq1.1 rfl dX0_layTied_114 ?_
      refine lv_iload hx hb dX0_layTied_117 (lv_at hl 6 rfl) ?_
      refine z_aald C P hq1.2.2.2.1 (zrs3 q1) hq1.2.2.2.2.1 dX0_layTied_119 h (fun h hg119 => ?_)
      refine lv_iload hx hb dX0_layTied_120 (lv_at hl 7 rfl) ?_
      refine z_iald C P hg119 dX0_layTied_122 h (fun h hi => ?_)
      refine lv_i2l hx hb dX0_layTied_123 rfl ?_
      refine z_last C P ho.2.2.2.1 dX0_layTied_124 h (fun S124 H locs h P => ?_)
      obtain ⟨v125, ev125, h⟩ := z_nm h
      refine lv_iinc (v := v125) (lv' := [(9, .int v125), (0, .ref (ad o)), (1, .ref (ad q1)), (2, .int x2), (3, .long x3), (5, .int x5), (6, .long x6), (8, .int x8)]) hx hb dX0_layTied_125 hl (k := 7) rfl (by rw [ev125]; rfl) (by decide) rfl (fun ls hl => ?_)
      refine lv_goto (tgt := 48) hx hb dX0_layTied_128 (by decide) ?_
      exact ih _ _ _ _ _ _ _ _ _ _ h P (lv_sub hl [1, 2, 3, 4, 5, 6, 7, 0] rfl)
theorem m0_layTied {l : Launch} {D : va_G} {cA : Nat → ClassId} {ad : Nat → Nat} {o : Nat} (ho : zPr o) {q1 : Nat} (hq1 : zW q1) {x2 : Int32} {x3 : Int64} {x5 : Int32} {x6 : Int64} {x8 : Int32} {S : Zs} {z : Zs} (h : f0_layTied o q1 x2 x3 x5 x6 x8 S = some z) :
    zMv l yX0_layTied cX0_layTied 10 1 23 D zC ad cA S [.ref (ad o), .ref (ad q1), .int x2, .long x3, .int x5, .long x6, .int x8] z := by
  refine z_enter (Qc := fun A => zQv D zC ad cA A z) (by decide +kernel) (Nat.le_of_ble_eq_true rfl) (fun p e s m below meth c A C P ls hl => ?_)
  have hx := C.1
  have hb := C.2.1
  have hl : lv_has ls 10 [(0, .ref (ad o)), (1, .ref (ad q1)), (2, .int x2), (3, .long x3), (5, .int x5), (6, .long x6), (8, .int x8)] := hl
  unfold f0_layTied at h
  refine lv_aload_n hx hb dX0_layTied_0 rfl (lv_at hl 0 rfl) ?_
  refine lv_aload_n hx hb dX0_layTied_1 rfl (lv_at hl 1 rfl) ?_
  refine gF0_42 C P hq1.1 rfl dX0_layTied_2 ?_
  refine pF0_9 C P ho.1 rfl dX0_layTied_5 h (fun S5 H locs h P => ?_)
  refine lv_aload_n hx hb dX0_layTied_8 rfl (lv_at hl 0 rfl) ?_
  refine lv_aload_n hx hb dX0_layTied_9 rfl (lv_at hl 1 rfl) ?_
  refine gF0_45 C P hq1.1 rfl dX0_layTied_10 ?_
  refine lv_iload_n hx hb dX0_layTied_13 rfl (lv_at hl 2 rfl) ?_
  refine z_iald C P hq1.2.2.1 dX0_layTied_14 h (fun h hi => ?_)
  refine lv_i2l hx hb dX0_layTied_15 rfl ?_
  refine lv_lload_n hx hb dX0_layTied_16 rfl (lv_at hl 3 rfl) ?_
  refine lv_lmul hx hb dX0_layTied_17 ?_
  refine lv_aload_n hx hb dX0_layTied_18 rfl (lv_at hl 1 rfl) ?_
  refine gF0_45 C P hq1.1 rfl dX0_layTied_19 ?_
  refine lv_iload hx hb dX0_layTied_22 (lv_at hl 4 rfl) ?_
  refine z_iald C P hq1.2.2.1 dX0_layTied_24 h (fun h hi => ?_)
  refine lv_i2l hx hb dX0_layTied_25 rfl ?_
  refine lv_lload hx hb dX0_layTied_26 (lv_at hl 5 rfl) ?_
  refine lv_lmul hx hb dX0_layTied_28 ?_
  refine lv_ladd hx hb dX0_layTied_29 ?_
  refine pF0_29 C P ho.1 rfl dX0_layTied_30 h (fun S30 H locs h P => ?_)
  refine lv_aload_n hx hb dX0_layTied_33 rfl (lv_at hl 0 rfl) ?_
  refine lv_aload_n hx hb dX0_layTied_34 rfl (lv_at hl 1 rfl) ?_
  refine gF0_45 C P hq1.1 rfl dX0_layTied_35 ?_
  refine lv_iload hx hb dX0_layTied_38 (lv_at hl 6 rfl) ?_
  refine z_iald C P hq1.2.2.1 dX0_layTied_40 h (fun h hi => ?_)
  refine lv_i2l hx hb dX0_layTied_41 rfl ?_
  refine pF0_33 C P ho.1 rfl dX0_layTied_42 h (fun S42 H locs h P => ?_)
  refine lv_iconst (v := 0) hx hb dX0_layTied_45 (by decide) ?_
  refine lv_istore (lv' := [(9, .int (0 : Int32)), (0, .ref (ad o)), (1, .ref (ad q1)), (2, .int x2), (3, .long x3), (5, .int x5), (6, .long x6), (8, .int x8)]) hx hb dX0_layTied_46 hl (by decide) rfl (fun ls hl => ?_)
  exact w0_layTied_48 C ho hq1 _ _ _ _ _ _ _ _ _ _ _ h P (lv_sub hl [1, 2, 3, 4, 5, 6, 7, 0] rfl)
theorem m1_tie {l : Launch} {D : va_G} {cA : Nat → ClassId} {ad : Nat → Nat} {q1 : Nat} (hq1 : zW q1) {x2 : Int32} {x3 : Int32} {x4 : Int32} {S : Zs} {z : Zs} (h : f1_tie q1 x2 x3 x4 S = some z) :
    zMv l yX1_tie cX1_tie 10 2 53 D zC ad cA S [.ref (ad 17), .ref (ad q1), .int x2, .int x3, .int x4] z := by
  refine z_enter (Qc := fun A => zQv D zC ad cA A z) (by decide +kernel) (Nat.le_of_ble_eq_true rfl) (fun p e s m below meth c A C P ls hl => ?_)
  have hx := C.1
  have hb := C.2.1
  have hl : lv_has ls 10 [(0, .ref (ad 17)), (1, .ref (ad q1)), (2, .int x2), (3, .int x3), (4, .int x4)] := hl
  unfold f1_tie at h
  refine lv_iconst (v := 3) hx hb dX1_tie_0 (by decide) ?_
  refine lv_iload_n hx hb dX1_tie_1 rfl (lv_at hl 2 rfl) ?_
  refine lv_isub hx hb dX1_tie_2 ?_
  refine lv_iload_n hx hb dX1_tie_3 rfl (lv_at hl 3 rfl) ?_
  refine lv_isub hx hb dX1_tie_4 ?_
  refine z_topi h (fun v5 h => ?_)
  refine lv_istore (lv' := [(5, .int v5), (0, .ref (ad 17)), (1, .ref (ad q1)), (2, .int x2), (3, .int x3), (4, .int x4)]) hx hb dX1_tie_5 hl (by decide) rfl (fun ls hl => ?_)
  refine lv_aload_n hx hb dX1_tie_7 rfl (lv_at hl 2 rfl) ?_
  refine gF1_82 C P hq1.1 rfl dX1_tie_8 ?_
  refine lv_iload_n hx hb dX1_tie_11 rfl (lv_at hl 4 rfl) ?_
  refine z_aald C P hq1.2.2.2.1 (zrs3 q1) hq1.2.2.2.2.1 dX1_tie_12 h (fun h hg12 => ?_)
  refine lv_iload hx hb dX1_tie_13 (lv_at hl 5 rfl) ?_
  refine z_iald C P hg12 dX1_tie_15 h (fun h hi => ?_)
  refine lv_i2l hx hb dX1_tie_16 rfl ?_
  refine z_topl h (fun v17 h => ?_)
  refine lv_lstore (lv' := [(6, .long v17), (5, .int v5), (0, .ref (ad 17)), (1, .ref (ad q1)), (2, .int x2), (3, .int x3), (4, .int x4)]) hx hb dX1_tie_17 hl (by decide) rfl (fun ls hl => ?_)
  refine lv_aload_n hx hb dX1_tie_19 rfl (lv_at hl 3 rfl) ?_
  refine gF1_82 C P hq1.1 rfl dX1_tie_20 ?_
  refine lv_iload_n hx hb dX1_tie_23 rfl (lv_at hl 4 rfl) ?_
  refine z_aald C P hq1.2.2.2.1 (zrs3 q1) hq1.2.2.2.2.1 dX1_tie_24 h (fun h hg24 => ?_)
  refine lv_iload hx hb dX1_tie_25 (lv_at hl 6 rfl) ?_
  refine z_iald C P hg24 dX1_tie_27 h (fun h hi => ?_)
  refine lv_i2l hx hb dX1_tie_28 rfl ?_
  refine z_topl h (fun v29 h => ?_)
  refine lv_lstore (lv' := [(8, .long v29), (6, .long v17), (5, .int v5), (0, .ref (ad 17)), (1, .ref (ad q1)), (2, .int x2), (3, .int x3), (4, .int x4)]) hx hb dX1_tie_29 hl (by decide) rfl (fun ls hl => ?_)
  refine lv_aload_n hx hb dX1_tie_31 rfl (lv_at hl 3 rfl) ?_
  refine gF1_18 C P zs17 rfl dX1_tie_32 ?_
  refine lv_aload_n hx hb dX1_tie_35 rfl (lv_at hl 4 rfl) ?_
  refine lv_iload_n hx hb dX1_tie_36 rfl (lv_at hl 5 rfl) ?_
  refine lv_lload hx hb dX1_tie_37 (lv_at hl 1 rfl) ?_
  refine lv_iload_n hx hb dX1_tie_39 rfl (lv_at hl 6 rfl) ?_
  refine lv_lload hx hb dX1_tie_40 (lv_at hl 0 rfl) ?_
  refine lv_iload hx hb dX1_tie_42 (lv_at hl 2 rfl) ?_
  obtain ⟨S44, g44, h⟩ := bd1_some h
  refine z_callVv C P (As := [.ref (ad q1), .int x2, .long v17, .int x3, .long v29, .int v5]) (m0_layTied zPr_23 hq1 g44) cW1_85 rfl zPr_23.1 rfl (by decide) hl.1 rfl (Nat.le_of_ble_eq_true rfl) dX1_tie_44 ⟨Nat.zero_le _, Nat.zero_le _⟩ (fun H locs P => ?_)
  refine lv_aload_n hx hb dX1_tie_47 rfl (lv_at hl 3 rfl) ?_
  refine gF1_18 C P zs17 rfl dX1_tie_48 ?_
  obtain ⟨S51, g51, h⟩ := bd1_some h
  refine z_callVv C P (As := []) (m0_sort zPr_23 g51) cW1_40 rfl zPr_23.1 rfl (by decide) hl.1 rfl (Nat.le_of_ble_eq_true rfl) dX1_tie_51 ⟨Nat.zero_le _, Nat.zero_le _⟩ (fun H locs P => ?_)
  refine lv_aload_n hx hb dX1_tie_54 rfl (lv_at hl 3 rfl) ?_
  refine gF1_18 C P zs17 rfl dX1_tie_55 ?_
  obtain ⟨S58, g58, h⟩ := bd1_some h
  refine z_callVv C P (As := []) (m0_settleTwo zPr_23 g58) cW1_43 rfl zPr_23.1 rfl (by decide) hl.1 rfl (Nat.le_of_ble_eq_true rfl) dX1_tie_58 ⟨Nat.zero_le _, Nat.zero_le _⟩ (fun H locs P => ?_)
  refine lv_aload_n hx hb dX1_tie_61 rfl (lv_at hl 4 rfl) ?_
  refine gF1_32 C P hq1.1 rfl dX1_tie_62 ?_
  refine lv_iload_n hx hb dX1_tie_65 rfl (lv_at hl 5 rfl) ?_
  refine lv_lload hx hb dX1_tie_66 (lv_at hl 1 rfl) ?_
  refine lv_aload_n hx hb dX1_tie_68 rfl (lv_at hl 3 rfl) ?_
  refine gF1_18 C P zs17 rfl dX1_tie_69 ?_
  refine gF1_46 C P zPr_23.1 rfl dX1_tie_72 ?_
  refine lv_lmul hx hb dX1_tie_75 ?_
  refine z_last C P hq1.2.2.2.2.2.1 dX1_tie_76 h (fun S76 H locs h P => ?_)
  refine lv_aload_n hx hb dX1_tie_77 rfl (lv_at hl 4 rfl) ?_
  refine gF1_32 C P hq1.1 rfl dX1_tie_78 ?_
  refine lv_iload_n hx hb dX1_tie_81 rfl (lv_at hl 6 rfl) ?_
  refine lv_lload hx hb dX1_tie_82 (lv_at hl 0 rfl) ?_
  refine lv_aload_n hx hb dX1_tie_84 rfl (lv_at hl 3 rfl) ?_
  refine gF1_18 C P zs17 rfl dX1_tie_85 ?_
  refine gF1_46 C P zPr_23.1 rfl dX1_tie_88 ?_
  refine lv_lmul hx hb dX1_tie_91 ?_
  refine z_last C P hq1.2.2.2.2.2.1 dX1_tie_92 h (fun S92 H locs h P => ?_)
  refine lv_aload_n hx hb dX1_tie_93 rfl (lv_at hl 4 rfl) ?_
  refine gF1_32 C P hq1.1 rfl dX1_tie_94 ?_
  refine lv_iload hx hb dX1_tie_97 (lv_at hl 2 rfl) ?_
  refine lv_aload_n hx hb dX1_tie_99 rfl (lv_at hl 3 rfl) ?_
  refine gF1_18 C P zs17 rfl dX1_tie_100 ?_
  refine gF1_50 C P zPr_23.1 rfl dX1_tie_103 ?_
  refine z_last C P hq1.2.2.2.2.2.1 dX1_tie_106 h (fun S106 H locs h P => ?_)
  exact z_vret C P (Option.some.inj h) dX1_tie_107
theorem m5_cost {l : Launch} {D : va_G} {cA : Nat → ClassId} {ad : Nat → Nat} {o : Nat} (ho : zW o) {q1 : Nat} (hq1 : zC[q1]? = some (.inr (1, 3, []))) {x2 : Int32} {x3 : Int32} {S : Zs} {z : Int64} (h : f5_cost o q1 S x2 x3 = some z) :
    zMl l yX5_cost cX5_cost 4 0 0 D zC ad cA S [.ref (ad o), .ref (ad q1), .int x2, .int x3] (z, S) := by
  refine z_enter (Qc := fun A => zQl D zC ad cA A (z, S)) (by decide +kernel) (Nat.le_of_ble_eq_true rfl) (fun p e s m below meth c A C P ls hl => ?_)
  have hx := C.1
  have hb := C.2.1
  have hl : lv_has ls 4 [(0, .ref (ad o)), (1, .ref (ad q1)), (2, .int x2), (3, .int x3)] := hl
  unfold f5_cost at h
  refine lv_aload_n hx hb dX5_cost_0 rfl (lv_at hl 1 rfl) ?_
  refine lv_iload_n hx hb dX5_cost_1 rfl (lv_at hl 2 rfl) ?_
  refine z_lald C P hq1 dX5_cost_2 h (fun h hi => ?_)
  refine lv_aload_n hx hb dX5_cost_3 rfl (lv_at hl 0 rfl) ?_
  refine gF5_27 C P ho.1 rfl dX5_cost_4 ?_
  refine lv_iload_n hx hb dX5_cost_7 rfl (lv_at hl 2 rfl) ?_
  refine z_aald C P ho.2.2.2.1 (zrs3 o) ho.2.2.2.2.1 dX5_cost_8 h (fun h hg8 => ?_)
  refine lv_iload_n hx hb dX5_cost_9 rfl (lv_at hl 3 rfl) ?_
  refine z_iald C P hg8 dX5_cost_10 h (fun h hi => ?_)
  refine lv_i2l hx hb dX5_cost_11 rfl ?_
  refine lv_lmul hx hb dX5_cost_12 ?_
  exact z_lret C P (by rw [Option.some.inj h]) dX5_cost_13
theorem w5_makersBy_62 (C : zCx p s m args meth c cX5_makersBy 9 RX5 (some .int) D ad cA A) {o : Nat} (ho : zW o) {q1 : Nat} (hq1 : zC[q1]? = some (.inr (1, 3, []))) {z : Int32} {S : Zs} {k14 : Int32 → Int64 → Int32 → Int32 → Option Int32} (hk14 : ∀ (x2 : Int32) (x3 : Int64) (x5 : Int32) (x6 : Int32) (H : Heap) (locs : List Loc) (ls : Array Slot), k14 x2 x3 x5 x6 = some z → zP D zC ad cA A S s H locs → lv_has ls 9 [(0, .ref (ad o)), (1, .ref (ad q1)), (2, .int x2), (3, .long x3), (5, .int x5), (6, .int x6)] → W p l e (zrm 1 23) s m args below meth c H locs 0 0 (MQ below (zQi D zC ad cA A (z, S)) args s 0 0 A) (F0 m 14 ls [])) (x2 : Int32) (x3 : Int64) (x5 : Int32) (x6 : Int32) (H : Heap) (locs : List Loc) (ls : Array Slot) (h : f5_makersBy_62 o q1 S k14 x2 x3 x5 x6 = some z) (P : zP D zC ad cA A S s H locs) (hl : lv_has ls 9 [(0, .ref (ad o)), (1, .ref (ad q1)), (2, .int x2), (3, .long x3), (5, .int x5), (6, .int x6)]) :
    W p l e (zrm 1 23) s m args below meth c H locs 0 0 (MQ below (zQi D zC ad cA A (z, S)) args s 0 0 A) (F0 m 62 ls []) := by
  have hx := C.1
  have hb := C.2.1
  unfold f5_makersBy_62 at h
  obtain ⟨v62, ev62, h⟩ := z_nm h
  refine lv_iinc (v := v62) (lv' := [(6, .int v62), (0, .ref (ad o)), (1, .ref (ad q1)), (2, .int x2), (3, .long x3), (5, .int x5)]) hx hb dX5_makersBy_62 hl (k := 5) rfl (by rw [ev62]; rfl) (by decide) rfl (fun ls hl => ?_)
  refine lv_goto (tgt := 14) hx hb dX5_makersBy_65 (by decide) ?_
  exact hk14 _ _ _ _ _ _ _ h P (lv_sub hl [1, 2, 3, 4, 5, 0] rfl)
theorem w5_makersBy_46 (C : zCx p s m args meth c cX5_makersBy 9 RX5 (some .int) D ad cA A) {o : Nat} (ho : zW o) {q1 : Nat} (hq1 : zC[q1]? = some (.inr (1, 3, []))) {z : Int32} {S : Zs} {k14 : Int32 → Int64 → Int32 → Int32 → Option Int32} (hk14 : ∀ (x2 : Int32) (x3 : Int64) (x5 : Int32) (x6 : Int32) (H : Heap) (locs : List Loc) (ls : Array Slot), k14 x2 x3 x5 x6 = some z → zP D zC ad cA A S s H locs → lv_has ls 9 [(0, .ref (ad o)), (1, .ref (ad q1)), (2, .int x2), (3, .long x3), (5, .int x5), (6, .int x6)] → W p l e (zrm 1 23) s m args below meth c H locs 0 0 (MQ below (zQi D zC ad cA A (z, S)) args s 0 0 A) (F0 m 14 ls [])) (x2 : Int32) (x3 : Int64) (x5 : Int32) (x6 : Int32) (x7 : Int64) (H : Heap) (locs : List Loc) (ls : Array Slot) (h : f5_makersBy_46 o q1 S k14 x2 x3 x5 x6 x7 = some z) (P : zP D zC ad cA A S s H locs) (hl : lv_has ls 9 [(0, .ref (ad o)), (1, .ref (ad q1)), (2, .int x2), (3, .long x3), (5, .int x5), (6, .int x6), (7, .long x7)]) :
    W p l e (zrm 1 23) s m args below meth c H locs 0 0 (MQ below (zQi D zC ad cA A (z, S)) args s 0 0 A) (F0 m 46 ls []) := by
  have hx := C.1
  have hb := C.2.1
  unfold f5_makersBy_46 at h
  refine lv_lload hx hb dX5_makersBy_46 (lv_at hl 6 rfl) ?_
  refine lv_lload_n hx hb dX5_makersBy_48 rfl (lv_at hl 3 rfl) ?_
  refine z_lcmp_ne (tgt := 62) hx hb dX5_makersBy_49 dX5_makersBy_50 (by decide) h (fun h => ?_) (fun h => ?_)
  · exact w5_makersBy_62 C ho hq1 hk14 _ _ _ _ _ _ _ h P (lv_sub hl [0, 1, 2, 3, 4, 5] rfl)
  · refine lv_iload hx hb dX5_makersBy_53 (lv_at hl 4 rfl) ?_
    refine lv_iconst (v := 1) hx hb dX5_makersBy_55 (by decide) ?_
    refine lv_iload hx hb dX5_makersBy_56 (lv_at hl 5 rfl) ?_
    refine lv_ishl hx hb dX5_makersBy_58 ?_
    refine lv_ior hx hb dX5_makersBy_59 ?_
    refine z_topi h (fun v60 h => ?_)
    refine lv_istore (lv' := [(5, .int v60), (0, .ref (ad o)), (1, .ref (ad q1)), (2, .int x2), (3, .long x3), (6, .int x6), (7, .long x7)]) hx hb dX5_makersBy_60 hl (by decide) rfl (fun ls hl => ?_)
    exact w5_makersBy_62 C ho hq1 hk14 _ _ _ _ _ _ _ h P (lv_sub hl [1, 2, 3, 4, 0, 5] rfl)
theorem w5_makersBy_14 (C : zCx p s m args meth c cX5_makersBy 9 RX5 (some .int) D ad cA A) {o : Nat} (ho : zW o) {q1 : Nat} (hq1 : zC[q1]? = some (.inr (1, 3, []))) {z : Int32} {S : Zs} :
    ∀ (n : Nat) (x2 : Int32) (x3 : Int64) (x5 : Int32) (x6 : Int32) (H : Heap) (locs : List Loc) (ls : Array Slot), f5_makersBy_14 o q1 S n x2 x3 x5 x6 = some z → zP D zC ad cA A S s H locs → lv_has ls 9 [(0, .ref (ad o)), (1, .ref (ad q1)), (2, .int x2), (3, .long x3), (5, .int x5), (6, .int x6)] → W p l e (zrm 1 23) s m args below meth c H locs 0 0 (MQ below (zQi D zC ad cA A (z, S)) args s 0 0 A) (F0 m 14 ls []) := by
  have hx := C.1
  have hb := C.2.1
  intro n
  induction n with
  | zero =>
    intro x2 x3 x5 x6 H locs ls h
    cases h
  | succ n ih =>
    intro x2 x3 x5 x6 H locs ls h P hl
    unfold f5_makersBy_14 at h
    refine lv_iload hx hb dX5_makersBy_14 (lv_at hl 5 rfl) ?_
    refine lv_aload_n hx hb dX5_makersBy_16 rfl (lv_at hl 0 rfl) ?_
    refine gF5_9 C P ho.1 rfl dX5_makersBy_17 ?_
    refine z_icmp_ge (tgt := 68) hx hb dX5_makersBy_20 (by decide) h (fun h => ?_) (fun h => ?_)
    · refine lv_iload hx hb dX5_makersBy_68 (lv_at hl 4 rfl) ?_
      exact z_iret C P (by rw [Option.some.inj h]) dX5_makersBy_70
    · refine lv_aload_n hx hb dX5_makersBy_23 rfl (lv_at hl 0 rfl) ?_
      refine lv_aload_n hx hb dX5_makersBy_24 rfl (lv_at hl 1 rfl) ?_
      refine lv_iload hx hb dX5_makersBy_25 (lv_at hl 5 rfl) ?_
      refine lv_iload_n hx hb dX5_makersBy_27 rfl (lv_at hl 2 rfl) ?_
      obtain ⟨r28, g28, h⟩ := bd1_some h
      refine z_callVl C P (As := [.ref (ad q1), .int x6, .int x2]) (m5_cost ho hq1 g28) cW5_43 rfl ho.1 rfl (by decide) hl.1 rfl (Nat.le_of_ble_eq_true rfl) dX5_makersBy_28 ⟨Nat.zero_le _, Nat.zero_le _⟩ (fun H locs P => ?_)
      refine lv_lstore (lv' := [(7, .long r28), (0, .ref (ad o)), (1, .ref (ad q1)), (2, .int x2), (3, .long x3), (5, .int x5), (6, .int x6)]) hx hb dX5_makersBy_31 hl (by decide) rfl (fun ls hl => ?_)
      refine lv_lload hx hb dX5_makersBy_33 (lv_at hl 0 rfl) ?_
      refine lv_lload_n hx hb dX5_makersBy_35 rfl (lv_at hl 4 rfl) ?_
      refine z_lcmp_ge (tgt := 46) hx hb dX5_makersBy_36 dX5_makersBy_37 (by decide) h (fun h => ?_) (fun h => ?_)
      · exact w5_makersBy_46 C ho hq1 ih _ _ _ _ _ _ _ _ h P (lv_sub hl [1, 2, 3, 4, 5, 6, 0] rfl)
      · refine lv_lload hx hb dX5_makersBy_40 (lv_at hl 0 rfl) ?_
        refine lv_lstore_n (lv' := [(3, .long r28), (7, .long r28), (0, .ref (ad o)), (1, .ref (ad q1)), (2, .int x2), (5, .int x5), (6, .int x6)]) hx hb dX5_makersBy_42 rfl hl (by decide) rfl (fun ls hl => ?_)
        refine lv_iconst (v := 0) hx hb dX5_makersBy_43 (by decide) ?_
        refine lv_istore (lv' := [(5, .int (0 : Int32)), (3, .long r28), (7, .long r28), (0, .ref (ad o)), (1, .ref (ad q1)), (2, .int x2), (6, .int x6)]) hx hb dX5_makersBy_44 hl (by decide) rfl (fun ls hl => ?_)
        exact w5_makersBy_46 C ho hq1 ih _ _ _ _ _ _ _ _ h P (lv_sub hl [3, 4, 5, 1, 0, 6, 2] rfl)
theorem m5_makersBy {l : Launch} {D : va_G} {cA : Nat → ClassId} {ad : Nat → Nat} {o : Nat} (ho : zW o) {q1 : Nat} (hq1 : zC[q1]? = some (.inr (1, 3, []))) {x2 : Int32} {S : Zs} {z : Int32} (h : f5_makersBy o q1 S x2 = some z) :
    zMi l yX5_makersBy cX5_makersBy 9 1 23 D zC ad cA S [.ref (ad o), .ref (ad q1), .int x2] (z, S) := by
  refine z_enter (Qc := fun A => zQi D zC ad cA A (z, S)) (by decide +kernel) (Nat.le_of_ble_eq_true rfl) (fun p e s m below meth c A C P ls hl => ?_)
  have hx := C.1
  have hb := C.2.1
  have hl : lv_has ls 9 [(0, .ref (ad o)), (1, .ref (ad q1)), (2, .int x2)] := hl
  unfold f5_makersBy at h
  refine lv_aload_n hx hb dX5_makersBy_0 rfl (lv_at hl 0 rfl) ?_
  refine lv_aload_n hx hb dX5_makersBy_1 rfl (lv_at hl 1 rfl) ?_
  refine lv_iconst (v := 0) hx hb dX5_makersBy_2 (by decide) ?_
  refine lv_iload_n hx hb dX5_makersBy_3 rfl (lv_at hl 2 rfl) ?_
  obtain ⟨r4, g4, h⟩ := bd1_some h
  refine z_callVl C P (As := [.ref (ad q1), .int (0 : Int32), .int x2]) (m5_cost ho hq1 g4) cW5_43 rfl ho.1 rfl (by decide) hl.1 rfl (Nat.le_of_ble_eq_true rfl) dX5_makersBy_4 ⟨Nat.zero_le _, Nat.zero_le _⟩ (fun H locs P => ?_)
  refine lv_lstore_n (lv' := [(3, .long r4), (0, .ref (ad o)), (1, .ref (ad q1)), (2, .int x2)]) hx hb dX5_makersBy_7 rfl hl (by decide) rfl (fun ls hl => ?_)
  refine lv_iconst (v := 1) hx hb dX5_makersBy_8 (by decide) ?_
  refine lv_istore (lv' := [(5, .int (1 : Int32)), (3, .long r4), (0, .ref (ad o)), (1, .ref (ad q1)), (2, .int x2)]) hx hb dX5_makersBy_9 hl (by decide) rfl (fun ls hl => ?_)
  refine lv_iconst (v := 1) hx hb dX5_makersBy_11 (by decide) ?_
  refine lv_istore (lv' := [(6, .int (1 : Int32)), (5, .int (1 : Int32)), (3, .long r4), (0, .ref (ad o)), (1, .ref (ad q1)), (2, .int x2)]) hx hb dX5_makersBy_12 hl (by decide) rfl (fun ls hl => ?_)
  exact w5_makersBy_14 C ho hq1 _ _ _ _ _ _ _ _ h P (lv_sub hl [3, 4, 5, 2, 1, 0] rfl)
theorem w5_allShares_4 (C : zCx p s m args meth c cX5_allShares 3 RX5 (some .int) D ad cA A) {o : Nat} (ho : zW o) {z : Int32} {S : Zs} :
    ∀ (n : Nat) (x1 : Int32) (x2 : Int32) (H : Heap) (locs : List Loc) (ls : Array Slot), f5_allShares_4 o S n x1 x2 = some z → zP D zC ad cA A S s H locs → lv_has ls 3 [(0, .ref (ad o)), (1, .int x1), (2, .int x2)] → W p l e (zrm 0 0) s m args below meth c H locs 0 0 (MQ below (zQi D zC ad cA A (z, S)) args s 0 0 A) (F0 m 4 ls []) := by
  have hx := C.1
  have hb := C.2.1
  intro n
  induction n with
  | zero =>
    intro x1 x2 H locs ls h
    cases h
  | succ n ih =>
    intro x1 x2 H locs ls h P hl
    unfold f5_allShares_4 at h
    refine lv_iload_n hx hb dX5_allShares_4 rfl (lv_at hl 2 rfl) ?_
    refine lv_aload_n hx hb dX5_allShares_5 rfl (lv_at hl 0 rfl) ?_
    refine gF5_15 C P ho.1 rfl dX5_allShares_6 ?_
    refine z_icmp_ge (tgt := 27) hx hb dX5_allShares_9 (by decide) h (fun h => ?_) (fun h => ?_)
    · refine lv_iload_n hx hb dX5_allShares_27 rfl (lv_at hl 1 rfl) ?_
      exact z_iret C P (by rw [Option.some.inj h]) dX5_allShares_28
    · refine lv_iload_n hx hb dX5_allShares_12 rfl (lv_at hl 1 rfl) ?_
      refine lv_aload_n hx hb dX5_allShares_13 rfl (lv_at hl 0 rfl) ?_
      refine gF5_18 C P ho.1 rfl dX5_allShares_14 ?_
      refine lv_iload_n hx hb dX5_allShares_17 rfl (lv_at hl 2 rfl) ?_
      refine z_iald C P ho.2.1 dX5_allShares_18 h (fun h hi => ?_)
      refine lv_iadd hx hb dX5_allShares_19 ?_
      refine z_topi h (fun v20 h => ?_)
      refine lv_istore_n (lv' := [(1, .int v20), (0, .ref (ad o)), (2, .int x2)]) hx hb dX5_allShares_20 rfl hl (by decide) rfl (fun ls hl => ?_)
      obtain ⟨v21, ev21, h⟩ := z_nm h
      refine lv_iinc (v := v21) (lv' := [(2, .int v21), (1, .int v20), (0, .ref (ad o))]) hx hb dX5_allShares_21 hl (k := 2) rfl (by rw [ev21]; rfl) (by decide) rfl (fun ls hl => ?_)
      refine lv_goto (tgt := 4) hx hb dX5_allShares_24 (by decide) ?_
      exact ih _ _ _ _ _ h P (lv_sub hl [2, 1, 0] rfl)
theorem m5_allShares {l : Launch} {D : va_G} {cA : Nat → ClassId} {ad : Nat → Nat} {o : Nat} (ho : zW o) {S : Zs} {z : Int32} (h : f5_allShares o S = some z) :
    zMi l yX5_allShares cX5_allShares 3 0 0 D zC ad cA S [.ref (ad o)] (z, S) := by
  refine z_enter (Qc := fun A => zQi D zC ad cA A (z, S)) (by decide +kernel) (Nat.le_of_ble_eq_true rfl) (fun p e s m below meth c A C P ls hl => ?_)
  have hx := C.1
  have hb := C.2.1
  have hl : lv_has ls 3 [(0, .ref (ad o))] := hl
  unfold f5_allShares at h
  refine lv_iconst (v := 0) hx hb dX5_allShares_0 (by decide) ?_
  refine lv_istore_n (lv' := [(1, .int (0 : Int32)), (0, .ref (ad o))]) hx hb dX5_allShares_1 rfl hl (by decide) rfl (fun ls hl => ?_)
  refine lv_iconst (v := 0) hx hb dX5_allShares_2 (by decide) ?_
  refine lv_istore_n (lv' := [(2, .int (0 : Int32)), (1, .int (0 : Int32)), (0, .ref (ad o))]) hx hb dX5_allShares_3 rfl hl (by decide) rfl (fun ls hl => ?_)
  exact w5_allShares_4 C ho _ _ _ _ _ _ h P (lv_sub hl [2, 1, 0] rfl)
theorem m5_allLands {l : Launch} {D : va_G} {cA : Nat → ClassId} {ad : Nat → Nat} {o : Nat} (ho : zW o) {S : Zs} :
    zMi l yX5_allLands cX5_allLands 1 0 0 D zC ad cA S [.ref (ad o)] (f5_allLands o S, S) := by
  obtain ⟨z, h⟩ : ∃ z, f5_allLands o S = z := ⟨_, rfl⟩
  rw [h]
  refine z_enter (Qc := fun A => zQi D zC ad cA A (z, S)) (by decide +kernel) (Nat.le_of_ble_eq_true rfl) (fun p e s m below meth c A C P ls hl => ?_)
  have hx := C.1
  have hb := C.2.1
  have hl : lv_has ls 1 [(0, .ref (ad o))] := hl
  unfold f5_allLands at h
  refine lv_iconst (v := 1) hx hb dX5_allLands_0 (by decide) ?_
  refine lv_aload_n hx hb dX5_allLands_1 rfl (lv_at hl 0 rfl) ?_
  refine gF5_9 C P ho.1 rfl dX5_allLands_2 ?_
  refine lv_ishl hx hb dX5_allLands_5 ?_
  refine lv_iconst (v := 1) hx hb dX5_allLands_6 (by decide) ?_
  refine lv_isub hx hb dX5_allLands_7 ?_
  exact z_iret C P (by rw [h]) dX5_allLands_8
theorem w5_incomeOf_39 (C : zCx p s m args meth c cX5_incomeOf 6 RX5 (some .long) D ad cA A) {o : Nat} (ho : zW o) {q1 : Nat} (hq1 : zC[q1]? = some (.inr (1, 3, []))) {z : Int64} {S : Zs} {k5 : Int32 → Int64 → Int32 → Option Int64} (hk5 : ∀ (x2 : Int32) (x3 : Int64) (x5 : Int32) (H : Heap) (locs : List Loc) (ls : Array Slot), k5 x2 x3 x5 = some z → zP D zC ad cA A S s H locs → lv_has ls 6 [(0, .ref (ad o)), (1, .ref (ad q1)), (2, .int x2), (3, .long x3), (5, .int x5)] → W p l e (zrm 0 0) s m args below meth c H locs 0 0 (MQ below (zQl D zC ad cA A (z, S)) args s 0 0 A) (F0 m 5 ls [])) (x2 : Int32) (x3 : Int64) (x5 : Int32) (H : Heap) (locs : List Loc) (ls : Array Slot) (h : f5_incomeOf_39 o q1 S k5 x2 x3 x5 = some z) (P : zP D zC ad cA A S s H locs) (hl : lv_has ls 6 [(0, .ref (ad o)), (1, .ref (ad q1)), (2, .int x2), (3, .long x3), (5, .int x5)]) :
    W p l e (zrm 0 0) s m args below meth c H locs 0 0 (MQ below (zQl D zC ad cA A (z, S)) args s 0 0 A) (F0 m 39 ls []) := by
  have hx := C.1
  have hb := C.2.1
  unfold f5_incomeOf_39 at h
  obtain ⟨v39, ev39, h⟩ := z_nm h
  refine lv_iinc (v := v39) (lv' := [(5, .int v39), (0, .ref (ad o)), (1, .ref (ad q1)), (2, .int x2), (3, .long x3)]) hx hb dX5_incomeOf_39 hl (k := 4) rfl (by rw [ev39]; rfl) (by decide) rfl (fun ls hl => ?_)
  refine lv_goto (tgt := 5) hx hb dX5_incomeOf_42 (by decide) ?_
  exact hk5 _ _ _ _ _ _ h P (lv_sub hl [1, 2, 3, 4, 0] rfl)
theorem w5_incomeOf_5 (C : zCx p s m args meth c cX5_incomeOf 6 RX5 (some .long) D ad cA A) {o : Nat} (ho : zW o) {q1 : Nat} (hq1 : zC[q1]? = some (.inr (1, 3, []))) {z : Int64} {S : Zs} :
    ∀ (n : Nat) (x2 : Int32) (x3 : Int64) (x5 : Int32) (H : Heap) (locs : List Loc) (ls : Array Slot), f5_incomeOf_5 o q1 S n x2 x3 x5 = some z → zP D zC ad cA A S s H locs → lv_has ls 6 [(0, .ref (ad o)), (1, .ref (ad q1)), (2, .int x2), (3, .long x3), (5, .int x5)] → W p l e (zrm 0 0) s m args below meth c H locs 0 0 (MQ below (zQl D zC ad cA A (z, S)) args s 0 0 A) (F0 m 5 ls []) := by
  have hx := C.1
  have hb := C.2.1
  intro n
  induction n with
  | zero =>
    intro x2 x3 x5 H locs ls h
    cases h
  | succ n ih =>
    intro x2 x3 x5 H locs ls h P hl
    unfold f5_incomeOf_5 at h
    refine lv_iload hx hb dX5_incomeOf_5 (lv_at hl 4 rfl) ?_
    refine lv_aload_n hx hb dX5_incomeOf_7 rfl (lv_at hl 0 rfl) ?_
    refine gF5_9 C P ho.1 rfl dX5_incomeOf_8 ?_
    refine z_icmp_ge (tgt := 45) hx hb dX5_incomeOf_11 (by decide) h (fun h => ?_) (fun h => ?_)
    · refine lv_lload_n hx hb dX5_incomeOf_45 rfl (lv_at hl 3 rfl) ?_
      exact z_lret C P (by rw [Option.some.inj h]) dX5_incomeOf_46
    · refine lv_iload_n hx hb dX5_incomeOf_14 rfl (lv_at hl 2 rfl) ?_
      refine lv_iload hx hb dX5_incomeOf_15 (lv_at hl 4 rfl) ?_
      refine lv_ishr hx hb dX5_incomeOf_17 ?_
      refine lv_iconst (v := 1) hx hb dX5_incomeOf_18 (by decide) ?_
      refine lv_iand hx hb dX5_incomeOf_19 ?_
      refine z_if_eq (tgt := 39) hx hb dX5_incomeOf_20 (by decide) h (fun h => ?_) (fun h => ?_)
      · exact w5_incomeOf_39 C ho hq1 ih _ _ _ _ _ _ h P (lv_sub hl [0, 1, 2, 3, 4] rfl)
      · refine lv_lload_n hx hb dX5_incomeOf_23 rfl (lv_at hl 3 rfl) ?_
        refine lv_aload_n hx hb dX5_incomeOf_24 rfl (lv_at hl 0 rfl) ?_
        refine gF5_22 C P ho.1 rfl dX5_incomeOf_25 ?_
        refine lv_iload hx hb dX5_incomeOf_28 (lv_at hl 4 rfl) ?_
        refine z_iald C P ho.2.2.1 dX5_incomeOf_30 h (fun h hi => ?_)
        refine lv_i2l hx hb dX5_incomeOf_31 rfl ?_
        refine lv_aload_n hx hb dX5_incomeOf_32 rfl (lv_at hl 1 rfl) ?_
        refine lv_iload hx hb dX5_incomeOf_33 (lv_at hl 4 rfl) ?_
        refine z_lald C P hq1 dX5_incomeOf_35 h (fun h hi => ?_)
        refine lv_lmul hx hb dX5_incomeOf_36 ?_
        refine lv_ladd hx hb dX5_incomeOf_37 ?_
        refine z_topl h (fun v38 h => ?_)
        refine lv_lstore_n (lv' := [(3, .long v38), (0, .ref (ad o)), (1, .ref (ad q1)), (2, .int x2), (5, .int x5)]) hx hb dX5_incomeOf_38 rfl hl (by decide) rfl (fun ls hl => ?_)
        exact w5_incomeOf_39 C ho hq1 ih _ _ _ _ _ _ h P (lv_sub hl [1, 2, 3, 0, 4] rfl)
theorem m5_incomeOf {l : Launch} {D : va_G} {cA : Nat → ClassId} {ad : Nat → Nat} {o : Nat} (ho : zW o) {q1 : Nat} (hq1 : zC[q1]? = some (.inr (1, 3, []))) {x2 : Int32} {S : Zs} {z : Int64} (h : f5_incomeOf o q1 S x2 = some z) :
    zMl l yX5_incomeOf cX5_incomeOf 6 0 0 D zC ad cA S [.ref (ad o), .ref (ad q1), .int x2] (z, S) := by
  refine z_enter (Qc := fun A => zQl D zC ad cA A (z, S)) (by decide +kernel) (Nat.le_of_ble_eq_true rfl) (fun p e s m below meth c A C P ls hl => ?_)
  have hx := C.1
  have hb := C.2.1
  have hl : lv_has ls 6 [(0, .ref (ad o)), (1, .ref (ad q1)), (2, .int x2)] := hl
  unfold f5_incomeOf at h
  refine lv_lconst (v := 0) hx hb dX5_incomeOf_0 (by decide) ?_
  refine lv_lstore_n (lv' := [(3, .long (0 : Int64)), (0, .ref (ad o)), (1, .ref (ad q1)), (2, .int x2)]) hx hb dX5_incomeOf_1 rfl hl (by decide) rfl (fun ls hl => ?_)
  refine lv_iconst (v := 0) hx hb dX5_incomeOf_2 (by decide) ?_
  refine lv_istore (lv' := [(5, .int (0 : Int32)), (3, .long (0 : Int64)), (0, .ref (ad o)), (1, .ref (ad q1)), (2, .int x2)]) hx hb dX5_incomeOf_3 hl (by decide) rfl (fun ls hl => ?_)
  exact w5_incomeOf_5 C ho hq1 _ _ _ _ _ _ _ h P (lv_sub hl [2, 3, 4, 1, 0] rfl)
end ZVC2
