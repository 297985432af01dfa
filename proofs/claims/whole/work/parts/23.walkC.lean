section ZVC3
variable {p : Program} {l : Launch} {e : Env} {s : State} {m : MethodId} {args : Array Value} {below : List Frame} {meth : Method} {c : Code} {D : va_G} {cA : Nat → ClassId} {A : Nat → Prop} {ad : Nat → Nat}
theorem w5_sharesFor_37 (C : zCx p s m args meth c cX5_sharesFor 5 RX5 (some .long) D ad cA A) {o : Nat} (ho : zW o) {z : Int64} {S : Zs} {k5 : Int32 → Int64 → Int32 → Option Int64} (hk5 : ∀ (x1 : Int32) (x2 : Int64) (x4 : Int32) (H : Heap) (locs : List Loc) (ls : Array Slot), k5 x1 x2 x4 = some z → zP D zC ad cA A S s H locs → lv_has ls 5 [(0, .ref (ad o)), (1, .int x1), (2, .long x2), (4, .int x4)] → W p l e (zrm 0 0) s m args below meth c H locs 0 0 (MQ below (zQl D zC ad cA A (z, S)) args s 0 0 A) (F0 m 5 ls [])) (x1 : Int32) (x2 : Int64) (x4 : Int32) (H : Heap) (locs : List Loc) (ls : Array Slot) (h : f5_sharesFor_37 o S k5 x1 x2 x4 = some z) (P : zP D zC ad cA A S s H locs) (hl : lv_has ls 5 [(0, .ref (ad o)), (1, .int x1), (2, .long x2), (4, .int x4)]) :
    W p l e (zrm 0 0) s m args below meth c H locs 0 0 (MQ below (zQl D zC ad cA A (z, S)) args s 0 0 A) (F0 m 37 ls []) := by
  have hx := C.1
  have hb := C.2.1
  unfold f5_sharesFor_37 at h
  obtain ⟨v37, ev37, h⟩ := z_nm h
  refine lv_iinc (v := v37) (lv' := [(4, .int v37), (0, .ref (ad o)), (1, .int x1), (2, .long x2)]) hx hb dX5_sharesFor_37 hl (k := 3) rfl (by rw [ev37]; rfl) (by decide) rfl (fun ls hl => ?_)
  refine lv_goto (tgt := 5) hx hb dX5_sharesFor_40 (by decide) ?_
  exact hk5 _ _ _ _ _ _ h P (lv_sub hl [1, 2, 3, 0] rfl)
theorem w5_sharesFor_5 (C : zCx p s m args meth c cX5_sharesFor 5 RX5 (some .long) D ad cA A) {o : Nat} (ho : zW o) {z : Int64} {S : Zs} :
    ∀ (n : Nat) (x1 : Int32) (x2 : Int64) (x4 : Int32) (H : Heap) (locs : List Loc) (ls : Array Slot), f5_sharesFor_5 o S n x1 x2 x4 = some z → zP D zC ad cA A S s H locs → lv_has ls 5 [(0, .ref (ad o)), (1, .int x1), (2, .long x2), (4, .int x4)] → W p l e (zrm 0 0) s m args below meth c H locs 0 0 (MQ below (zQl D zC ad cA A (z, S)) args s 0 0 A) (F0 m 5 ls []) := by
  have hx := C.1
  have hb := C.2.1
  intro n
  induction n with
  | zero =>
    intro x1 x2 x4 H locs ls h
    cases h
  | succ n ih =>
    intro x1 x2 x4 H locs ls h P hl
    unfold f5_sharesFor_5 at h
    refine lv_iload hx hb dX5_sharesFor_5 (lv_at hl 3 rfl) ?_
    refine lv_aload_n hx hb dX5_sharesFor_7 rfl (lv_at hl 0 rfl) ?_
    refine gF5_15 C P ho.1 rfl dX5_sharesFor_8 ?_
    refine z_icmp_ge (tgt := 43) hx hb dX5_sharesFor_11 (by decide) h (fun h => ?_) (fun h => ?_)
    · refine lv_lload_n hx hb dX5_sharesFor_43 rfl (lv_at hl 2 rfl) ?_
      exact z_lret C P (by rw [Option.some.inj h]) dX5_sharesFor_44
    · refine lv_aload_n hx hb dX5_sharesFor_14 rfl (lv_at hl 0 rfl) ?_
      refine gF5_34 C P ho.1 rfl dX5_sharesFor_15 ?_
      refine lv_iload hx hb dX5_sharesFor_18 (lv_at hl 3 rfl) ?_
      refine z_iald C P ho.2.2.2.2.2.2 dX5_sharesFor_20 h (fun h hi => ?_)
      refine lv_iload_n hx hb dX5_sharesFor_21 rfl (lv_at hl 1 rfl) ?_
      refine lv_iand hx hb dX5_sharesFor_22 ?_
      refine z_if_eq (tgt := 37) hx hb dX5_sharesFor_23 (by decide) h (fun h => ?_) (fun h => ?_)
      · exact w5_sharesFor_37 C ho ih _ _ _ _ _ _ h P (lv_sub hl [0, 1, 2, 3] rfl)
      · refine lv_lload_n hx hb dX5_sharesFor_26 rfl (lv_at hl 2 rfl) ?_
        refine lv_aload_n hx hb dX5_sharesFor_27 rfl (lv_at hl 0 rfl) ?_
        refine gF5_18 C P ho.1 rfl dX5_sharesFor_28 ?_
        refine lv_iload hx hb dX5_sharesFor_31 (lv_at hl 3 rfl) ?_
        refine z_iald C P ho.2.1 dX5_sharesFor_33 h (fun h hi => ?_)
        refine lv_i2l hx hb dX5_sharesFor_34 rfl ?_
        refine lv_ladd hx hb dX5_sharesFor_35 ?_
        refine z_topl h (fun v36 h => ?_)
        refine lv_lstore_n (lv' := [(2, .long v36), (0, .ref (ad o)), (1, .int x1), (4, .int x4)]) hx hb dX5_sharesFor_36 rfl hl (by decide) rfl (fun ls hl => ?_)
        exact w5_sharesFor_37 C ho ih _ _ _ _ _ _ h P (lv_sub hl [1, 2, 0, 3] rfl)
theorem m5_sharesFor {l : Launch} {D : va_G} {cA : Nat → ClassId} {ad : Nat → Nat} {o : Nat} (ho : zW o) {x1 : Int32} {S : Zs} {z : Int64} (h : f5_sharesFor o S x1 = some z) :
    zMl l yX5_sharesFor cX5_sharesFor 5 0 0 D zC ad cA S [.ref (ad o), .int x1] (z, S) := by
  refine z_enter (Qc := fun A => zQl D zC ad cA A (z, S)) (by decide +kernel) (Nat.le_of_ble_eq_true rfl) (fun p e s m below meth c A C P ls hl => ?_)
  have hx := C.1
  have hb := C.2.1
  have hl : lv_has ls 5 [(0, .ref (ad o)), (1, .int x1)] := hl
  unfold f5_sharesFor at h
  refine lv_lconst (v := 0) hx hb dX5_sharesFor_0 (by decide) ?_
  refine lv_lstore_n (lv' := [(2, .long (0 : Int64)), (0, .ref (ad o)), (1, .int x1)]) hx hb dX5_sharesFor_1 rfl hl (by decide) rfl (fun ls hl => ?_)
  refine lv_iconst (v := 0) hx hb dX5_sharesFor_2 (by decide) ?_
  refine lv_istore (lv' := [(4, .int (0 : Int32)), (2, .long (0 : Int64)), (0, .ref (ad o)), (1, .int x1)]) hx hb dX5_sharesFor_3 hl (by decide) rfl (fun ls hl => ?_)
  exact w5_sharesFor_5 C ho _ _ _ _ _ _ _ h P (lv_sub hl [2, 3, 1, 0] rfl)
theorem w5_idleBy_48 (C : zCx p s m args meth c cX5_idleBy 7 RX5 (some .int) D ad cA A) {o : Nat} (ho : zW o) {q1 : Nat} (hq1 : zC[q1]? = some (.inr (1, 3, []))) {z : Int32 × Zs} :
    ∀ (n : Nat) (x2 : Int64) (x4 : Int64) (x6 : Int32) (S : Zs) (H : Heap) (locs : List Loc) (ls : Array Slot), f5_idleBy_48 o q1 n x2 x4 x6 S = some z → zP D zC ad cA A S s H locs → lv_has ls 7 [(0, .ref (ad o)), (1, .ref (ad q1)), (2, .long x2), (4, .long x4), (6, .int x6)] → W p l e (zrm 2 51) s m args below meth c H locs 0 0 (MQ below (zQi D zC ad cA A z) args s 0 0 A) (F0 m 48 ls []) := by
  have hx := C.1
  have hb := C.2.1
  intro n
  induction n with
  | zero =>
    intro x2 x4 x6 S H locs ls h
    cases h
  | succ n ih =>
    intro x2 x4 x6 S H locs ls h P hl
    unfold f5_idleBy_48 at h
    refine lv_iload hx hb dX5_idleBy_48 (lv_at hl 4 rfl) ?_
    refine lv_aload_n hx hb dX5_idleBy_50 rfl (lv_at hl 0 rfl) ?_
    refine z_callVi C P (As := []) (m5_allLands ho) cW5_61 rfl ho.1 rfl (by decide) hl.1 rfl (Nat.le_of_ble_eq_true rfl) dX5_idleBy_51 ⟨Nat.zero_le _, Nat.zero_le _⟩ (fun H locs P => ?_)
    refine z_icmp_gt (tgt := 88) hx hb dX5_idleBy_54 (by decide) h (fun h => ?_) (fun h => ?_)
    · refine lv_iconst (v := 0) hx hb dX5_idleBy_88 (by decide) ?_
      exact z_iret C P (Option.some.inj h) dX5_idleBy_89
    · refine lv_aload_n hx hb dX5_idleBy_57 rfl (lv_at hl 0 rfl) ?_
      refine lv_aload_n hx hb dX5_idleBy_58 rfl (lv_at hl 1 rfl) ?_
      refine lv_iload hx hb dX5_idleBy_59 (lv_at hl 4 rfl) ?_
      obtain ⟨r61, g61, h⟩ := bd1_some h
      refine z_callVl C P (As := [.ref (ad q1), .int x6]) (m5_incomeOf ho hq1 g61) cW5_64 rfl ho.1 rfl (by decide) hl.1 rfl (Nat.le_of_ble_eq_true rfl) dX5_idleBy_61 ⟨Nat.zero_le _, Nat.zero_le _⟩ (fun H locs P => ?_)
      refine lv_lload_n hx hb dX5_idleBy_64 rfl (lv_at hl 2 rfl) ?_
      refine lv_lmul hx hb dX5_idleBy_65 ?_
      refine lv_lload hx hb dX5_idleBy_66 (lv_at hl 3 rfl) ?_
      refine lv_aload_n hx hb dX5_idleBy_68 rfl (lv_at hl 0 rfl) ?_
      refine lv_iload hx hb dX5_idleBy_69 (lv_at hl 4 rfl) ?_
      obtain ⟨r71, g71, h⟩ := bd1_some h
      refine z_callVl C P (As := [.int x6]) (m5_sharesFor ho g71) cW5_68 rfl ho.1 rfl (by decide) hl.1 rfl (Nat.le_of_ble_eq_true rfl) dX5_idleBy_71 ⟨Nat.zero_le _, Nat.zero_le _⟩ (fun H locs P => ?_)
      refine lv_lmul hx hb dX5_idleBy_74 ?_
      refine z_lcmp_le (tgt := 82) hx hb dX5_idleBy_75 dX5_idleBy_76 (by decide) h (fun h => ?_) (fun h => ?_)
      · obtain ⟨v82, ev82, h⟩ := z_nm h
        refine lv_iinc (v := v82) (lv' := [(6, .int v82), (0, .ref (ad o)), (1, .ref (ad q1)), (2, .long x2), (4, .long x4)]) hx hb dX5_idleBy_82 hl (k := 4) rfl (by rw [ev82]; rfl) (by decide) rfl (fun ls hl => ?_)
        refine lv_goto (tgt := 48) hx hb dX5_idleBy_85 (by decide) ?_
        exact ih _ _ _ _ _ _ _ h P (lv_sub hl [1, 2, 3, 4, 0] rfl)
      · refine lv_iload hx hb dX5_idleBy_79 (lv_at hl 4 rfl) ?_
        exact z_iret C P (Option.some.inj h) dX5_idleBy_81
theorem w5_idleBy_2 (C : zCx p s m args meth c cX5_idleBy 7 RX5 (some .int) D ad cA A) {o : Nat} (ho : zW o) {q1 : Nat} (hq1 : zC[q1]? = some (.inr (1, 3, []))) {z : Int32 × Zs} :
    ∀ (n : Nat) (x2 : Int32) (S : Zs) (H : Heap) (locs : List Loc) (ls : Array Slot), f5_idleBy_2 o q1 n x2 S = some z → zP D zC ad cA A S s H locs → lv_has ls 7 [(0, .ref (ad o)), (1, .ref (ad q1)), (2, .int x2)] → W p l e (zrm 2 51) s m args below meth c H locs 0 0 (MQ below (zQi D zC ad cA A z) args s 0 0 A) (F0 m 2 ls []) := by
  have hx := C.1
  have hb := C.2.1
  intro n
  induction n with
  | zero =>
    intro x2 S H locs ls h
    cases h
  | succ n ih =>
    intro x2 S H locs ls h P hl
    unfold f5_idleBy_2 at h
    refine lv_iload_n hx hb dX5_idleBy_2 rfl (lv_at hl 2 rfl) ?_
    refine lv_aload_n hx hb dX5_idleBy_3 rfl (lv_at hl 0 rfl) ?_
    refine gF5_15 C P ho.1 rfl dX5_idleBy_4 ?_
    refine z_icmp_ge (tgt := 28) hx hb dX5_idleBy_7 (by decide) h (fun h => ?_) (fun h => ?_)
    · refine lv_aload_n hx hb dX5_idleBy_28 rfl (lv_at hl 0 rfl) ?_
      obtain ⟨r29, g29, h⟩ := bd1_some h
      refine z_callVi C P (As := []) (m5_allShares ho g29) cW5_57 rfl ho.1 rfl (by decide) hl.1 rfl (Nat.le_of_ble_eq_true rfl) dX5_idleBy_29 ⟨Nat.zero_le _, Nat.zero_le _⟩ (fun H locs P => ?_)
      refine lv_i2l hx hb dX5_idleBy_32 rfl ?_
      refine z_topl h (fun v33 h => ?_)
      refine lv_lstore_n (lv' := [(2, .long v33), (0, .ref (ad o)), (1, .ref (ad q1))]) hx hb dX5_idleBy_33 rfl hl (by decide) rfl (fun ls hl => ?_)
      refine lv_aload_n hx hb dX5_idleBy_34 rfl (lv_at hl 1 rfl) ?_
      refine lv_aload_n hx hb dX5_idleBy_35 rfl (lv_at hl 2 rfl) ?_
      refine lv_aload_n hx hb dX5_idleBy_36 rfl (lv_at hl 1 rfl) ?_
      refine z_callVi C P (As := []) (m5_allLands ho) cW5_61 rfl ho.1 rfl (by decide) hl.1 rfl (Nat.le_of_ble_eq_true rfl) dX5_idleBy_37 ⟨Nat.zero_le _, Nat.zero_le _⟩ (fun H locs P => ?_)
      obtain ⟨r40, g40, h⟩ := bd1_some h
      refine z_callVl C P (As := [.ref (ad q1), .int (f5_allLands o S)]) (m5_incomeOf ho hq1 g40) cW5_64 rfl ho.1 rfl (by decide) hl.1 rfl (Nat.le_of_ble_eq_true rfl) dX5_idleBy_40 ⟨Nat.zero_le _, Nat.zero_le _⟩ (fun H locs P => ?_)
      refine lv_lstore (lv' := [(4, .long r40), (2, .long v33), (0, .ref (ad o)), (1, .ref (ad q1))]) hx hb dX5_idleBy_43 hl (by decide) rfl (fun ls hl => ?_)
      refine lv_iconst (v := 1) hx hb dX5_idleBy_45 (by decide) ?_
      refine lv_istore (lv' := [(6, .int (1 : Int32)), (4, .long r40), (2, .long v33), (0, .ref (ad o)), (1, .ref (ad q1))]) hx hb dX5_idleBy_46 hl (by decide) rfl (fun ls hl => ?_)
      exact w5_idleBy_48 C ho hq1 _ _ _ _ _ _ _ _ h P (lv_sub hl [3, 4, 2, 1, 0] rfl)
    · refine lv_aload_n hx hb dX5_idleBy_10 rfl (lv_at hl 0 rfl) ?_
      refine gF5_34 C P ho.1 rfl dX5_idleBy_11 ?_
      refine lv_iload_n hx hb dX5_idleBy_14 rfl (lv_at hl 2 rfl) ?_
      refine lv_aload_n hx hb dX5_idleBy_15 rfl (lv_at hl 0 rfl) ?_
      refine lv_aload_n hx hb dX5_idleBy_16 rfl (lv_at hl 1 rfl) ?_
      refine lv_iload_n hx hb dX5_idleBy_17 rfl (lv_at hl 2 rfl) ?_
      obtain ⟨r18, g18, h⟩ := bd1_some h
      refine z_callVi C P (As := [.ref (ad q1), .int x2]) (m5_makersBy ho hq1 g18) cW5_53 rfl ho.1 rfl (by decide) hl.1 rfl (Nat.le_of_ble_eq_true rfl) dX5_idleBy_18 ⟨Nat.zero_le _, Nat.zero_le _⟩ (fun H locs P => ?_)
      refine z_iast C P ho.2.2.2.2.2.2 dX5_idleBy_21 h (fun S21 H locs h P => ?_)
      obtain ⟨v22, ev22, h⟩ := z_nm h
      refine lv_iinc (v := v22) (lv' := [(2, .int v22), (0, .ref (ad o)), (1, .ref (ad q1))]) hx hb dX5_idleBy_22 hl (k := 2) rfl (by rw [ev22]; rfl) (by decide) rfl (fun ls hl => ?_)
      refine lv_goto (tgt := 2) hx hb dX5_idleBy_25 (by decide) ?_
      exact ih _ _ _ _ _ h P (lv_sub hl [1, 2, 0] rfl)
theorem m5_idleBy {l : Launch} {D : va_G} {cA : Nat → ClassId} {ad : Nat → Nat} {o : Nat} (ho : zW o) {q1 : Nat} (hq1 : zC[q1]? = some (.inr (1, 3, []))) {S : Zs} {z : Int32 × Zs} (h : f5_idleBy o q1 S = some z) :
    zMi l yX5_idleBy cX5_idleBy 7 2 51 D zC ad cA S [.ref (ad o), .ref (ad q1)] z := by
  refine z_enter (Qc := fun A => zQi D zC ad cA A z) (by decide +kernel) (Nat.le_of_ble_eq_true rfl) (fun p e s m below meth c A C P ls hl => ?_)
  have hx := C.1
  have hb := C.2.1
  have hl : lv_has ls 7 [(0, .ref (ad o)), (1, .ref (ad q1))] := hl
  unfold f5_idleBy at h
  refine lv_iconst (v := 0) hx hb dX5_idleBy_0 (by decide) ?_
  refine lv_istore_n (lv' := [(2, .int (0 : Int32)), (0, .ref (ad o)), (1, .ref (ad q1))]) hx hb dX5_idleBy_1 rfl hl (by decide) rfl (fun ls hl => ?_)
  exact w5_idleBy_2 C ho hq1 _ _ _ _ _ _ h P (lv_sub hl [1, 2, 0] rfl)
theorem w1_findTied_142 (C : zCx p s m args meth c cX1_findTied 9 RX1 (some .boolean) D ad cA A) {q1 : Nat} (hq1 : zW q1) {z : Int32 × Zs} {k117 : Int32 → Int32 → Int32 → Int32 → Zs → Option (Int32 × Zs)} (hk117 : ∀ (x2 : Int32) (x3 : Int32) (x4 : Int32) (x6 : Int32) (S : Zs) (H : Heap) (locs : List Loc) (ls : Array Slot), k117 x2 x3 x4 x6 S = some z → zP D zC ad cA A S s H locs → lv_has ls 9 [(0, .ref (ad 17)), (1, .ref (ad q1)), (2, .int x2), (3, .int x3), (4, .int x4), (6, .int x6)] → W p l e (zrm 3 82) s m args below meth c H locs 0 0 (MQ below (zQb D zC ad cA A z) args s 0 0 A) (F0 m 117 ls [])) (x2 : Int32) (x3 : Int32) (x4 : Int32) (x6 : Int32) (t0 : Int32) (S : Zs) (H : Heap) (locs : List Loc) (ls : Array Slot) (h : f1_findTied_142 q1 k117 x2 x3 x4 x6 t0 S = some z) (P : zP D zC ad cA A S s H locs) (hl : lv_has ls 9 [(0, .ref (ad 17)), (1, .ref (ad q1)), (2, .int x2), (3, .int x3), (4, .int x4), (6, .int x6)]) :
    W p l e (zrm 3 82) s m args below meth c H locs 0 0 (MQ below (zQb D zC ad cA A z) args s 0 0 A) (F0 m 142 ls [.int t0, .ref (ad 28)]) := by
  have hx := C.1
  have hb := C.2.1
  unfold f1_findTied_142 at h
  refine z_aald C P zs28 zs28r zs28g dX1_findTied_142 h (fun h hg142 => ?_)
  refine lv_aload_n hx hb dX1_findTied_143 rfl (lv_at hl 0 rfl) ?_
  refine gF1_12 C P zs17 rfl dX1_findTied_144 ?_
  refine gF1_70 C P zPr_18.1 rfl dX1_findTied_147 ?_
  refine lv_iload hx hb dX1_findTied_150 (lv_at hl 5 rfl) ?_
  refine z_iald C P zPr_18.2.2.2.2 dX1_findTied_152 h (fun h hi => ?_)
  refine lv_dup2_11 hx hb dX1_findTied_153 rfl rfl ?_
  refine z_iald C P hg142 dX1_findTied_154 h (fun h hi => ?_)
  refine lv_iconst (v := 1) hx hb dX1_findTied_155 (by decide) ?_
  refine lv_iadd hx hb dX1_findTied_156 ?_
  refine z_iast C P hg142 dX1_findTied_157 h (fun S157 H locs h P => ?_)
  obtain ⟨v158, ev158, h⟩ := z_nm h
  refine lv_iinc (v := v158) (lv' := [(6, .int v158), (0, .ref (ad 17)), (1, .ref (ad q1)), (2, .int x2), (3, .int x3), (4, .int x4)]) hx hb dX1_findTied_158 hl (k := 5) rfl (by rw [ev158]; rfl) (by decide) rfl (fun ls hl => ?_)
  refine lv_goto (tgt := 117) hx hb dX1_findTied_161 (by decide) ?_
  exact hk117 _ _ _ _ _ _ _ _ h P (lv_sub hl [1, 2, 3, 4, 5, 0] rfl)
theorem w1_findTied_117 (C : zCx p s m args meth c cX1_findTied 9 RX1 (some .boolean) D ad cA A) {q1 : Nat} (hq1 : zW q1) {z : Int32 × Zs} :
    ∀ (n : Nat) (x2 : Int32) (x3 : Int32) (x4 : Int32) (x6 : Int32) (S : Zs) (H : Heap) (locs : List Loc) (ls : Array Slot), f1_findTied_117 q1 n x2 x3 x4 x6 S = some z → zP D zC ad cA A S s H locs → lv_has ls 9 [(0, .ref (ad 17)), (1, .ref (ad q1)), (2, .int x2), (3, .int x3), (4, .int x4), (6, .int x6)] → W p l e (zrm 3 82) s m args below meth c H locs 0 0 (MQ below (zQb D zC ad cA A z) args s 0 0 A) (F0 m 117 ls []) := by
  have hx := C.1
  have hb := C.2.1
  intro n
  induction n with
  | zero =>
    intro x2 x3 x4 x6 S H locs ls h
    cases h
  | succ n ih =>
    intro x2 x3 x4 x6 S H locs ls h P hl
    unfold f1_findTied_117 at h
    refine lv_iload hx hb dX1_findTied_117 (lv_at hl 5 rfl) ?_
    refine lv_aload_n hx hb dX1_findTied_119 rfl (lv_at hl 1 rfl) ?_
    refine gF1_67 C P hq1.1 rfl dX1_findTied_120 ?_
    refine z_icmp_ge (tgt := 164) hx hb dX1_findTied_123 (by decide) h (fun h => ?_) (fun h => ?_)
    · refine lv_iconst (v := 0) hx hb dX1_findTied_164 (by decide) ?_
      exact z_zret C P (Option.some.inj h) (by decide) dX1_findTied_165
    · refine lv_aload_n hx hb dX1_findTied_126 rfl (lv_at hl 0 rfl) ?_
      refine gF1_23 C P zs17 rfl dX1_findTied_127 ?_
      refine lv_iload hx hb dX1_findTied_130 (lv_at hl 5 rfl) ?_
      refine lv_iload hx hb dX1_findTied_132 (lv_at hl 4 rfl) ?_
      refine z_icmp_ge (tgt := 141) hx hb dX1_findTied_134 (by decide) h (fun h => ?_) (fun h => ?_)
      · refine lv_iload_n hx hb dX1_findTied_141 rfl (lv_at hl 3 rfl) ?_
        exact w1_findTied_142 C hq1 ih _ _ _ _ _ _ _ _ _ h P (lv_sub hl [0, 1, 2, 3, 4, 5] rfl)
      · refine lv_iload_n hx hb dX1_findTied_137 rfl (lv_at hl 2 rfl) ?_
        refine lv_goto (tgt := 142) hx hb dX1_findTied_138 (by decide) ?_
        exact w1_findTied_142 C hq1 ih _ _ _ _ _ _ _ _ _ h P (lv_sub hl [0, 1, 2, 3, 4, 5] rfl)
theorem w1_findTied_114 (C : zCx p s m args meth c cX1_findTied 9 RX1 (some .boolean) D ad cA A) {q1 : Nat} (hq1 : zW q1) {z : Int32 × Zs} (x2 : Int32) (x3 : Int32) (x4 : Int32) (S : Zs) (H : Heap) (locs : List Loc) (ls : Array Slot) (h : f1_findTied_114 q1 x2 x3 x4 S = some z) (P : zP D zC ad cA A S s H locs) (hl : lv_has ls 9 [(0, .ref (ad 17)), (1, .ref (ad q1)), (2, .int x2), (3, .int x3), (4, .int x4)]) :
    W p l e (zrm 3 82) s m args below meth c H locs 0 0 (MQ below (zQb D zC ad cA A z) args s 0 0 A) (F0 m 114 ls []) := by
  have hx := C.1
  have hb := C.2.1
  unfold f1_findTied_114 at h
  refine lv_iconst (v := 0) hx hb dX1_findTied_114 (by decide) ?_
  refine lv_istore (lv' := [(6, .int (0 : Int32)), (0, .ref (ad 17)), (1, .ref (ad q1)), (2, .int x2), (3, .int x3), (4, .int x4)]) hx hb dX1_findTied_115 hl (by decide) rfl (fun ls hl => ?_)
  exact w1_findTied_117 C hq1 _ _ _ _ _ _ _ _ _ h P (lv_sub hl [1, 2, 3, 4, 5, 0] rfl)
theorem w1_findTied_108 (C : zCx p s m args meth c cX1_findTied 9 RX1 (some .boolean) D ad cA A) {q1 : Nat} (hq1 : zW q1) {z : Int32 × Zs} {k29 : Int32 → Int32 → Int32 → Int32 → Int32 → Zs → Option (Int32 × Zs)} (hk29 : ∀ (x2 : Int32) (x3 : Int32) (x4 : Int32) (x5 : Int32) (x6 : Int32) (S : Zs) (H : Heap) (locs : List Loc) (ls : Array Slot), k29 x2 x3 x4 x5 x6 S = some z → zP D zC ad cA A S s H locs → lv_has ls 9 [(0, .ref (ad 17)), (1, .ref (ad q1)), (2, .int x2), (3, .int x3), (4, .int x4), (5, .int x5), (6, .int x6)] → W p l e (zrm 3 82) s m args below meth c H locs 0 0 (MQ below (zQb D zC ad cA A z) args s 0 0 A) (F0 m 29 ls [])) (x2 : Int32) (x3 : Int32) (x4 : Int32) (x5 : Int32) (x6 : Int32) (S : Zs) (H : Heap) (locs : List Loc) (ls : Array Slot) (h : f1_findTied_108 q1 k29 x2 x3 x4 x5 x6 S = some z) (P : zP D zC ad cA A S s H locs) (hl : lv_has ls 9 [(0, .ref (ad 17)), (1, .ref (ad q1)), (2, .int x2), (3, .int x3), (4, .int x4), (5, .int x5), (6, .int x6)]) :
    W p l e (zrm 3 82) s m args below meth c H locs 0 0 (MQ below (zQb D zC ad cA A z) args s 0 0 A) (F0 m 108 ls []) := by
  have hx := C.1
  have hb := C.2.1
  unfold f1_findTied_108 at h
  obtain ⟨v108, ev108, h⟩ := z_nm h
  refine lv_iinc (v := v108) (lv' := [(6, .int v108), (0, .ref (ad 17)), (1, .ref (ad q1)), (2, .int x2), (3, .int x3), (4, .int x4), (5, .int x5)]) hx hb dX1_findTied_108 hl (k := 6) rfl (by rw [ev108]; rfl) (by decide) rfl (fun ls hl => ?_)
  refine lv_goto (tgt := 29) hx hb dX1_findTied_111 (by decide) ?_
  exact hk29 _ _ _ _ _ _ _ _ _ h P (lv_sub hl [1, 2, 3, 4, 5, 6, 0] rfl)
theorem w1_findTied_29 (C : zCx p s m args meth c cX1_findTied 9 RX1 (some .boolean) D ad cA A) {q1 : Nat} (hq1 : zW q1) {z : Int32 × Zs} :
    ∀ (n : Nat) (x2 : Int32) (x3 : Int32) (x4 : Int32) (x5 : Int32) (x6 : Int32) (S : Zs) (H : Heap) (locs : List Loc) (ls : Array Slot), f1_findTied_29 q1 n x2 x3 x4 x5 x6 S = some z → zP D zC ad cA A S s H locs → lv_has ls 9 [(0, .ref (ad 17)), (1, .ref (ad q1)), (2, .int x2), (3, .int x3), (4, .int x4), (5, .int x5), (6, .int x6)] → W p l e (zrm 3 82) s m args below meth c H locs 0 0 (MQ below (zQb D zC ad cA A z) args s 0 0 A) (F0 m 29 ls []) := by
  have hx := C.1
  have hb := C.2.1
  intro n
  induction n with
  | zero =>
    intro x2 x3 x4 x5 x6 S H locs ls h
    cases h
  | succ n ih =>
    intro x2 x3 x4 x5 x6 S H locs ls h P hl
    unfold f1_findTied_29 at h
    refine lv_iload hx hb dX1_findTied_29 (lv_at hl 6 rfl) ?_
    refine lv_bipush (v := 6) hx hb dX1_findTied_31 (by decide) ?_
    refine z_icmp_ge (tgt := 114) hx hb dX1_findTied_33 (by decide) h (fun h => ?_) (fun h => ?_)
    · exact w1_findTied_114 C hq1 _ _ _ _ _ _ _ h P (lv_sub hl [0, 1, 2, 3, 4] rfl)
    · refine lv_iload hx hb dX1_findTied_36 (lv_at hl 4 rfl) ?_
      refine lv_iload hx hb dX1_findTied_38 (lv_at hl 5 rfl) ?_
      refine z_icmp_ge (tgt := 114) hx hb dX1_findTied_40 (by decide) h (fun h => ?_) (fun h => ?_)
      · exact w1_findTied_114 C hq1 _ _ _ _ _ _ _ h P (lv_sub hl [0, 1, 2, 3, 4] rfl)
      · refine lv_iload hx hb dX1_findTied_43 (lv_at hl 4 rfl) ?_
        refine lv_iload hx hb dX1_findTied_45 (lv_at hl 5 rfl) ?_
        refine lv_iadd hx hb dX1_findTied_47 ?_
        refine lv_iconst (v := 1) hx hb dX1_findTied_48 (by decide) ?_
        refine lv_ishr hx hb dX1_findTied_49 ?_
        refine z_topi h (fun v50 h => ?_)
        refine lv_istore (lv' := [(7, .int v50), (0, .ref (ad 17)), (1, .ref (ad q1)), (2, .int x2), (3, .int x3), (4, .int x4), (5, .int x5), (6, .int x6)]) hx hb dX1_findTied_50 hl (by decide) rfl (fun ls hl => ?_)
        refine lv_aload_n hx hb dX1_findTied_52 rfl (lv_at hl 1 rfl) ?_
        refine lv_aload_n hx hb dX1_findTied_53 rfl (lv_at hl 2 rfl) ?_
        refine lv_iload_n hx hb dX1_findTied_54 rfl (lv_at hl 3 rfl) ?_
        refine lv_iload_n hx hb dX1_findTied_55 rfl (lv_at hl 4 rfl) ?_
        refine lv_aload_n hx hb dX1_findTied_56 rfl (lv_at hl 1 rfl) ?_
        refine gF1_12 C P zs17 rfl dX1_findTied_57 ?_
        refine gF1_70 C P zPr_18.1 rfl dX1_findTied_60 ?_
        refine lv_iload hx hb dX1_findTied_63 (lv_at hl 0 rfl) ?_
        refine z_iald C P zPr_18.2.2.2.2 dX1_findTied_65 h (fun h hi => ?_)
        obtain ⟨S66, g66, h⟩ := bd1_some h
        refine z_callVv C P (As := [.ref (ad q1), .int x2, .int x3, .int (S.1 (18 + 4) v50.toNatClampNeg)]) (m1_tie hq1 g66) cW1_74 rfl zs17 rfl (by decide) hl.1 rfl (Nat.le_of_ble_eq_true rfl) dX1_findTied_66 ⟨Nat.zero_le _, Nat.zero_le _⟩ (fun H locs P => ?_)
        refine lv_aload_n hx hb dX1_findTied_69 rfl (lv_at hl 2 rfl) ?_
        refine lv_aload_n hx hb dX1_findTied_70 rfl (lv_at hl 2 rfl) ?_
        refine gF1_32 C P hq1.1 rfl dX1_findTied_71 ?_
        obtain ⟨r74, S74, g74, h⟩ := bd2_some h
        refine z_callVi C P (As := [.ref (ad (q1 + 7))]) (m5_idleBy hq1 hq1.2.2.2.2.2.1 g74) cW1_78 rfl hq1.1 rfl (by decide) hl.1 rfl (Nat.le_of_ble_eq_true rfl) dX1_findTied_74 ⟨Nat.zero_le _, Nat.zero_le _⟩ (fun H locs P => ?_)
        refine lv_istore (lv' := [(8, .int r74), (7, .int v50), (0, .ref (ad 17)), (1, .ref (ad q1)), (2, .int x2), (3, .int x3), (4, .int x4), (5, .int x5), (6, .int x6)]) hx hb dX1_findTied_77 hl (by decide) rfl (fun ls hl => ?_)
        refine lv_iload hx hb dX1_findTied_79 (lv_at hl 0 rfl) ?_
        refine z_if_ne (tgt := 86) hx hb dX1_findTied_81 (by decide) h (fun h => ?_) (fun h => ?_)
        · refine lv_iload hx hb dX1_findTied_86 (lv_at hl 0 rfl) ?_
          refine lv_iload_n hx hb dX1_findTied_88 rfl (lv_at hl 4 rfl) ?_
          refine lv_ishr hx hb dX1_findTied_89 ?_
          refine lv_iconst (v := 1) hx hb dX1_findTied_90 (by decide) ?_
          refine lv_iand hx hb dX1_findTied_91 ?_
          refine z_if_eq (tgt := 104) hx hb dX1_findTied_92 (by decide) h (fun h => ?_) (fun h => ?_)
          · refine lv_iload hx hb dX1_findTied_104 (lv_at hl 1 rfl) ?_
            refine lv_istore (lv' := [(5, .int v50), (8, .int r74), (7, .int v50), (0, .ref (ad 17)), (1, .ref (ad q1)), (2, .int x2), (3, .int x3), (4, .int x4), (6, .int x6)]) hx hb dX1_findTied_106 hl (by decide) rfl (fun ls hl => ?_)
            exact w1_findTied_108 C hq1 ih _ _ _ _ _ _ _ _ _ h P (lv_sub hl [3, 4, 5, 6, 7, 0, 8] rfl)
          · refine lv_iload hx hb dX1_findTied_95 (lv_at hl 1 rfl) ?_
            refine lv_iconst (v := 1) hx hb dX1_findTied_97 (by decide) ?_
            refine lv_iadd hx hb dX1_findTied_98 ?_
            refine z_topi h (fun v99 h => ?_)
            refine lv_istore (lv' := [(4, .int v99), (8, .int r74), (7, .int v50), (0, .ref (ad 17)), (1, .ref (ad q1)), (2, .int x2), (3, .int x3), (5, .int x5), (6, .int x6)]) hx hb dX1_findTied_99 hl (by decide) rfl (fun ls hl => ?_)
            refine lv_goto (tgt := 108) hx hb dX1_findTied_101 (by decide) ?_
            exact w1_findTied_108 C hq1 ih _ _ _ _ _ _ _ _ _ h P (lv_sub hl [3, 4, 5, 6, 0, 7, 8] rfl)
        · refine lv_iconst (v := 1) hx hb dX1_findTied_84 (by decide) ?_
          exact z_zret C P (Option.some.inj h) (by decide) dX1_findTied_85
theorem m1_findTied {l : Launch} {D : va_G} {cA : Nat → ClassId} {ad : Nat → Nat} {q1 : Nat} (hq1 : zW q1) {x2 : Int32} {x3 : Int32} {S : Zs} {z : Int32 × Zs} (h : f1_findTied q1 x2 x3 S = some z) :
    zMb l yX1_findTied cX1_findTied 9 3 82 D zC ad cA S [.ref (ad 17), .ref (ad q1), .int x2, .int x3] z := by
  refine z_enter (Qc := fun A => zQb D zC ad cA A z) (by decide +kernel) (Nat.le_of_ble_eq_true rfl) (fun p e s m below meth c A C P ls hl => ?_)
  have hx := C.1
  have hb := C.2.1
  have hl : lv_has ls 9 [(0, .ref (ad 17)), (1, .ref (ad q1)), (2, .int x2), (3, .int x3)] := hl
  unfold f1_findTied at h
  refine lv_aload_n hx hb dX1_findTied_0 rfl (lv_at hl 0 rfl) ?_
  refine gF1_12 C P zs17 rfl dX1_findTied_1 ?_
  refine lv_aload_n hx hb dX1_findTied_4 rfl (lv_at hl 1 rfl) ?_
  refine lv_iload_n hx hb dX1_findTied_5 rfl (lv_at hl 2 rfl) ?_
  refine lv_iload_n hx hb dX1_findTied_6 rfl (lv_at hl 3 rfl) ?_
  obtain ⟨S7, g7, h⟩ := bd1_some h
  refine z_callVv C P (As := [.ref (ad q1), .int x2, .int x3]) (m0_layTwo zPr_18 hq1 g7) cW1_36 rfl zPr_18.1 rfl (by decide) hl.1 rfl (Nat.le_of_ble_eq_true rfl) dX1_findTied_7 ⟨Nat.zero_le _, Nat.zero_le _⟩ (fun H locs P => ?_)
  refine lv_aload_n hx hb dX1_findTied_10 rfl (lv_at hl 0 rfl) ?_
  refine gF1_12 C P zs17 rfl dX1_findTied_11 ?_
  obtain ⟨S14, g14, h⟩ := bd1_some h
  refine z_callVv C P (As := []) (m0_sort zPr_18 g14) cW1_40 rfl zPr_18.1 rfl (by decide) hl.1 rfl (Nat.le_of_ble_eq_true rfl) dX1_findTied_14 ⟨Nat.zero_le _, Nat.zero_le _⟩ (fun H locs P => ?_)
  refine lv_iconst (v := 0) hx hb dX1_findTied_17 (by decide) ?_
  refine lv_istore (lv' := [(4, .int (0 : Int32)), (0, .ref (ad 17)), (1, .ref (ad q1)), (2, .int x2), (3, .int x3)]) hx hb dX1_findTied_18 hl (by decide) rfl (fun ls hl => ?_)
  refine lv_aload_n hx hb dX1_findTied_20 rfl (lv_at hl 2 rfl) ?_
  refine gF1_67 C P hq1.1 rfl dX1_findTied_21 ?_
  refine z_topi h (fun v24 h => ?_)
  refine lv_istore (lv' := [(5, .int v24), (4, .int (0 : Int32)), (0, .ref (ad 17)), (1, .ref (ad q1)), (2, .int x2), (3, .int x3)]) hx hb dX1_findTied_24 hl (by decide) rfl (fun ls hl => ?_)
  refine lv_iconst (v := 0) hx hb dX1_findTied_26 (by decide) ?_
  refine lv_istore (lv' := [(6, .int (0 : Int32)), (5, .int v24), (4, .int (0 : Int32)), (0, .ref (ad 17)), (1, .ref (ad q1)), (2, .int x2), (3, .int x3)]) hx hb dX1_findTied_27 hl (by decide) rfl (fun ls hl => ?_)
  exact w1_findTied_29 C hq1 _ _ _ _ _ _ _ _ _ _ h P (lv_sub hl [3, 4, 5, 6, 2, 1, 0] rfl)
theorem w1_settleApart_111 (C : zCx p s m args meth c cX1_settleApart 8 RX1 none D ad cA A) {q1 : Nat} (hq1 : zW q1) {z : Zs} {k27 : Int64 → Int32 → Zs → Option Zs} (hk27 : ∀ (x2 : Int64) (x4 : Int32) (S : Zs) (H : Heap) (locs : List Loc) (ls : Array Slot), k27 x2 x4 S = some z → zP D zC ad cA A S s H locs → lv_has ls 8 [(0, .ref (ad 17)), (1, .ref (ad q1)), (2, .long x2), (4, .int x4)] → W p l e (zrm 0 0) s m args below meth c H locs 0 0 (MQ below (zQv D zC ad cA A z) args s 0 0 A) (F0 m 27 ls [])) (x2 : Int64) (x4 : Int32) (S : Zs) (H : Heap) (locs : List Loc) (ls : Array Slot) (h : f1_settleApart_111 q1 k27 x2 x4 S = some z) (P : zP D zC ad cA A S s H locs) (hl : lv_has ls 8 [(0, .ref (ad 17)), (1, .ref (ad q1)), (2, .long x2), (4, .int x4)]) :
    W p l e (zrm 0 0) s m args below meth c H locs 0 0 (MQ below (zQv D zC ad cA A z) args s 0 0 A) (F0 m 111 ls []) := by
  have hx := C.1
  have hb := C.2.1
  unfold f1_settleApart_111 at h
  obtain ⟨v111, ev111, h⟩ := z_nm h
  refine lv_iinc (v := v111) (lv' := [(4, .int v111), (0, .ref (ad 17)), (1, .ref (ad q1)), (2, .long x2)]) hx hb dX1_settleApart_111 hl (k := 3) rfl (by rw [ev111]; rfl) (by decide) rfl (fun ls hl => ?_)
  refine lv_goto (tgt := 27) hx hb dX1_settleApart_114 (by decide) ?_
  exact hk27 _ _ _ _ _ _ h P (lv_sub hl [1, 2, 3, 0] rfl)
theorem w1_settleApart_75 (C : zCx p s m args meth c cX1_settleApart 8 RX1 none D ad cA A) {q1 : Nat} (hq1 : zW q1) {z : Zs} {k27 : Int64 → Int32 → Zs → Option Zs} (hk27 : ∀ (x2 : Int64) (x4 : Int32) (S : Zs) (H : Heap) (locs : List Loc) (ls : Array Slot), k27 x2 x4 S = some z → zP D zC ad cA A S s H locs → lv_has ls 8 [(0, .ref (ad 17)), (1, .ref (ad q1)), (2, .long x2), (4, .int x4)] → W p l e (zrm 0 0) s m args below meth c H locs 0 0 (MQ below (zQv D zC ad cA A z) args s 0 0 A) (F0 m 27 ls [])) {k39 : Int64 → Int32 → Int64 → Int32 → Zs → Option Zs} (hk39 : ∀ (x2 : Int64) (x4 : Int32) (x5 : Int64) (x7 : Int32) (S : Zs) (H : Heap) (locs : List Loc) (ls : Array Slot), k39 x2 x4 x5 x7 S = some z → zP D zC ad cA A S s H locs → lv_has ls 8 [(0, .ref (ad 17)), (1, .ref (ad q1)), (2, .long x2), (4, .int x4), (5, .long x5), (7, .int x7)] → W p l e (zrm 0 0) s m args below meth c H locs 0 0 (MQ below (zQv D zC ad cA A z) args s 0 0 A) (F0 m 39 ls [])) (x2 : Int64) (x4 : Int32) (x5 : Int64) (x7 : Int32) (S : Zs) (H : Heap) (locs : List Loc) (ls : Array Slot) (h : f1_settleApart_75 q1 k27 k39 x2 x4 x5 x7 S = some z) (P : zP D zC ad cA A S s H locs) (hl : lv_has ls 8 [(0, .ref (ad 17)), (1, .ref (ad q1)), (2, .long x2), (4, .int x4), (5, .long x5), (7, .int x7)]) :
    W p l e (zrm 0 0) s m args below meth c H locs 0 0 (MQ below (zQv D zC ad cA A z) args s 0 0 A) (F0 m 75 ls []) := by
  have hx := C.1
  have hb := C.2.1
  unfold f1_settleApart_75 at h
  obtain ⟨v75, ev75, h⟩ := z_nm h
  refine lv_iinc (v := v75) (lv' := [(7, .int v75), (0, .ref (ad 17)), (1, .ref (ad q1)), (2, .long x2), (4, .int x4), (5, .long x5)]) hx hb dX1_settleApart_75 hl (k := 5) rfl (by rw [ev75]; rfl) (by decide) rfl (fun ls hl => ?_)
  refine lv_goto (tgt := 39) hx hb dX1_settleApart_78 (by decide) ?_
  exact hk39 _ _ _ _ _ _ _ _ h P (lv_sub hl [1, 2, 3, 4, 5, 0] rfl)
theorem w1_settleApart_39 (C : zCx p s m args meth c cX1_settleApart 8 RX1 none D ad cA A) {q1 : Nat} (hq1 : zW q1) {z : Zs} {k27 : Int64 → Int32 → Zs → Option Zs} (hk27 : ∀ (x2 : Int64) (x4 : Int32) (S : Zs) (H : Heap) (locs : List Loc) (ls : Array Slot), k27 x2 x4 S = some z → zP D zC ad cA A S s H locs → lv_has ls 8 [(0, .ref (ad 17)), (1, .ref (ad q1)), (2, .long x2), (4, .int x4)] → W p l e (zrm 0 0) s m args below meth c H locs 0 0 (MQ below (zQv D zC ad cA A z) args s 0 0 A) (F0 m 27 ls [])) :
    ∀ (n : Nat) (x2 : Int64) (x4 : Int32) (x5 : Int64) (x7 : Int32) (S : Zs) (H : Heap) (locs : List Loc) (ls : Array Slot), f1_settleApart_39 q1 k27 n x2 x4 x5 x7 S = some z → zP D zC ad cA A S s H locs → lv_has ls 8 [(0, .ref (ad 17)), (1, .ref (ad q1)), (2, .long x2), (4, .int x4), (5, .long x5), (7, .int x7)] → W p l e (zrm 0 0) s m args below meth c H locs 0 0 (MQ below (zQv D zC ad cA A z) args s 0 0 A) (F0 m 39 ls []) := by
  have hx := C.1
  have hb := C.2.1
  intro n
  induction n with
  | zero =>
    intro x2 x4 x5 x7 S H locs ls h
    cases h
  | succ n ih =>
    intro x2 x4 x5 x7 S H locs ls h P hl
    unfold f1_settleApart_39 at h
    refine lv_iload hx hb dX1_settleApart_39 (lv_at hl 5 rfl) ?_
    refine lv_aload_n hx hb dX1_settleApart_41 rfl (lv_at hl 1 rfl) ?_
    refine gF1_67 C P hq1.1 rfl dX1_settleApart_42 ?_
    refine z_icmp_ge (tgt := 81) hx hb dX1_settleApart_45 (by decide) h (fun h => ?_) (fun h => ?_)
    · refine lv_aload_n hx hb dX1_settleApart_81 rfl (lv_at hl 1 rfl) ?_
      refine gF1_89 C P hq1.1 rfl dX1_settleApart_82 ?_
      refine lv_iload hx hb dX1_settleApart_85 (lv_at hl 3 rfl) ?_
      refine z_iald C P hq1.2.2.1 dX1_settleApart_87 h (fun h hi => ?_)
      refine z_if_le (tgt := 111) hx hb dX1_settleApart_88 (by decide) h (fun h => ?_) (fun h => ?_)
      · exact w1_settleApart_111 C hq1 hk27 _ _ _ _ _ _ h P (lv_sub hl [0, 1, 2, 3] rfl)
      · refine lv_aload_n hx hb dX1_settleApart_91 rfl (lv_at hl 1 rfl) ?_
        refine gF1_32 C P hq1.1 rfl dX1_settleApart_92 ?_
        refine lv_iload hx hb dX1_settleApart_95 (lv_at hl 3 rfl) ?_
        refine lv_lload hx hb dX1_settleApart_97 (lv_at hl 4 rfl) ?_
        refine lv_lload_n hx hb dX1_settleApart_99 rfl (lv_at hl 2 rfl) ?_
        refine lv_aload_n hx hb dX1_settleApart_100 rfl (lv_at hl 1 rfl) ?_
        refine gF1_89 C P hq1.1 rfl dX1_settleApart_101 ?_
        refine lv_iload hx hb dX1_settleApart_104 (lv_at hl 3 rfl) ?_
        refine z_iald C P hq1.2.2.1 dX1_settleApart_106 h (fun h hi => ?_)
        refine lv_i2l hx hb dX1_settleApart_107 rfl ?_
        refine z_ldiv hx hb dX1_settleApart_108 h (fun h => ?_)
        refine lv_lmul hx hb dX1_settleApart_109 ?_
        refine z_last C P hq1.2.2.2.2.2.1 dX1_settleApart_110 h (fun S110 H locs h P => ?_)
        exact w1_settleApart_111 C hq1 hk27 _ _ _ _ _ _ h P (lv_sub hl [0, 1, 2, 3] rfl)
    · refine lv_aload_n hx hb dX1_settleApart_48 rfl (lv_at hl 0 rfl) ?_
      refine gF1_23 C P zs17 rfl dX1_settleApart_49 ?_
      refine lv_iload hx hb dX1_settleApart_52 (lv_at hl 3 rfl) ?_
      refine z_aald C P zs28 zs28r zs28g dX1_settleApart_54 h (fun h hg54 => ?_)
      refine lv_iload hx hb dX1_settleApart_55 (lv_at hl 5 rfl) ?_
      refine z_iald C P hg54 dX1_settleApart_57 h (fun h hi => ?_)
      refine lv_iconst (v := 2) hx hb dX1_settleApart_58 (by decide) ?_
      refine z_icmp_ne (tgt := 75) hx hb dX1_settleApart_59 (by decide) h (fun h => ?_) (fun h => ?_)
      · exact w1_settleApart_75 C hq1 hk27 ih _ _ _ _ _ _ _ _ h P (lv_sub hl [0, 1, 2, 3, 4, 5] rfl)
      · refine lv_lload hx hb dX1_settleApart_62 (lv_at hl 4 rfl) ?_
        refine lv_aload_n hx hb dX1_settleApart_64 rfl (lv_at hl 1 rfl) ?_
        refine gF1_92 C P hq1.1 rfl dX1_settleApart_65 ?_
        refine lv_iload hx hb dX1_settleApart_68 (lv_at hl 5 rfl) ?_
        refine z_iald C P hq1.2.1 dX1_settleApart_70 h (fun h hi => ?_)
        refine lv_i2l hx hb dX1_settleApart_71 rfl ?_
        refine lv_ladd hx hb dX1_settleApart_72 ?_
        refine z_topl h (fun v73 h => ?_)
        refine lv_lstore (lv' := [(5, .long v73), (0, .ref (ad 17)), (1, .ref (ad q1)), (2, .long x2), (4, .int x4), (7, .int x7)]) hx hb dX1_settleApart_73 hl (by decide) rfl (fun ls hl => ?_)
        exact w1_settleApart_75 C hq1 hk27 ih _ _ _ _ _ _ _ _ h P (lv_sub hl [1, 2, 3, 4, 0, 5] rfl)
theorem w1_settleApart_27 (C : zCx p s m args meth c cX1_settleApart 8 RX1 none D ad cA A) {q1 : Nat} (hq1 : zW q1) {z : Zs} :
    ∀ (n : Nat) (x2 : Int64) (x4 : Int32) (S : Zs) (H : Heap) (locs : List Loc) (ls : Array Slot), f1_settleApart_27 q1 n x2 x4 S = some z → zP D zC ad cA A S s H locs → lv_has ls 8 [(0, .ref (ad 17)), (1, .ref (ad q1)), (2, .long x2), (4, .int x4)] → W p l e (zrm 0 0) s m args below meth c H locs 0 0 (MQ below (zQv D zC ad cA A z) args s 0 0 A) (F0 m 27 ls []) := by
  have hx := C.1
  have hb := C.2.1
  intro n
  induction n with
  | zero =>
    intro x2 x4 S H locs ls h
    cases h
  | succ n ih =>
    intro x2 x4 S H locs ls h P hl
    unfold f1_settleApart_27 at h
    refine lv_iload hx hb dX1_settleApart_27 (lv_at hl 3 rfl) ?_
    refine lv_iconst (v := 3) hx hb dX1_settleApart_29 (by decide) ?_
    refine z_icmp_ge (tgt := 117) hx hb dX1_settleApart_30 (by decide) h (fun h => ?_) (fun h => ?_)
    · exact z_vret C P (Option.some.inj h) dX1_settleApart_117
    · refine lv_lconst (v := 0) hx hb dX1_settleApart_33 (by decide) ?_
      refine lv_lstore (lv' := [(5, .long (0 : Int64)), (0, .ref (ad 17)), (1, .ref (ad q1)), (2, .long x2), (4, .int x4)]) hx hb dX1_settleApart_34 hl (by decide) rfl (fun ls hl => ?_)
      refine lv_iconst (v := 0) hx hb dX1_settleApart_36 (by decide) ?_
      refine lv_istore (lv' := [(7, .int (0 : Int32)), (5, .long (0 : Int64)), (0, .ref (ad 17)), (1, .ref (ad q1)), (2, .long x2), (4, .int x4)]) hx hb dX1_settleApart_37 hl (by decide) rfl (fun ls hl => ?_)
      exact w1_settleApart_39 C hq1 ih _ _ _ _ _ _ _ _ _ h P (lv_sub hl [2, 3, 4, 5, 1, 0] rfl)
theorem m1_settleApart {l : Launch} {D : va_G} {cA : Nat → ClassId} {ad : Nat → Nat} {q1 : Nat} (hq1 : zW q1) {S : Zs} {z : Zs} (h : f1_settleApart q1 S = some z) :
    zMv l yX1_settleApart cX1_settleApart 8 0 0 D zC ad cA S [.ref (ad 17), .ref (ad q1)] z := by
  refine z_enter (Qc := fun A => zQv D zC ad cA A z) (by decide +kernel) (Nat.le_of_ble_eq_true rfl) (fun p e s m below meth c A C P ls hl => ?_)
  have hx := C.1
  have hb := C.2.1
  have hl : lv_has ls 8 [(0, .ref (ad 17)), (1, .ref (ad q1))] := hl
  unfold f1_settleApart at h
  refine lv_aload_n hx hb dX1_settleApart_0 rfl (lv_at hl 1 rfl) ?_
  refine gF1_89 C P hq1.1 rfl dX1_settleApart_1 ?_
  refine lv_iconst (v := 0) hx hb dX1_settleApart_4 (by decide) ?_
  refine z_iald C P hq1.2.2.1 dX1_settleApart_5 h (fun h hi => ?_)
  refine lv_i2l hx hb dX1_settleApart_6 rfl ?_
  refine lv_aload_n hx hb dX1_settleApart_7 rfl (lv_at hl 1 rfl) ?_
  refine gF1_89 C P hq1.1 rfl dX1_settleApart_8 ?_
  refine lv_iconst (v := 1) hx hb dX1_settleApart_11 (by decide) ?_
  refine z_iald C P hq1.2.2.1 dX1_settleApart_12 h (fun h hi => ?_)
  refine lv_i2l hx hb dX1_settleApart_13 rfl ?_
  refine lv_lmul hx hb dX1_settleApart_14 ?_
  refine lv_aload_n hx hb dX1_settleApart_15 rfl (lv_at hl 1 rfl) ?_
  refine gF1_89 C P hq1.1 rfl dX1_settleApart_16 ?_
  refine lv_iconst (v := 2) hx hb dX1_settleApart_19 (by decide) ?_
  refine z_iald C P hq1.2.2.1 dX1_settleApart_20 h (fun h hi => ?_)
  refine lv_i2l hx hb dX1_settleApart_21 rfl ?_
  refine lv_lmul hx hb dX1_settleApart_22 ?_
  refine z_topl h (fun v23 h => ?_)
  refine lv_lstore_n (lv' := [(2, .long v23), (0, .ref (ad 17)), (1, .ref (ad q1))]) hx hb dX1_settleApart_23 rfl hl (by decide) rfl (fun ls hl => ?_)
  refine lv_iconst (v := 0) hx hb dX1_settleApart_24 (by decide) ?_
  refine lv_istore (lv' := [(4, .int (0 : Int32)), (2, .long v23), (0, .ref (ad 17)), (1, .ref (ad q1))]) hx hb dX1_settleApart_25 hl (by decide) rfl (fun ls hl => ?_)
  exact w1_settleApart_27 C hq1 _ _ _ _ _ _ _ h P (lv_sub hl [2, 3, 1, 0] rfl)
theorem w6_commonDivisor_9 (C : zCx p s m args meth c cX6_commonDivisor 11 RX6 (some .long) D ad cA A) {z : Int64} {S : Zs} :
    ∀ (n : Nat) (x4 : Int64) (x6 : Int64) (x8 : Int32) (H : Heap) (locs : List Loc) (ls : Array Slot), f6_commonDivisor_9 n x4 x6 x8 = some z → zP D zC ad cA A S s H locs → lv_has ls 11 [(4, .long x4), (6, .long x6), (8, .int x8)] → W p l e (zrm 0 0) s m args below meth c H locs 0 0 (MQ below (zQl D zC ad cA A (z, S)) args s 0 0 A) (F0 m 9 ls []) := by
  have hx := C.1
  have hb := C.2.1
  intro n
  induction n with
  | zero =>
    intro x4 x6 x8 H locs ls h
    cases h
  | succ n ih =>
    intro x4 x6 x8 H locs ls h P hl
    unfold f6_commonDivisor_9 at h
    refine lv_iload hx hb dX6_commonDivisor_9 (lv_at hl 2 rfl) ?_
    refine lv_sipush (v := 200) hx hb dX6_commonDivisor_11 (by decide) ?_
    refine z_icmp_ge (tgt := 45) hx hb dX6_commonDivisor_14 (by decide) h (fun h => ?_) (fun h => ?_)
    · refine lv_lload hx hb dX6_commonDivisor_45 (lv_at hl 0 rfl) ?_
      exact z_lret C P (by rw [Option.some.inj h]) dX6_commonDivisor_47
    · refine lv_lload hx hb dX6_commonDivisor_17 (lv_at hl 1 rfl) ?_
      refine lv_lconst (v := 0) hx hb dX6_commonDivisor_19 (by decide) ?_
      refine z_lcmp_eq (tgt := 45) hx hb dX6_commonDivisor_20 dX6_commonDivisor_21 (by decide) h (fun h => ?_) (fun h => ?_)
      · refine lv_lload hx hb dX6_commonDivisor_45 (lv_at hl 0 rfl) ?_
        exact z_lret C P (by rw [Option.some.inj h]) dX6_commonDivisor_47
      · refine lv_lload hx hb dX6_commonDivisor_24 (lv_at hl 0 rfl) ?_
        refine lv_lload hx hb dX6_commonDivisor_26 (lv_at hl 1 rfl) ?_
        refine z_lrem hx hb dX6_commonDivisor_28 h (fun h => ?_)
        refine z_topl h (fun v29 h => ?_)
        refine lv_lstore (lv' := [(9, .long v29), (4, .long x4), (6, .long x6), (8, .int x8)]) hx hb dX6_commonDivisor_29 hl (by decide) rfl (fun ls hl => ?_)
        refine lv_lload hx hb dX6_commonDivisor_31 (lv_at hl 2 rfl) ?_
        refine lv_lstore (lv' := [(4, .long x6), (9, .long v29), (6, .long x6), (8, .int x8)]) hx hb dX6_commonDivisor_33 hl (by decide) rfl (fun ls hl => ?_)
        refine lv_lload hx hb dX6_commonDivisor_35 (lv_at hl 1 rfl) ?_
        refine lv_lstore (lv' := [(6, .long v29), (4, .long x6), (9, .long v29), (8, .int x8)]) hx hb dX6_commonDivisor_37 hl (by decide) rfl (fun ls hl => ?_)
        obtain ⟨v39, ev39, h⟩ := z_nm h
        refine lv_iinc (v := v39) (lv' := [(8, .int v39), (6, .long v29), (4, .long x6), (9, .long v29)]) hx hb dX6_commonDivisor_39 hl (k := 3) rfl (by rw [ev39]; rfl) (by decide) rfl (fun ls hl => ?_)
        refine lv_goto (tgt := 9) hx hb dX6_commonDivisor_42 (by decide) ?_
        exact ih _ _ _ _ _ _ h P (lv_sub hl [2, 1, 0] rfl)
theorem m6_commonDivisor {l : Launch} {D : va_G} {cA : Nat → ClassId} {ad : Nat → Nat} {x0 : Int64} {x2 : Int64} {S : Zs} {z : Int64} (h : f6_commonDivisor x0 x2 = some z) :
    zMl l yX6_commonDivisor cX6_commonDivisor 11 0 0 D zC ad cA S [.long x0, .long x2] (z, S) := by
  refine z_enter (Qc := fun A => zQl D zC ad cA A (z, S)) (by decide +kernel) (Nat.le_of_ble_eq_true rfl) (fun p e s m below meth c A C P ls hl => ?_)
  have hx := C.1
  have hb := C.2.1
  have hl : lv_has ls 11 [(0, .long x0), (2, .long x2)] := hl
  unfold f6_commonDivisor at h
  refine lv_lload_n hx hb dX6_commonDivisor_0 rfl (lv_at hl 0 rfl) ?_
  refine lv_lstore (lv' := [(4, .long x0), (0, .long x0), (2, .long x2)]) hx hb dX6_commonDivisor_1 hl (by decide) rfl (fun ls hl => ?_)
  refine lv_lload_n hx hb dX6_commonDivisor_3 rfl (lv_at hl 2 rfl) ?_
  refine lv_lstore (lv' := [(6, .long x2), (4, .long x0), (0, .long x0), (2, .long x2)]) hx hb dX6_commonDivisor_4 hl (by decide) rfl (fun ls hl => ?_)
  refine lv_iconst (v := 0) hx hb dX6_commonDivisor_6 (by decide) ?_
  refine lv_istore (lv' := [(8, .int (0 : Int32)), (6, .long x2), (4, .long x0), (0, .long x0), (2, .long x2)]) hx hb dX6_commonDivisor_7 hl (by decide) rfl (fun ls hl => ?_)
  exact w6_commonDivisor_9 C _ _ _ _ _ _ _ h P (lv_sub hl [2, 1, 0] rfl)
theorem w1_shorten_31 (C : zCx p s m args meth c cX1_shorten 4 RX1 none D ad cA A) {q0 : Nat} (hq0 : zW q0) {z : Zs} :
    ∀ (n : Nat) (x1 : Int64) (x3 : Int32) (S : Zs) (H : Heap) (locs : List Loc) (ls : Array Slot), f1_shorten_31 q0 n x1 x3 S = some z → zP D zC ad cA A S s H locs → lv_has ls 4 [(0, .ref (ad q0)), (1, .long x1), (3, .int x3)] → W p l e (zrm 1 30) s m args below meth c H locs 0 0 (MQ below (zQv D zC ad cA A z) args s 0 0 A) (F0 m 31 ls []) := by
  have hx := C.1
  have hb := C.2.1
  intro n
  induction n with
  | zero =>
    intro x1 x3 S H locs ls h
    cases h
  | succ n ih =>
    intro x1 x3 S H locs ls h P hl
    unfold f1_shorten_31 at h
    refine lv_iload_n hx hb dX1_shorten_31 rfl (lv_at hl 2 rfl) ?_
    refine lv_aload_n hx hb dX1_shorten_32 rfl (lv_at hl 0 rfl) ?_
    refine gF1_26 C P hq0.1 rfl dX1_shorten_33 ?_
    refine z_icmp_ge (tgt := 61) hx hb dX1_shorten_36 (by decide) h (fun h => ?_) (fun h => ?_)
    · exact z_vret C P (Option.some.inj h) dX1_shorten_61
    · refine lv_lload_n hx hb dX1_shorten_39 rfl (lv_at hl 1 rfl) ?_
      refine lv_lconst (v := 1) hx hb dX1_shorten_40 (by decide) ?_
      refine z_lcmp_le (tgt := 61) hx hb dX1_shorten_41 dX1_shorten_42 (by decide) h (fun h => ?_) (fun h => ?_)
      · exact z_vret C P (Option.some.inj h) dX1_shorten_61
      · refine lv_aload_n hx hb dX1_shorten_45 rfl (lv_at hl 0 rfl) ?_
        refine gF1_32 C P hq0.1 rfl dX1_shorten_46 ?_
        refine lv_iload_n hx hb dX1_shorten_49 rfl (lv_at hl 2 rfl) ?_
        refine lv_dup2_11 hx hb dX1_shorten_50 rfl rfl ?_
        refine z_lald C P hq0.2.2.2.2.2.1 dX1_shorten_51 h (fun h hi => ?_)
        refine lv_lload_n hx hb dX1_shorten_52 rfl (lv_at hl 1 rfl) ?_
        refine z_ldiv hx hb dX1_shorten_53 h (fun h => ?_)
        refine z_last C P hq0.2.2.2.2.2.1 dX1_shorten_54 h (fun S54 H locs h P => ?_)
        obtain ⟨v55, ev55, h⟩ := z_nm h
        refine lv_iinc (v := v55) (lv' := [(3, .int v55), (0, .ref (ad q0)), (1, .long x1)]) hx hb dX1_shorten_55 hl (k := 2) rfl (by rw [ev55]; rfl) (by decide) rfl (fun ls hl => ?_)
        refine lv_goto (tgt := 31) hx hb dX1_shorten_58 (by decide) ?_
        exact ih _ _ _ _ _ _ h P (lv_sub hl [1, 2, 0] rfl)
theorem w1_shorten_4 (C : zCx p s m args meth c cX1_shorten 4 RX1 none D ad cA A) {q0 : Nat} (hq0 : zW q0) {z : Zs} :
    ∀ (n : Nat) (x1 : Int64) (x3 : Int32) (S : Zs) (H : Heap) (locs : List Loc) (ls : Array Slot), f1_shorten_4 q0 n x1 x3 S = some z → zP D zC ad cA A S s H locs → lv_has ls 4 [(0, .ref (ad q0)), (1, .long x1), (3, .int x3)] → W p l e (zrm 1 30) s m args below meth c H locs 0 0 (MQ below (zQv D zC ad cA A z) args s 0 0 A) (F0 m 4 ls []) := by
  have hx := C.1
  have hb := C.2.1
  intro n
  induction n with
  | zero =>
    intro x1 x3 S H locs ls h
    cases h
  | succ n ih =>
    intro x1 x3 S H locs ls h P hl
    unfold f1_shorten_4 at h
    refine lv_iload_n hx hb dX1_shorten_4 rfl (lv_at hl 2 rfl) ?_
    refine lv_aload_n hx hb dX1_shorten_5 rfl (lv_at hl 0 rfl) ?_
    refine gF1_26 C P hq0.1 rfl dX1_shorten_6 ?_
    refine z_icmp_ge (tgt := 29) hx hb dX1_shorten_9 (by decide) h (fun h => ?_) (fun h => ?_)
    · refine lv_iconst (v := 0) hx hb dX1_shorten_29 (by decide) ?_
      refine lv_istore_n (lv' := [(3, .int (0 : Int32)), (0, .ref (ad q0)), (1, .long x1)]) hx hb dX1_shorten_30 rfl hl (by decide) rfl (fun ls hl => ?_)
      exact w1_shorten_31 C hq0 _ _ _ _ _ _ _ h P (lv_sub hl [1, 2, 0] rfl)
    · refine lv_aload_n hx hb dX1_shorten_12 rfl (lv_at hl 0 rfl) ?_
      refine gF1_32 C P hq0.1 rfl dX1_shorten_13 ?_
      refine lv_iload_n hx hb dX1_shorten_16 rfl (lv_at hl 2 rfl) ?_
      refine z_lald C P hq0.2.2.2.2.2.1 dX1_shorten_17 h (fun h hi => ?_)
      refine lv_lload_n hx hb dX1_shorten_18 rfl (lv_at hl 1 rfl) ?_
      obtain ⟨r19, g19, h⟩ := bd1_some h
      refine z_callNl C P (bytes := cX6_commonDivisor) (maxL := 11) (As := [.long (S.2 (q0 + 7) x3.toNatClampNeg), .long x1]) (m6_commonDivisor g19) (by decide) rfl hl.1 rfl (Nat.le_of_ble_eq_true rfl) dX1_shorten_19 ⟨Nat.zero_le _, Nat.zero_le _⟩ (fun H locs P => ?_)
      refine lv_lstore_n (lv' := [(1, .long r19), (0, .ref (ad q0)), (3, .int x3)]) hx hb dX1_shorten_22 rfl hl (by decide) rfl (fun ls hl => ?_)
      obtain ⟨v23, ev23, h⟩ := z_nm h
      refine lv_iinc (v := v23) (lv' := [(3, .int v23), (1, .long r19), (0, .ref (ad q0))]) hx hb dX1_shorten_23 hl (k := 2) rfl (by rw [ev23]; rfl) (by decide) rfl (fun ls hl => ?_)
      refine lv_goto (tgt := 4) hx hb dX1_shorten_26 (by decide) ?_
      exact ih _ _ _ _ _ _ h P (lv_sub hl [2, 1, 0] rfl)
theorem m1_shorten {l : Launch} {D : va_G} {cA : Nat → ClassId} {ad : Nat → Nat} {q0 : Nat} (hq0 : zW q0) {S : Zs} {z : Zs} (h : f1_shorten q0 S = some z) :
    zMv l yX1_shorten cX1_shorten 4 1 30 D zC ad cA S [.ref (ad q0)] z := by
  refine z_enter (Qc := fun A => zQv D zC ad cA A z) (by decide +kernel) (Nat.le_of_ble_eq_true rfl) (fun p e s m below meth c A C P ls hl => ?_)
  have hx := C.1
  have hb := C.2.1
  have hl : lv_has ls 4 [(0, .ref (ad q0))] := hl
  unfold f1_shorten at h
  refine lv_lconst (v := 0) hx hb dX1_shorten_0 (by decide) ?_
  refine lv_lstore_n (lv' := [(1, .long (0 : Int64)), (0, .ref (ad q0))]) hx hb dX1_shorten_1 rfl hl (by decide) rfl (fun ls hl => ?_)
  refine lv_iconst (v := 0) hx hb dX1_shorten_2 (by decide) ?_
  refine lv_istore_n (lv' := [(3, .int (0 : Int32)), (1, .long (0 : Int64)), (0, .ref (ad q0))]) hx hb dX1_shorten_3 rfl hl (by decide) rfl (fun ls hl => ?_)
  exact w1_shorten_4 C hq0 _ _ _ _ _ _ _ h P (lv_sub hl [2, 1, 0] rfl)
theorem w1_settle_126 (C : zCx p s m args meth c cX1_settle 2 RX1 none D ad cA A) {q1 : Nat} (hq1 : zW q1) {z : Zs} (S : Zs) (H : Heap) (locs : List Loc) (ls : Array Slot) (h : f1_settle_126 q1 S = some z) (P : zP D zC ad cA A S s H locs) (hl : lv_has ls 2 [(0, .ref (ad 17)), (1, .ref (ad q1))]) :
    W p l e (zrm 4 110) s m args below meth c H locs 0 0 (MQ below (zQv D zC ad cA A z) args s 0 0 A) (F0 m 126 ls []) := by
  have hx := C.1
  have hb := C.2.1
  unfold f1_settle_126 at h
  refine lv_aload_n hx hb dX1_settle_126 rfl (lv_at hl 1 rfl) ?_
  obtain ⟨S127, g127, h⟩ := bd1_some h
  refine z_callSv C P (As := [.ref (ad q1)]) (m1_shorten hq1 g127) cW1_64 rfl (by decide) hl.1 rfl (Nat.le_of_ble_eq_true rfl) dX1_settle_127 ⟨Nat.zero_le _, Nat.zero_le _⟩ (fun H locs P => ?_)
  exact z_vret C P (Option.some.inj h) dX1_settle_130
theorem m1_settle {l : Launch} {D : va_G} {cA : Nat → ClassId} {ad : Nat → Nat} {q1 : Nat} (hq1 : zW q1) {S : Zs} {z : Zs} (h : f1_settle q1 S = some z) :
    zMv l yX1_settle cX1_settle 2 4 110 D zC ad cA S [.ref (ad 17), .ref (ad q1)] z := by
  refine z_enter (Qc := fun A => zQv D zC ad cA A z) (by decide +kernel) (Nat.le_of_ble_eq_true rfl) (fun p e s m below meth c A C P ls hl => ?_)
  have hx := C.1
  have hb := C.2.1
  have hl : lv_has ls 2 [(0, .ref (ad 17)), (1, .ref (ad q1))] := hl
  unfold f1_settle at h
  refine lv_aload_n hx hb dX1_settle_0 rfl (lv_at hl 1 rfl) ?_
  refine gF1_26 C P hq1.1 rfl dX1_settle_1 ?_
  refine lv_iconst (v := 1) hx hb dX1_settle_4 (by decide) ?_
  refine z_icmp_ne (tgt := 18) hx hb dX1_settle_5 (by decide) h (fun h => ?_) (fun h => ?_)
  · refine lv_aload_n hx hb dX1_settle_18 rfl (lv_at hl 1 rfl) ?_
    refine gF1_26 C P hq1.1 rfl dX1_settle_19 ?_
    refine lv_iconst (v := 2) hx hb dX1_settle_22 (by decide) ?_
    refine z_icmp_ne (tgt := 79) hx hb dX1_settle_23 (by decide) h (fun h => ?_) (fun h => ?_)
    · refine lv_aload_n hx hb dX1_settle_79 rfl (lv_at hl 1 rfl) ?_
      refine gF1_26 C P hq1.1 rfl dX1_settle_80 ?_
      refine lv_iconst (v := 3) hx hb dX1_settle_83 (by decide) ?_
      refine z_icmp_ne (tgt := 126) hx hb dX1_settle_84 (by decide) h (fun h => ?_) (fun h => ?_)
      · exact w1_settle_126 C hq1 _ _ _ _ h P (lv_sub hl [0, 1] rfl)
      · refine lv_aload_n hx hb dX1_settle_87 rfl (lv_at hl 0 rfl) ?_
        obtain ⟨S88, g88, h⟩ := bd1_some h
        refine z_callVv C P (As := []) (m1_clearWins g88) cW1_53 rfl zs17 rfl (by decide) hl.1 rfl (Nat.le_of_ble_eq_true rfl) dX1_settle_88 ⟨Nat.zero_le _, Nat.zero_le _⟩ (fun H locs P => ?_)
        refine lv_aload_n hx hb dX1_settle_91 rfl (lv_at hl 0 rfl) ?_
        refine lv_aload_n hx hb dX1_settle_92 rfl (lv_at hl 1 rfl) ?_
        refine lv_iconst (v := 0) hx hb dX1_settle_93 (by decide) ?_
        refine lv_iconst (v := 1) hx hb dX1_settle_94 (by decide) ?_
        obtain ⟨r95, S95, g95, h⟩ := bd2_some h
        refine z_callVb C P (As := [.ref (ad q1), .int (0 : Int32), .int (1 : Int32)]) (m1_findTied hq1 g95) cW1_56 rfl zs17 rfl (by decide) hl.1 rfl (Nat.le_of_ble_eq_true rfl) dX1_settle_95 ⟨Nat.zero_le _, Nat.zero_le _⟩ (fun H locs n95 P => ?_)
        refine z_if_ne (tgt := 126) hx hb dX1_settle_98 (by decide) h (fun h => ?_) (fun h => ?_)
        · exact w1_settle_126 C hq1 _ _ _ _ h P (lv_sub hl [0, 1] rfl)
        · refine lv_aload_n hx hb dX1_settle_101 rfl (lv_at hl 0 rfl) ?_
          refine lv_aload_n hx hb dX1_settle_102 rfl (lv_at hl 1 rfl) ?_
          refine lv_iconst (v := 0) hx hb dX1_settle_103 (by decide) ?_
          refine lv_iconst (v := 2) hx hb dX1_settle_104 (by decide) ?_
          obtain ⟨r105, S105, g105, h⟩ := bd2_some h
          refine z_callVb C P (As := [.ref (ad q1), .int (0 : Int32), .int (2 : Int32)]) (m1_findTied hq1 g105) cW1_56 rfl zs17 rfl (by decide) hl.1 rfl (Nat.le_of_ble_eq_true rfl) dX1_settle_105 ⟨Nat.zero_le _, Nat.zero_le _⟩ (fun H locs n105 P => ?_)
          refine z_if_ne (tgt := 126) hx hb dX1_settle_108 (by decide) h (fun h => ?_) (fun h => ?_)
          · exact w1_settle_126 C hq1 _ _ _ _ h P (lv_sub hl [0, 1] rfl)
          · refine lv_aload_n hx hb dX1_settle_111 rfl (lv_at hl 0 rfl) ?_
            refine lv_aload_n hx hb dX1_settle_112 rfl (lv_at hl 1 rfl) ?_
            refine lv_iconst (v := 1) hx hb dX1_settle_113 (by decide) ?_
            refine lv_iconst (v := 2) hx hb dX1_settle_114 (by decide) ?_
            obtain ⟨r115, S115, g115, h⟩ := bd2_some h
            refine z_callVb C P (As := [.ref (ad q1), .int (1 : Int32), .int (2 : Int32)]) (m1_findTied hq1 g115) cW1_56 rfl zs17 rfl (by decide) hl.1 rfl (Nat.le_of_ble_eq_true rfl) dX1_settle_115 ⟨Nat.zero_le _, Nat.zero_le _⟩ (fun H locs n115 P => ?_)
            refine z_if_ne (tgt := 126) hx hb dX1_settle_118 (by decide) h (fun h => ?_) (fun h => ?_)
            · exact w1_settle_126 C hq1 _ _ _ _ h P (lv_sub hl [0, 1] rfl)
            · refine lv_aload_n hx hb dX1_settle_121 rfl (lv_at hl 0 rfl) ?_
              refine lv_aload_n hx hb dX1_settle_122 rfl (lv_at hl 1 rfl) ?_
              obtain ⟨S123, g123, h⟩ := bd1_some h
              refine z_callVv C P (As := [.ref (ad q1)]) (m1_settleApart hq1 g123) cW1_60 rfl zs17 rfl (by decide) hl.1 rfl (Nat.le_of_ble_eq_true rfl) dX1_settle_123 ⟨Nat.zero_le _, Nat.zero_le _⟩ (fun H locs P => ?_)
              exact w1_settle_126 C hq1 _ _ _ _ h P (lv_sub hl [0, 1] rfl)
    · refine lv_aload_n hx hb dX1_settle_26 rfl (lv_at hl 0 rfl) ?_
      refine gF1_12 C P zs17 rfl dX1_settle_27 ?_
      refine lv_aload_n hx hb dX1_settle_30 rfl (lv_at hl 1 rfl) ?_
      refine lv_iconst (v := 0) hx hb dX1_settle_31 (by decide) ?_
      refine lv_iconst (v := 1) hx hb dX1_settle_32 (by decide) ?_
      obtain ⟨S33, g33, h⟩ := bd1_some h
      refine z_callVv C P (As := [.ref (ad q1), .int (0 : Int32), .int (1 : Int32)]) (m0_layTwo zPr_18 hq1 g33) cW1_36 rfl zPr_18.1 rfl (by decide) hl.1 rfl (Nat.le_of_ble_eq_true rfl) dX1_settle_33 ⟨Nat.zero_le _, Nat.zero_le _⟩ (fun H locs P => ?_)
      refine lv_aload_n hx hb dX1_settle_36 rfl (lv_at hl 0 rfl) ?_
      refine gF1_12 C P zs17 rfl dX1_settle_37 ?_
      obtain ⟨S40, g40, h⟩ := bd1_some h
      refine z_callVv C P (As := []) (m0_sort zPr_18 g40) cW1_40 rfl zPr_18.1 rfl (by decide) hl.1 rfl (Nat.le_of_ble_eq_true rfl) dX1_settle_40 ⟨Nat.zero_le _, Nat.zero_le _⟩ (fun H locs P => ?_)
      refine lv_aload_n hx hb dX1_settle_43 rfl (lv_at hl 0 rfl) ?_
      refine gF1_12 C P zs17 rfl dX1_settle_44 ?_
      obtain ⟨S47, g47, h⟩ := bd1_some h
      refine z_callVv C P (As := []) (m0_settleTwo zPr_18 g47) cW1_43 rfl zPr_18.1 rfl (by decide) hl.1 rfl (Nat.le_of_ble_eq_true rfl) dX1_settle_47 ⟨Nat.zero_le _, Nat.zero_le _⟩ (fun H locs P => ?_)
      refine lv_aload_n hx hb dX1_settle_50 rfl (lv_at hl 1 rfl) ?_
      refine gF1_32 C P hq1.1 rfl dX1_settle_51 ?_
      refine lv_iconst (v := 0) hx hb dX1_settle_54 (by decide) ?_
      refine lv_aload_n hx hb dX1_settle_55 rfl (lv_at hl 0 rfl) ?_
      refine gF1_12 C P zs17 rfl dX1_settle_56 ?_
      refine gF1_46 C P zPr_18.1 rfl dX1_settle_59 ?_
      refine z_last C P hq1.2.2.2.2.2.1 dX1_settle_62 h (fun S62 H locs h P => ?_)
      refine lv_aload_n hx hb dX1_settle_63 rfl (lv_at hl 1 rfl) ?_
      refine gF1_32 C P hq1.1 rfl dX1_settle_64 ?_
      refine lv_iconst (v := 1) hx hb dX1_settle_67 (by decide) ?_
      refine lv_aload_n hx hb dX1_settle_68 rfl (lv_at hl 0 rfl) ?_
      refine gF1_12 C P zs17 rfl dX1_settle_69 ?_
      refine gF1_50 C P zPr_18.1 rfl dX1_settle_72 ?_
      refine z_last C P hq1.2.2.2.2.2.1 dX1_settle_75 h (fun S75 H locs h P => ?_)
      refine lv_goto (tgt := 126) hx hb dX1_settle_76 (by decide) ?_
      exact w1_settle_126 C hq1 _ _ _ _ h P (lv_sub hl [0, 1] rfl)
  · refine lv_aload_n hx hb dX1_settle_8 rfl (lv_at hl 1 rfl) ?_
    refine gF1_32 C P hq1.1 rfl dX1_settle_9 ?_
    refine lv_iconst (v := 0) hx hb dX1_settle_12 (by decide) ?_
    refine lv_lconst (v := 1) hx hb dX1_settle_13 (by decide) ?_
    refine z_last C P hq1.2.2.2.2.2.1 dX1_settle_14 h (fun S14 H locs h P => ?_)
    refine lv_goto (tgt := 126) hx hb dX1_settle_15 (by decide) ?_
    exact w1_settle_126 C hq1 _ _ _ _ h P (lv_sub hl [0, 1] rfl)
theorem w5_take_61 (C : zCx p s m args meth c cX5_take 3 RX5 none D ad cA A) {o : Nat} (ho : zW o) {q1 : Nat} (hq1 : zW q1) {z : Zs} :
    ∀ (n : Nat) (x2 : Int32) (S : Zs) (H : Heap) (locs : List Loc) (ls : Array Slot), f5_take_61 o q1 n x2 S = some z → zP D zC ad cA A S s H locs → lv_has ls 3 [(0, .ref (ad o)), (1, .ref (ad q1)), (2, .int x2)] → W p l e (zrm 1 68) s m args below meth c H locs 0 0 (MQ below (zQv D zC ad cA A z) args s 0 0 A) (F0 m 61 ls []) := by
  have hx := C.1
  have hb := C.2.1
  intro n
  induction n with
  | zero =>
    intro x2 S H locs ls h
    cases h
  | succ n ih =>
    intro x2 S H locs ls h P hl
    unfold f5_take_61 at h
    refine lv_iload_n hx hb dX5_take_61 rfl (lv_at hl 2 rfl) ?_
    refine lv_iconst (v := 3) hx hb dX5_take_62 (by decide) ?_
    refine z_icmp_ge (tgt := 91) hx hb dX5_take_63 (by decide) h (fun h => ?_) (fun h => ?_)
    · exact z_vret C P (Option.some.inj h) dX5_take_91
    · refine lv_aload_n hx hb dX5_take_66 rfl (lv_at hl 1 rfl) ?_
      refine gF5_27 C P hq1.1 rfl dX5_take_67 ?_
      refine lv_iload_n hx hb dX5_take_70 rfl (lv_at hl 2 rfl) ?_
      refine z_aald C P hq1.2.2.2.1 (zrs3 q1) hq1.2.2.2.2.1 dX5_take_71 h (fun h hg71 => ?_)
      refine lv_iconst (v := 0) hx hb dX5_take_72 (by decide) ?_
      refine lv_aload_n hx hb dX5_take_73 rfl (lv_at hl 0 rfl) ?_
      refine gF5_27 C P ho.1 rfl dX5_take_74 ?_
      refine lv_iload_n hx hb dX5_take_77 rfl (lv_at hl 2 rfl) ?_
      refine z_aald C P ho.2.2.2.1 (zrs3 o) ho.2.2.2.2.1 dX5_take_78 h (fun h hg78 => ?_)
      refine lv_iconst (v := 0) hx hb dX5_take_79 (by decide) ?_
      refine lv_bipush (v := 6) hx hb dX5_take_80 (by decide) ?_
      refine z_acpI C P zacp5_37 hg71 hg78 (by decide) hl.1 (Nat.le_of_ble_eq_true rfl) dX5_take_82 h (fun S82 H locs h P => ?_)
      obtain ⟨v85, ev85, h⟩ := z_nm h
      refine lv_iinc (v := v85) (lv' := [(2, .int v85), (0, .ref (ad o)), (1, .ref (ad q1))]) hx hb dX5_take_85 hl (k := 2) rfl (by rw [ev85]; rfl) (by decide) rfl (fun ls hl => ?_)
      refine lv_goto (tgt := 61) hx hb dX5_take_88 (by decide) ?_
      exact ih _ _ _ _ _ h P (lv_sub hl [1, 2, 0] rfl)
theorem m5_take {l : Launch} {D : va_G} {cA : Nat → ClassId} {ad : Nat → Nat} {o : Nat} (ho : zW o) {q1 : Nat} (hq1 : zW q1) {S : Zs} {z : Zs} (h : f5_take o q1 S = some z) :
    zMv l yX5_take cX5_take 3 1 68 D zC ad cA S [.ref (ad o), .ref (ad q1)] z := by
  refine z_enter (Qc := fun A => zQv D zC ad cA A z) (by decide +kernel) (Nat.le_of_ble_eq_true rfl) (fun p e s m below meth c A C P ls hl => ?_)
  have hx := C.1
  have hb := C.2.1
  have hl : lv_has ls 3 [(0, .ref (ad o)), (1, .ref (ad q1))] := hl
  unfold f5_take at h
  refine lv_aload_n hx hb dX5_take_0 rfl (lv_at hl 0 rfl) ?_
  refine lv_aload_n hx hb dX5_take_1 rfl (lv_at hl 1 rfl) ?_
  refine gF5_9 C P hq1.1 rfl dX5_take_2 ?_
  refine pF5_9 C P ho.1 rfl dX5_take_5 h (fun S5 H locs h P => ?_)
  refine lv_aload_n hx hb dX5_take_8 rfl (lv_at hl 0 rfl) ?_
  refine lv_aload_n hx hb dX5_take_9 rfl (lv_at hl 1 rfl) ?_
  refine gF5_15 C P hq1.1 rfl dX5_take_10 ?_
  refine pF5_15 C P ho.1 rfl dX5_take_13 h (fun S13 H locs h P => ?_)
  refine lv_aload_n hx hb dX5_take_16 rfl (lv_at hl 1 rfl) ?_
  refine gF5_18 C P hq1.1 rfl dX5_take_17 ?_
  refine lv_iconst (v := 0) hx hb dX5_take_20 (by decide) ?_
  refine lv_aload_n hx hb dX5_take_21 rfl (lv_at hl 0 rfl) ?_
  refine gF5_18 C P ho.1 rfl dX5_take_22 ?_
  refine lv_iconst (v := 0) hx hb dX5_take_25 (by decide) ?_
  refine lv_bipush (v := 6) hx hb dX5_take_26 (by decide) ?_
  refine z_acpI C P zacp5_37 hq1.2.1 ho.2.1 (by decide) hl.1 (Nat.le_of_ble_eq_true rfl) dX5_take_28 h (fun S28 H locs h P => ?_)
  refine lv_aload_n hx hb dX5_take_31 rfl (lv_at hl 1 rfl) ?_
  refine gF5_22 C P hq1.1 rfl dX5_take_32 ?_
  refine lv_iconst (v := 0) hx hb dX5_take_35 (by decide) ?_
  refine lv_aload_n hx hb dX5_take_36 rfl (lv_at hl 0 rfl) ?_
  refine gF5_22 C P ho.1 rfl dX5_take_37 ?_
  refine lv_iconst (v := 0) hx hb dX5_take_40 (by decide) ?_
  refine lv_iconst (v := 3) hx hb dX5_take_41 (by decide) ?_
  refine z_acpI C P zacp5_37 hq1.2.2.1 ho.2.2.1 (by decide) hl.1 (Nat.le_of_ble_eq_true rfl) dX5_take_42 h (fun S42 H locs h P => ?_)
  refine lv_aload_n hx hb dX5_take_45 rfl (lv_at hl 1 rfl) ?_
  refine gF5_30 C P hq1.1 rfl dX5_take_46 ?_
  refine lv_iconst (v := 0) hx hb dX5_take_49 (by decide) ?_
  refine lv_aload_n hx hb dX5_take_50 rfl (lv_at hl 0 rfl) ?_
  refine gF5_30 C P ho.1 rfl dX5_take_51 ?_
  refine lv_iconst (v := 0) hx hb dX5_take_54 (by decide) ?_
  refine lv_iconst (v := 3) hx hb dX5_take_55 (by decide) ?_
  refine z_acpL C P zacp5_37 hq1.2.2.2.2.2.1 ho.2.2.2.2.2.1 (by decide) hl.1 (Nat.le_of_ble_eq_true rfl) dX5_take_56 h (fun S56 H locs h P => ?_)
  refine lv_iconst (v := 0) hx hb dX5_take_59 (by decide) ?_
  refine lv_istore_n (lv' := [(2, .int (0 : Int32)), (0, .ref (ad o)), (1, .ref (ad q1))]) hx hb dX5_take_60 rfl hl (by decide) rfl (fun ls hl => ?_)
  exact w5_take_61 C ho hq1 _ _ _ _ _ _ h P (lv_sub hl [1, 2, 0] rfl)
end ZVC3
