section ZVM5
variable {p : Program} {l : Launch} {e : Env} {s : State} {m : MethodId} {args : Array Value} {below : List Frame} {meth : Method} {c : Code} {D : va_G} {cA : Nat → ClassId} {A : Nat → Prop} {ad : Nat → Nat}
theorem w7_chain_195 (C : zCx p s m args meth c cX7_chain 9 RX7 (some .long) D ad cA A) {z : Int64 × Zs} {k144 : Int32 → Int32 → Int32 → Int32 → Zs → Option (Int64 × Zs)} (hk144 : ∀ (x1 : Int32) (x2 : Int32) (x3 : Int32) (x4 : Int32) (S : Zs) (H : Heap) (locs : List Loc) (ls : Array Slot), k144 x1 x2 x3 x4 S = some z → zP D zM ad cA A S s H locs → lv_has ls 9 [(0, .ref (ad 0)), (1, .int x1), (2, .int x2), (3, .int x3), (4, .int x4)] → W p l e (zrm 8 201) s m args below meth c H locs 0 0 (MQ below (zQl D zM ad cA A z) args s 0 0 A) (F0 m 144 ls [])) {k159 : Int32 → Int32 → Int32 → Int32 → Int32 → Int32 → Zs → Option (Int64 × Zs)} (hk159 : ∀ (x1 : Int32) (x2 : Int32) (x3 : Int32) (x4 : Int32) (x5 : Int32) (x6 : Int32) (S : Zs) (H : Heap) (locs : List Loc) (ls : Array Slot), k159 x1 x2 x3 x4 x5 x6 S = some z → zP D zM ad cA A S s H locs → lv_has ls 9 [(0, .ref (ad 0)), (1, .int x1), (2, .int x2), (3, .int x3), (4, .int x4), (5, .int x5), (6, .int x6)] → W p l e (zrm 8 201) s m args below meth c H locs 0 0 (MQ below (zQl D zM ad cA A z) args s 0 0 A) (F0 m 159 ls [])) (x1 : Int32) (x2 : Int32) (x3 : Int32) (x4 : Int32) (x6 : Int32) (t0 : Int32) (t1 : Int32) (S : Zs) (H : Heap) (locs : List Loc) (ls : Array Slot) (h : f7_chain_195 k144 k159 x1 x2 x3 x4 x6 t0 t1 S = some z) (P : zP D zM ad cA A S s H locs) (hl : lv_has ls 9 [(0, .ref (ad 0)), (1, .int x1), (2, .int x2), (3, .int x3), (4, .int x4), (6, .int x6)]) :
    W p l e (zrm 8 201) s m args below meth c H locs 0 0 (MQ below (zQl D zM ad cA A z) args s 0 0 A) (F0 m 195 ls [.int t0, .int t1]) := by
  have hx := C.1
  have hb := C.2.1
  unfold f7_chain_195 at h
  refine lv_iadd hx hb dX7_chain_195 ?_
  refine z_topi h (fun v196 h => ?_)
  refine lv_istore (lv' := [(5, .int v196), (0, .ref (ad 0)), (1, .int x1), (2, .int x2), (3, .int x3), (4, .int x4), (6, .int x6)]) hx hb dX7_chain_196 hl (by decide) rfl (fun ls hl => ?_)
  obtain ⟨v198, ev198, h⟩ := z_nm h
  refine lv_iinc (v := v198) (lv' := [(6, .int v198), (5, .int v196), (0, .ref (ad 0)), (1, .int x1), (2, .int x2), (3, .int x3), (4, .int x4)]) hx hb dX7_chain_198 hl (k := 6) rfl (by rw [ev198]; rfl) (by decide) rfl (fun ls hl => ?_)
  refine lv_goto (tgt := 159) hx hb dX7_chain_201 (by decide) ?_
  exact hk159 _ _ _ _ _ _ _ _ _ _ h P (lv_sub hl [2, 3, 4, 5, 6, 1, 0] rfl)
theorem w7_chain_194 (C : zCx p s m args meth c cX7_chain 9 RX7 (some .long) D ad cA A) {z : Int64 × Zs} {k144 : Int32 → Int32 → Int32 → Int32 → Zs → Option (Int64 × Zs)} (hk144 : ∀ (x1 : Int32) (x2 : Int32) (x3 : Int32) (x4 : Int32) (S : Zs) (H : Heap) (locs : List Loc) (ls : Array Slot), k144 x1 x2 x3 x4 S = some z → zP D zM ad cA A S s H locs → lv_has ls 9 [(0, .ref (ad 0)), (1, .int x1), (2, .int x2), (3, .int x3), (4, .int x4)] → W p l e (zrm 8 201) s m args below meth c H locs 0 0 (MQ below (zQl D zM ad cA A z) args s 0 0 A) (F0 m 144 ls [])) {k159 : Int32 → Int32 → Int32 → Int32 → Int32 → Int32 → Zs → Option (Int64 × Zs)} (hk159 : ∀ (x1 : Int32) (x2 : Int32) (x3 : Int32) (x4 : Int32) (x5 : Int32) (x6 : Int32) (S : Zs) (H : Heap) (locs : List Loc) (ls : Array Slot), k159 x1 x2 x3 x4 x5 x6 S = some z → zP D zM ad cA A S s H locs → lv_has ls 9 [(0, .ref (ad 0)), (1, .int x1), (2, .int x2), (3, .int x3), (4, .int x4), (5, .int x5), (6, .int x6)] → W p l e (zrm 8 201) s m args below meth c H locs 0 0 (MQ below (zQl D zM ad cA A z) args s 0 0 A) (F0 m 159 ls [])) (x1 : Int32) (x2 : Int32) (x3 : Int32) (x4 : Int32) (x6 : Int32) (t0 : Int32) (S : Zs) (H : Heap) (locs : List Loc) (ls : Array Slot) (h : f7_chain_194 k144 k159 x1 x2 x3 x4 x6 t0 S = some z) (P : zP D zM ad cA A S s H locs) (hl : lv_has ls 9 [(0, .ref (ad 0)), (1, .int x1), (2, .int x2), (3, .int x3), (4, .int x4), (6, .int x6)]) :
    W p l e (zrm 8 201) s m args below meth c H locs 0 0 (MQ below (zQl D zM ad cA A z) args s 0 0 A) (F0 m 194 ls [.int t0]) := by
  have hx := C.1
  have hb := C.2.1
  unfold f7_chain_194 at h
  refine lv_iconst (v := 0) hx hb dX7_chain_194 (by decide) ?_
  exact w7_chain_195 C hk144 hk159 _ _ _ _ _ _ _ _ _ _ _ h P (lv_sub hl [0, 1, 2, 3, 4, 5] rfl)
theorem w7_chain_159 (C : zCx p s m args meth c cX7_chain 9 RX7 (some .long) D ad cA A) {z : Int64 × Zs} {k144 : Int32 → Int32 → Int32 → Int32 → Zs → Option (Int64 × Zs)} (hk144 : ∀ (x1 : Int32) (x2 : Int32) (x3 : Int32) (x4 : Int32) (S : Zs) (H : Heap) (locs : List Loc) (ls : Array Slot), k144 x1 x2 x3 x4 S = some z → zP D zM ad cA A S s H locs → lv_has ls 9 [(0, .ref (ad 0)), (1, .int x1), (2, .int x2), (3, .int x3), (4, .int x4)] → W p l e (zrm 8 201) s m args below meth c H locs 0 0 (MQ below (zQl D zM ad cA A z) args s 0 0 A) (F0 m 144 ls [])) :
    ∀ (n : Nat) (x1 : Int32) (x2 : Int32) (x3 : Int32) (x4 : Int32) (x5 : Int32) (x6 : Int32) (S : Zs) (H : Heap) (locs : List Loc) (ls : Array Slot), f7_chain_159 k144 n x1 x2 x3 x4 x5 x6 S = some z → zP D zM ad cA A S s H locs → lv_has ls 9 [(0, .ref (ad 0)), (1, .int x1), (2, .int x2), (3, .int x3), (4, .int x4), (5, .int x5), (6, .int x6)] → W p l e (zrm 8 201) s m args below meth c H locs 0 0 (MQ below (zQl D zM ad cA A z) args s 0 0 A) (F0 m 159 ls []) := by
  have hx := C.1
  have hb := C.2.1
  intro n
  induction n with
  | zero =>
    intro x1 x2 x3 x4 x5 x6 S H locs ls h
    cases h
  | succ n ih =>
    intro x1 x2 x3 x4 x5 x6 S H locs ls h P hl
    unfold f7_chain_159 at h
    refine lv_iload hx hb dX7_chain_159 (lv_at hl 6 rfl) ?_
    refine lv_aload_n hx hb dX7_chain_161 rfl (lv_at hl 0 rfl) ?_
    refine gF7_179 C P zm0 rfl dX7_chain_162 ?_
    refine z_icmp_ge (tgt := 204) hx hb dX7_chain_165 (by decide) h (fun h => ?_) (fun h => ?_)
    · refine lv_iload hx hb dX7_chain_204 (lv_at hl 5 rfl) ?_
      refine lv_iload_n hx hb dX7_chain_206 rfl (lv_at hl 3 rfl) ?_
      refine z_icmp_ne (tgt := 214) hx hb dX7_chain_207 (by decide) h (fun h => ?_) (fun h => ?_)
      · obtain ⟨v214, ev214, h⟩ := z_nm h
        refine lv_iinc (v := v214) (lv' := [(4, .int v214), (0, .ref (ad 0)), (1, .int x1), (2, .int x2), (3, .int x3), (5, .int x5), (6, .int x6)]) hx hb dX7_chain_214 hl (k := 4) rfl (by rw [ev214]; rfl) (by decide) rfl (fun ls hl => ?_)
        refine lv_goto (tgt := 144) hx hb dX7_chain_217 (by decide) ?_
        exact hk144 _ _ _ _ _ _ _ _ h P (lv_sub hl [1, 2, 3, 4, 0] rfl)
      · refine lv_iload hx hb dX7_chain_210 (lv_at hl 4 rfl) ?_
        refine lv_i2l hx hb dX7_chain_212 rfl ?_
        exact z_lret C P (Option.some.inj h) dX7_chain_213
    · refine lv_iload hx hb dX7_chain_168 (lv_at hl 5 rfl) ?_
      refine lv_iload hx hb dX7_chain_170 (lv_at hl 6 rfl) ?_
      refine lv_iload hx hb dX7_chain_172 (lv_at hl 4 rfl) ?_
      refine z_icmp_eq (tgt := 194) hx hb dX7_chain_174 (by decide) h (fun h => ?_) (fun h => ?_)
      · exact w7_chain_194 C hk144 ih _ _ _ _ _ _ _ _ _ _ h P (lv_sub hl [0, 1, 2, 3, 4, 6] rfl)
      · refine lv_aload_n hx hb dX7_chain_177 rfl (lv_at hl 0 rfl) ?_
        refine lv_iload_n hx hb dX7_chain_178 rfl (lv_at hl 1 rfl) ?_
        refine lv_iload_n hx hb dX7_chain_179 rfl (lv_at hl 2 rfl) ?_
        refine lv_iload hx hb dX7_chain_180 (lv_at hl 6 rfl) ?_
        refine lv_iload hx hb dX7_chain_182 (lv_at hl 4 rfl) ?_
        obtain ⟨r184, g184, h⟩ := bd1_some h
        refine z_callVb C P (As := [.int x1, .int x2, .int x6, .int x4]) (m7_isAhead g184) cW7_269 rfl zm0 rfl (by decide) hl.1 rfl (Nat.le_of_ble_eq_true rfl) dX7_chain_184 ⟨Nat.zero_le _, Nat.zero_le _⟩ (fun H locs n184 P => ?_)
        refine z_if_eq (tgt := 194) hx hb dX7_chain_187 (by decide) h (fun h => ?_) (fun h => ?_)
        · exact w7_chain_194 C hk144 ih _ _ _ _ _ _ _ _ _ _ h P (lv_sub hl [0, 1, 2, 3, 4, 6] rfl)
        · refine lv_iconst (v := 1) hx hb dX7_chain_190 (by decide) ?_
          refine lv_goto (tgt := 195) hx hb dX7_chain_191 (by decide) ?_
          exact w7_chain_195 C hk144 ih _ _ _ _ _ _ _ _ _ _ _ h P (lv_sub hl [0, 1, 2, 3, 4, 6] rfl)
theorem w7_chain_144 (C : zCx p s m args meth c cX7_chain 9 RX7 (some .long) D ad cA A) {z : Int64 × Zs} :
    ∀ (n : Nat) (x1 : Int32) (x2 : Int32) (x3 : Int32) (x4 : Int32) (S : Zs) (H : Heap) (locs : List Loc) (ls : Array Slot), f7_chain_144 n x1 x2 x3 x4 S = some z → zP D zM ad cA A S s H locs → lv_has ls 9 [(0, .ref (ad 0)), (1, .int x1), (2, .int x2), (3, .int x3), (4, .int x4)] → W p l e (zrm 8 201) s m args below meth c H locs 0 0 (MQ below (zQl D zM ad cA A z) args s 0 0 A) (F0 m 144 ls []) := by
  have hx := C.1
  have hb := C.2.1
  intro n
  induction n with
  | zero =>
    intro x1 x2 x3 x4 S H locs ls h
    cases h
  | succ n ih =>
    intro x1 x2 x3 x4 S H locs ls h P hl
    unfold f7_chain_144 at h
    refine lv_iload hx hb dX7_chain_144 (lv_at hl 4 rfl) ?_
    refine lv_aload_n hx hb dX7_chain_146 rfl (lv_at hl 0 rfl) ?_
    refine gF7_179 C P zm0 rfl dX7_chain_147 ?_
    refine z_icmp_ge (tgt := 220) hx hb dX7_chain_150 (by decide) h (fun h => ?_) (fun h => ?_)
    · refine lv_ldc2 (v := (-1000000)) hx hb C.2.2.2.1 (C.2.2.2.2.1 _ kK7_272) dX7_chain_220 ?_
      exact z_lret C P (Option.some.inj h) dX7_chain_223
    · refine lv_iconst (v := 0) hx hb dX7_chain_153 (by decide) ?_
      refine lv_istore (lv' := [(5, .int (0 : Int32)), (0, .ref (ad 0)), (1, .int x1), (2, .int x2), (3, .int x3), (4, .int x4)]) hx hb dX7_chain_154 hl (by decide) rfl (fun ls hl => ?_)
      refine lv_iconst (v := 0) hx hb dX7_chain_156 (by decide) ?_
      refine lv_istore (lv' := [(6, .int (0 : Int32)), (5, .int (0 : Int32)), (0, .ref (ad 0)), (1, .int x1), (2, .int x2), (3, .int x3), (4, .int x4)]) hx hb dX7_chain_157 hl (by decide) rfl (fun ls hl => ?_)
      exact w7_chain_159 C ih _ _ _ _ _ _ _ _ _ _ _ h P (lv_sub hl [2, 3, 4, 5, 6, 1, 0] rfl)
theorem w7_chain_115 (C : zCx p s m args meth c cX7_chain 9 RX7 (some .long) D ad cA A) {z : Int64 × Zs} {k64 : Int32 → Int32 → Int32 → Int32 → Int32 → Zs → Option (Int64 × Zs)} (hk64 : ∀ (x1 : Int32) (x4 : Int32) (x5 : Int32) (x6 : Int32) (x7 : Int32) (S : Zs) (H : Heap) (locs : List Loc) (ls : Array Slot), k64 x1 x4 x5 x6 x7 S = some z → zP D zM ad cA A S s H locs → lv_has ls 9 [(0, .ref (ad 0)), (1, .int x1), (4, .int x4), (5, .int x5), (6, .int x6), (7, .int x7)] → W p l e (zrm 8 201) s m args below meth c H locs 0 0 (MQ below (zQl D zM ad cA A z) args s 0 0 A) (F0 m 64 ls [])) (x1 : Int32) (x4 : Int32) (x5 : Int32) (x7 : Int32) (t0 : Int32) (t1 : Int32) (S : Zs) (H : Heap) (locs : List Loc) (ls : Array Slot) (h : f7_chain_115 k64 x1 x4 x5 x7 t0 t1 S = some z) (P : zP D zM ad cA A S s H locs) (hl : lv_has ls 9 [(0, .ref (ad 0)), (1, .int x1), (4, .int x4), (5, .int x5), (7, .int x7)]) :
    W p l e (zrm 8 201) s m args below meth c H locs 0 0 (MQ below (zQl D zM ad cA A z) args s 0 0 A) (F0 m 115 ls [.int t0, .int t1]) := by
  have hx := C.1
  have hb := C.2.1
  unfold f7_chain_115 at h
  refine lv_iadd hx hb dX7_chain_115 ?_
  refine z_topi h (fun v116 h => ?_)
  refine lv_istore (lv' := [(6, .int v116), (0, .ref (ad 0)), (1, .int x1), (4, .int x4), (5, .int x5), (7, .int x7)]) hx hb dX7_chain_116 hl (by decide) rfl (fun ls hl => ?_)
  obtain ⟨v118, ev118, h⟩ := z_nm h
  refine lv_iinc (v := v118) (lv' := [(7, .int v118), (6, .int v116), (0, .ref (ad 0)), (1, .int x1), (4, .int x4), (5, .int x5)]) hx hb dX7_chain_118 hl (k := 5) rfl (by rw [ev118]; rfl) (by decide) rfl (fun ls hl => ?_)
  refine lv_goto (tgt := 64) hx hb dX7_chain_121 (by decide) ?_
  exact hk64 _ _ _ _ _ _ _ _ _ h P (lv_sub hl [2, 3, 4, 5, 1, 0] rfl)
theorem w7_chain_98 (C : zCx p s m args meth c cX7_chain 9 RX7 (some .long) D ad cA A) {z : Int64 × Zs} {k64 : Int32 → Int32 → Int32 → Int32 → Int32 → Zs → Option (Int64 × Zs)} (hk64 : ∀ (x1 : Int32) (x4 : Int32) (x5 : Int32) (x6 : Int32) (x7 : Int32) (S : Zs) (H : Heap) (locs : List Loc) (ls : Array Slot), k64 x1 x4 x5 x6 x7 S = some z → zP D zM ad cA A S s H locs → lv_has ls 9 [(0, .ref (ad 0)), (1, .int x1), (4, .int x4), (5, .int x5), (6, .int x6), (7, .int x7)] → W p l e (zrm 8 201) s m args below meth c H locs 0 0 (MQ below (zQl D zM ad cA A z) args s 0 0 A) (F0 m 64 ls [])) (x1 : Int32) (x4 : Int32) (x6 : Int32) (x7 : Int32) (x8 : Int32) (t0 : Int32) (t1 : Int32) (S : Zs) (H : Heap) (locs : List Loc) (ls : Array Slot) (h : f7_chain_98 k64 x1 x4 x6 x7 x8 t0 t1 S = some z) (P : zP D zM ad cA A S s H locs) (hl : lv_has ls 9 [(0, .ref (ad 0)), (1, .int x1), (4, .int x4), (6, .int x6), (7, .int x7), (8, .int x8)]) :
    W p l e (zrm 8 201) s m args below meth c H locs 0 0 (MQ below (zQl D zM ad cA A z) args s 0 0 A) (F0 m 98 ls [.int t0, .int t1]) := by
  have hx := C.1
  have hb := C.2.1
  unfold f7_chain_98 at h
  refine lv_iadd hx hb dX7_chain_98 ?_
  refine z_topi h (fun v99 h => ?_)
  refine lv_istore (lv' := [(5, .int v99), (0, .ref (ad 0)), (1, .int x1), (4, .int x4), (6, .int x6), (7, .int x7), (8, .int x8)]) hx hb dX7_chain_99 hl (by decide) rfl (fun ls hl => ?_)
  refine lv_iload hx hb dX7_chain_101 (lv_at hl 4 rfl) ?_
  refine lv_iload hx hb dX7_chain_103 (lv_at hl 6 rfl) ?_
  refine lv_iload hx hb dX7_chain_105 (lv_at hl 3 rfl) ?_
  refine z_icmp_ne (tgt := 114) hx hb dX7_chain_107 (by decide) h (fun h => ?_) (fun h => ?_)
  · refine lv_iconst (v := 0) hx hb dX7_chain_114 (by decide) ?_
    exact w7_chain_115 C hk64 _ _ _ _ _ _ _ _ _ _ h P (lv_sub hl [1, 2, 3, 0, 5] rfl)
  · refine lv_iconst (v := 1) hx hb dX7_chain_110 (by decide) ?_
    refine lv_goto (tgt := 115) hx hb dX7_chain_111 (by decide) ?_
    exact w7_chain_115 C hk64 _ _ _ _ _ _ _ _ _ _ h P (lv_sub hl [1, 2, 3, 0, 5] rfl)
theorem w7_chain_64 (C : zCx p s m args meth c cX7_chain 9 RX7 (some .long) D ad cA A) {z : Int64 × Zs} :
    ∀ (n : Nat) (x1 : Int32) (x4 : Int32) (x5 : Int32) (x6 : Int32) (x7 : Int32) (S : Zs) (H : Heap) (locs : List Loc) (ls : Array Slot), f7_chain_64 n x1 x4 x5 x6 x7 S = some z → zP D zM ad cA A S s H locs → lv_has ls 9 [(0, .ref (ad 0)), (1, .int x1), (4, .int x4), (5, .int x5), (6, .int x6), (7, .int x7)] → W p l e (zrm 8 201) s m args below meth c H locs 0 0 (MQ below (zQl D zM ad cA A z) args s 0 0 A) (F0 m 64 ls []) := by
  have hx := C.1
  have hb := C.2.1
  intro n
  induction n with
  | zero =>
    intro x1 x4 x5 x6 x7 S H locs ls h
    cases h
  | succ n ih =>
    intro x1 x4 x5 x6 x7 S H locs ls h P hl
    unfold f7_chain_64 at h
    refine lv_iload hx hb dX7_chain_64 (lv_at hl 5 rfl) ?_
    refine lv_aload_n hx hb dX7_chain_66 rfl (lv_at hl 0 rfl) ?_
    refine gF7_179 C P zm0 rfl dX7_chain_67 ?_
    refine z_icmp_ge (tgt := 124) hx hb dX7_chain_70 (by decide) h (fun h => ?_) (fun h => ?_)
    · refine lv_iconst (v := 2) hx hb dX7_chain_124 (by decide) ?_
      refine lv_iload hx hb dX7_chain_125 (lv_at hl 3 rfl) ?_
      refine lv_imul hx hb dX7_chain_127 ?_
      refine lv_iload hx hb dX7_chain_128 (lv_at hl 4 rfl) ?_
      refine z_if_le (tgt := 137) hx hb dX7_chain_130 (by decide) h (fun h => ?_) (fun h => ?_)
      · refine lv_iconst (v := 0) hx hb dX7_chain_137 (by decide) ?_
        refine lv_iadd hx hb dX7_chain_138 ?_
        refine lv_i2l hx hb dX7_chain_139 rfl ?_
        exact z_lret C P (Option.some.inj h) dX7_chain_140
      · refine lv_iconst (v := 1) hx hb dX7_chain_133 (by decide) ?_
        refine lv_goto (tgt := 138) hx hb dX7_chain_134 (by decide) ?_
        refine lv_iadd hx hb dX7_chain_138 ?_
        refine lv_i2l hx hb dX7_chain_139 rfl ?_
        exact z_lret C P (Option.some.inj h) dX7_chain_140
    · refine lv_aload_n hx hb dX7_chain_73 rfl (lv_at hl 0 rfl) ?_
      refine lv_iload hx hb dX7_chain_74 (lv_at hl 2 rfl) ?_
      refine lv_iload hx hb dX7_chain_76 (lv_at hl 5 rfl) ?_
      obtain ⟨r78, g78, h⟩ := bd1_some h
      refine z_callVi C P (As := [.int x4, .int x7]) (m7_makersOf g78) cW7_211 rfl zm0 rfl (by decide) hl.1 rfl (Nat.le_of_ble_eq_true rfl) dX7_chain_78 ⟨Nat.zero_le _, Nat.zero_le _⟩ (fun H locs P => ?_)
      refine lv_istore (lv' := [(8, .int r78), (0, .ref (ad 0)), (1, .int x1), (4, .int x4), (5, .int x5), (6, .int x6), (7, .int x7)]) hx hb dX7_chain_81 hl (by decide) rfl (fun ls hl => ?_)
      refine lv_iload hx hb dX7_chain_83 (lv_at hl 4 rfl) ?_
      refine lv_iload hx hb dX7_chain_85 (lv_at hl 0 rfl) ?_
      refine lv_iconst (v := 1) hx hb dX7_chain_87 (by decide) ?_
      refine lv_iload_n hx hb dX7_chain_88 rfl (lv_at hl 2 rfl) ?_
      refine lv_ishl hx hb dX7_chain_89 ?_
      refine z_icmp_ne (tgt := 97) hx hb dX7_chain_90 (by decide) h (fun h => ?_) (fun h => ?_)
      · refine lv_iconst (v := 0) hx hb dX7_chain_97 (by decide) ?_
        exact w7_chain_98 C ih _ _ _ _ _ _ _ _ _ _ _ h P (lv_sub hl [1, 2, 3, 5, 6, 0] rfl)
      · refine lv_iconst (v := 1) hx hb dX7_chain_93 (by decide) ?_
        refine lv_goto (tgt := 98) hx hb dX7_chain_94 (by decide) ?_
        exact w7_chain_98 C ih _ _ _ _ _ _ _ _ _ _ _ h P (lv_sub hl [1, 2, 3, 5, 6, 0] rfl)
theorem m7_chain {l : Launch} {D : va_G} {cA : Nat → ClassId} {ad : Nat → Nat} {x1 : Int32} {x2 : Int32} {x3 : Int32} {S : Zs} {z : Int64 × Zs} (h : f7_chain x1 x2 x3 S = some z) :
    zMl l yX7_chain cX7_chain 9 8 201 D zM ad cA S [.ref (ad 0), .int x1, .int x2, .int x3] z := by
  refine z_enter (Qc := fun A => zQl D zM ad cA A z) (by decide +kernel) (Nat.le_of_ble_eq_true rfl) (fun p e s m below meth c A C P ls hl => ?_)
  have hx := C.1
  have hb := C.2.1
  have hl : lv_has ls 9 [(0, .ref (ad 0)), (1, .int x1), (2, .int x2), (3, .int x3)] := hl
  unfold f7_chain at h
  refine lv_aload_n hx hb dX7_chain_0 rfl (lv_at hl 0 rfl) ?_
  refine lv_iconst (v := 0) hx hb dX7_chain_1 (by decide) ?_
  refine pF7_62 C P zm0 rfl dX7_chain_2 h (fun S2 H locs h P => ?_)
  refine lv_aload_n hx hb dX7_chain_5 rfl (lv_at hl 0 rfl) ?_
  refine lv_iload_n hx hb dX7_chain_6 rfl (lv_at hl 1 rfl) ?_
  refine z_callVb C P (As := [.int x1]) (m7_isLand) cW7_189 rfl zm0 rfl (by decide) hl.1 rfl (Nat.le_of_ble_eq_true rfl) dX7_chain_7 ⟨Nat.zero_le _, Nat.zero_le _⟩ (fun H locs n7 P => ?_)
  refine z_if_eq (tgt := 31) hx hb dX7_chain_10 (by decide) h (fun h => ?_) (fun h => ?_)
  · refine lv_ldc2 (v := (-9000000000000000001)) hx hb C.2.2.2.1 (C.2.2.2.2.1 _ kK7_83) dX7_chain_31 ?_
    exact z_lret C P (Option.some.inj h) dX7_chain_34
  · refine lv_aload_n hx hb dX7_chain_13 rfl (lv_at hl 0 rfl) ?_
    refine lv_iload_n hx hb dX7_chain_14 rfl (lv_at hl 2 rfl) ?_
    refine z_callVb C P (As := [.int x2]) (m7_isLand) cW7_189 rfl zm0 rfl (by decide) hl.1 rfl (Nat.le_of_ble_eq_true rfl) dX7_chain_15 ⟨Nat.zero_le _, Nat.zero_le _⟩ (fun H locs n15 P => ?_)
    refine z_if_eq (tgt := 31) hx hb dX7_chain_18 (by decide) h (fun h => ?_) (fun h => ?_)
    · refine lv_ldc2 (v := (-9000000000000000001)) hx hb C.2.2.2.1 (C.2.2.2.2.1 _ kK7_83) dX7_chain_31 ?_
      exact z_lret C P (Option.some.inj h) dX7_chain_34
    · refine lv_iload_n hx hb dX7_chain_21 rfl (lv_at hl 1 rfl) ?_
      refine lv_iload_n hx hb dX7_chain_22 rfl (lv_at hl 2 rfl) ?_
      refine z_icmp_eq (tgt := 31) hx hb dX7_chain_23 (by decide) h (fun h => ?_) (fun h => ?_)
      · refine lv_ldc2 (v := (-9000000000000000001)) hx hb C.2.2.2.1 (C.2.2.2.2.1 _ kK7_83) dX7_chain_31 ?_
        exact z_lret C P (Option.some.inj h) dX7_chain_34
      · refine lv_iload_n hx hb dX7_chain_26 rfl (lv_at hl 3 rfl) ?_
        refine lv_iconst (v := (-1)) hx hb dX7_chain_27 (by decide) ?_
        refine z_icmp_ge (tgt := 35) hx hb dX7_chain_28 (by decide) h (fun h => ?_) (fun h => ?_)
        · refine lv_iload_n hx hb dX7_chain_35 rfl (lv_at hl 3 rfl) ?_
          refine lv_iconst (v := (-1)) hx hb dX7_chain_36 (by decide) ?_
          refine z_icmp_ne (tgt := 141) hx hb dX7_chain_37 (by decide) h (fun h => ?_) (fun h => ?_)
          · refine lv_iconst (v := 0) hx hb dX7_chain_141 (by decide) ?_
            refine lv_istore (lv' := [(4, .int (0 : Int32)), (0, .ref (ad 0)), (1, .int x1), (2, .int x2), (3, .int x3)]) hx hb dX7_chain_142 hl (by decide) rfl (fun ls hl => ?_)
            exact w7_chain_144 C _ _ _ _ _ _ _ _ _ h P (lv_sub hl [1, 2, 3, 4, 0] rfl)
          · refine lv_iconst (v := 1) hx hb dX7_chain_40 (by decide) ?_
            refine lv_iload_n hx hb dX7_chain_41 rfl (lv_at hl 1 rfl) ?_
            refine lv_ishl hx hb dX7_chain_42 ?_
            refine lv_iconst (v := 1) hx hb dX7_chain_43 (by decide) ?_
            refine lv_iload_n hx hb dX7_chain_44 rfl (lv_at hl 2 rfl) ?_
            refine lv_ishl hx hb dX7_chain_45 ?_
            refine lv_ior hx hb dX7_chain_46 ?_
            refine z_topi h (fun v47 h => ?_)
            refine lv_istore (lv' := [(4, .int v47), (0, .ref (ad 0)), (1, .int x1), (2, .int x2), (3, .int x3)]) hx hb dX7_chain_47 hl (by decide) rfl (fun ls hl => ?_)
            refine lv_aload_n hx hb dX7_chain_49 rfl (lv_at hl 1 rfl) ?_
            refine lv_iload hx hb dX7_chain_50 (lv_at hl 0 rfl) ?_
            obtain ⟨S52, g52, h⟩ := bd1_some h
            refine z_callVv C P (As := [.int v47]) (m7_rest g52) cW7_247 rfl zm0 rfl (by decide) hl.1 rfl (Nat.le_of_ble_eq_true rfl) dX7_chain_52 ⟨Nat.zero_le _, Nat.zero_le _⟩ (fun H locs P => ?_)
            refine lv_iconst (v := 0) hx hb dX7_chain_55 (by decide) ?_
            refine lv_istore (lv' := [(5, .int (0 : Int32)), (4, .int v47), (0, .ref (ad 0)), (1, .int x1), (2, .int x2), (3, .int x3)]) hx hb dX7_chain_56 hl (by decide) rfl (fun ls hl => ?_)
            refine lv_iconst (v := 0) hx hb dX7_chain_58 (by decide) ?_
            refine lv_istore (lv' := [(6, .int (0 : Int32)), (5, .int (0 : Int32)), (4, .int v47), (0, .ref (ad 0)), (1, .int x1), (2, .int x2), (3, .int x3)]) hx hb dX7_chain_59 hl (by decide) rfl (fun ls hl => ?_)
            refine lv_iconst (v := 0) hx hb dX7_chain_61 (by decide) ?_
            refine lv_istore (lv' := [(7, .int (0 : Int32)), (6, .int (0 : Int32)), (5, .int (0 : Int32)), (4, .int v47), (0, .ref (ad 0)), (1, .int x1), (2, .int x2), (3, .int x3)]) hx hb dX7_chain_62 hl (by decide) rfl (fun ls hl => ?_)
            exact w7_chain_64 C _ _ _ _ _ _ _ _ _ _ h P (lv_sub hl [4, 5, 3, 2, 1, 0] rfl)
        · refine lv_ldc2 (v := (-9000000000000000001)) hx hb C.2.2.2.1 (C.2.2.2.2.1 _ kK7_83) dX7_chain_31 ?_
          exact z_lret C P (Option.some.inj h) dX7_chain_34
theorem w7_gives_102 (C : zCx p s m args meth c cX7_gives 6 RX7 (some .boolean) D ad cA A) {z : Int32 × Zs} {k7 : Int32 → Int32 → Int32 → Int32 → Int32 → Zs → Option (Int32 × Zs)} (hk7 : ∀ (x1 : Int32) (x2 : Int32) (x3 : Int32) (x4 : Int32) (x5 : Int32) (S : Zs) (H : Heap) (locs : List Loc) (ls : Array Slot), k7 x1 x2 x3 x4 x5 S = some z → zP D zM ad cA A S s H locs → lv_has ls 6 [(0, .ref (ad 0)), (1, .int x1), (2, .int x2), (3, .int x3), (4, .int x4), (5, .int x5)] → W p l e (zrm 1 22) s m args below meth c H locs 0 0 (MQ below (zQb D zM ad cA A z) args s 0 0 A) (F0 m 7 ls [])) (x1 : Int32) (x2 : Int32) (x3 : Int32) (x4 : Int32) (x5 : Int32) (S : Zs) (H : Heap) (locs : List Loc) (ls : Array Slot) (h : f7_gives_102 k7 x1 x2 x3 x4 x5 S = some z) (P : zP D zM ad cA A S s H locs) (hl : lv_has ls 6 [(0, .ref (ad 0)), (1, .int x1), (2, .int x2), (3, .int x3), (4, .int x4), (5, .int x5)]) :
    W p l e (zrm 1 22) s m args below meth c H locs 0 0 (MQ below (zQb D zM ad cA A z) args s 0 0 A) (F0 m 102 ls []) := by
  have hx := C.1
  have hb := C.2.1
  unfold f7_gives_102 at h
  obtain ⟨v102, ev102, h⟩ := z_nm h
  refine lv_iinc (v := v102) (lv' := [(5, .int v102), (0, .ref (ad 0)), (1, .int x1), (2, .int x2), (3, .int x3), (4, .int x4)]) hx hb dX7_gives_102 hl (k := 5) rfl (by rw [ev102]; rfl) (by decide) rfl (fun ls hl => ?_)
  refine lv_goto (tgt := 7) hx hb dX7_gives_105 (by decide) ?_
  exact hk7 _ _ _ _ _ _ _ _ _ h P (lv_sub hl [1, 2, 3, 4, 5, 0] rfl)
theorem w7_gives_100 (C : zCx p s m args meth c cX7_gives 6 RX7 (some .boolean) D ad cA A) {z : Int32 × Zs} {k7 : Int32 → Int32 → Int32 → Int32 → Int32 → Zs → Option (Int32 × Zs)} (hk7 : ∀ (x1 : Int32) (x2 : Int32) (x3 : Int32) (x4 : Int32) (x5 : Int32) (S : Zs) (H : Heap) (locs : List Loc) (ls : Array Slot), k7 x1 x2 x3 x4 x5 S = some z → zP D zM ad cA A S s H locs → lv_has ls 6 [(0, .ref (ad 0)), (1, .int x1), (2, .int x2), (3, .int x3), (4, .int x4), (5, .int x5)] → W p l e (zrm 1 22) s m args below meth c H locs 0 0 (MQ below (zQb D zM ad cA A z) args s 0 0 A) (F0 m 7 ls [])) (x1 : Int32) (x2 : Int32) (x3 : Int32) (x5 : Int32) (t0 : Int32) (S : Zs) (H : Heap) (locs : List Loc) (ls : Array Slot) (h : f7_gives_100 k7 x1 x2 x3 x5 t0 S = some z) (P : zP D zM ad cA A S s H locs) (hl : lv_has ls 6 [(0, .ref (ad 0)), (1, .int x1), (2, .int x2), (3, .int x3), (5, .int x5)]) :
    W p l e (zrm 1 22) s m args below meth c H locs 0 0 (MQ below (zQb D zM ad cA A z) args s 0 0 A) (F0 m 100 ls [.int t0]) := by
  have hx := C.1
  have hb := C.2.1
  unfold f7_gives_100 at h
  refine lv_istore (lv' := [(4, .int t0), (0, .ref (ad 0)), (1, .int x1), (2, .int x2), (3, .int x3), (5, .int x5)]) hx hb dX7_gives_100 hl (by decide) rfl (fun ls hl => ?_)
  exact w7_gives_102 C hk7 _ _ _ _ _ _ _ _ _ h P (lv_sub hl [1, 2, 3, 4, 0, 5] rfl)
theorem w7_gives_93 (C : zCx p s m args meth c cX7_gives 6 RX7 (some .boolean) D ad cA A) {z : Int32 × Zs} {k7 : Int32 → Int32 → Int32 → Int32 → Int32 → Zs → Option (Int32 × Zs)} (hk7 : ∀ (x1 : Int32) (x2 : Int32) (x3 : Int32) (x4 : Int32) (x5 : Int32) (S : Zs) (H : Heap) (locs : List Loc) (ls : Array Slot), k7 x1 x2 x3 x4 x5 S = some z → zP D zM ad cA A S s H locs → lv_has ls 6 [(0, .ref (ad 0)), (1, .int x1), (2, .int x2), (3, .int x3), (4, .int x4), (5, .int x5)] → W p l e (zrm 1 22) s m args below meth c H locs 0 0 (MQ below (zQb D zM ad cA A z) args s 0 0 A) (F0 m 7 ls [])) (x1 : Int32) (x2 : Int32) (x3 : Int32) (x5 : Int32) (S : Zs) (H : Heap) (locs : List Loc) (ls : Array Slot) (h : f7_gives_93 k7 x1 x2 x3 x5 S = some z) (P : zP D zM ad cA A S s H locs) (hl : lv_has ls 6 [(0, .ref (ad 0)), (1, .int x1), (2, .int x2), (3, .int x3), (5, .int x5)]) :
    W p l e (zrm 1 22) s m args below meth c H locs 0 0 (MQ below (zQb D zM ad cA A z) args s 0 0 A) (F0 m 93 ls []) := by
  have hx := C.1
  have hb := C.2.1
  unfold f7_gives_93 at h
  refine lv_iload hx hb dX7_gives_93 (lv_at hl 4 rfl) ?_
  refine lv_goto (tgt := 100) hx hb dX7_gives_95 (by decide) ?_
  exact w7_gives_100 C hk7 _ _ _ _ _ _ _ _ _ h P (lv_sub hl [0, 1, 2, 3, 4] rfl)
theorem w7_gives_7 (C : zCx p s m args meth c cX7_gives 6 RX7 (some .boolean) D ad cA A) {z : Int32 × Zs} :
    ∀ (n : Nat) (x1 : Int32) (x2 : Int32) (x3 : Int32) (x4 : Int32) (x5 : Int32) (S : Zs) (H : Heap) (locs : List Loc) (ls : Array Slot), f7_gives_7 n x1 x2 x3 x4 x5 S = some z → zP D zM ad cA A S s H locs → lv_has ls 6 [(0, .ref (ad 0)), (1, .int x1), (2, .int x2), (3, .int x3), (4, .int x4), (5, .int x5)] → W p l e (zrm 1 22) s m args below meth c H locs 0 0 (MQ below (zQb D zM ad cA A z) args s 0 0 A) (F0 m 7 ls []) := by
  have hx := C.1
  have hb := C.2.1
  intro n
  induction n with
  | zero =>
    intro x1 x2 x3 x4 x5 S H locs ls h
    cases h
  | succ n ih =>
    intro x1 x2 x3 x4 x5 S H locs ls h P hl
    unfold f7_gives_7 at h
    refine lv_iload hx hb dX7_gives_7 (lv_at hl 5 rfl) ?_
    refine lv_aload_n hx hb dX7_gives_9 rfl (lv_at hl 0 rfl) ?_
    refine gF7_179 C P zm0 rfl dX7_gives_10 ?_
    refine z_icmp_ge (tgt := 108) hx hb dX7_gives_13 (by decide) h (fun h => ?_) (fun h => ?_)
    · refine lv_iload hx hb dX7_gives_108 (lv_at hl 4 rfl) ?_
      refine lv_ldc (v := (-1000000)) hx hb C.2.2.2.1 (C.2.2.2.2.1 _ kK7_101) dX7_gives_110 ?_
      refine z_icmp_ne (tgt := 117) hx hb dX7_gives_112 (by decide) h (fun h => ?_) (fun h => ?_)
      · refine lv_aload_n hx hb dX7_gives_117 rfl (lv_at hl 0 rfl) ?_
        refine lv_dup hx hb dX7_gives_118 rfl ?_
        refine gF7_274 C P zm0 rfl dX7_gives_119 ?_
        refine lv_aload_n hx hb dX7_gives_122 rfl (lv_at hl 0 rfl) ?_
        refine gF7_25 C P zm0 rfl dX7_gives_123 ?_
        refine lv_bipush (v := 6) hx hb dX7_gives_126 (by decide) ?_
        refine lv_iload_n hx hb dX7_gives_128 rfl (lv_at hl 3 rfl) ?_
        refine lv_imul hx hb dX7_gives_129 ?_
        refine lv_iload hx hb dX7_gives_130 (lv_at hl 4 rfl) ?_
        refine lv_iadd hx hb dX7_gives_132 ?_
        refine z_iald C P zm6 dX7_gives_133 h (fun h hi => ?_)
        refine lv_i2l hx hb dX7_gives_134 rfl ?_
        refine lv_lmul hx hb dX7_gives_135 ?_
        refine pF7_274 C P zm0 rfl dX7_gives_136 h (fun S136 H locs h P => ?_)
        refine lv_aload_n hx hb dX7_gives_139 rfl (lv_at hl 0 rfl) ?_
        refine lv_dup hx hb dX7_gives_140 rfl ?_
        refine gF7_278 C P zm0 rfl dX7_gives_141 ?_
        refine lv_aload_n hx hb dX7_gives_144 rfl (lv_at hl 0 rfl) ?_
        refine gF7_25 C P zm0 rfl dX7_gives_145 ?_
        refine lv_bipush (v := 6) hx hb dX7_gives_148 (by decide) ?_
        refine lv_iload_n hx hb dX7_gives_150 rfl (lv_at hl 2 rfl) ?_
        refine lv_imul hx hb dX7_gives_151 ?_
        refine lv_iload hx hb dX7_gives_152 (lv_at hl 4 rfl) ?_
        refine lv_iadd hx hb dX7_gives_154 ?_
        refine z_iald C P zm6 dX7_gives_155 h (fun h hi => ?_)
        refine lv_i2l hx hb dX7_gives_156 rfl ?_
        refine lv_lmul hx hb dX7_gives_157 ?_
        refine pF7_278 C P zm0 rfl dX7_gives_158 h (fun S158 H locs h P => ?_)
        refine lv_iconst (v := 1) hx hb dX7_gives_161 (by decide) ?_
        exact z_zret C P (Option.some.inj h) (by decide) dX7_gives_162
      · refine lv_iconst (v := 0) hx hb dX7_gives_115 (by decide) ?_
        exact z_zret C P (Option.some.inj h) (by decide) dX7_gives_116
    · refine lv_aload_n hx hb dX7_gives_16 rfl (lv_at hl 0 rfl) ?_
      refine lv_aload_n hx hb dX7_gives_17 rfl (lv_at hl 0 rfl) ?_
      refine gF7_16 C P zm0 rfl dX7_gives_18 ?_
      refine lv_iload_n hx hb dX7_gives_21 rfl (lv_at hl 1 rfl) ?_
      refine lv_iload hx hb dX7_gives_22 (lv_at hl 5 rfl) ?_
      refine lv_iadd hx hb dX7_gives_24 ?_
      refine z_iald C P zm3 dX7_gives_25 h (fun h hi => ?_)
      refine lv_iload_n hx hb dX7_gives_26 rfl (lv_at hl 2 rfl) ?_
      refine z_callVb C P (As := [.int (S.1 3 (x1 + x5).toNatClampNeg), .int x2]) (m7_counts) cW7_197 rfl zm0 rfl (by decide) hl.1 rfl (Nat.le_of_ble_eq_true rfl) dX7_gives_27 ⟨Nat.zero_le _, Nat.zero_le _⟩ (fun H locs n27 P => ?_)
      refine z_if_eq (tgt := 102) hx hb dX7_gives_30 (by decide) h (fun h => ?_) (fun h => ?_)
      · exact w7_gives_102 C ih _ _ _ _ _ _ _ _ _ h P (lv_sub hl [0, 1, 2, 3, 4, 5] rfl)
      · refine lv_iload hx hb dX7_gives_33 (lv_at hl 4 rfl) ?_
        refine lv_ldc (v := (-1000000)) hx hb C.2.2.2.1 (C.2.2.2.2.1 _ kK7_101) dX7_gives_35 ?_
        refine z_icmp_eq (tgt := 93) hx hb dX7_gives_37 (by decide) h (fun h => ?_) (fun h => ?_)
        · exact w7_gives_93 C ih _ _ _ _ _ _ _ _ h P (lv_sub hl [0, 1, 2, 3, 5] rfl)
        · refine lv_aload_n hx hb dX7_gives_40 rfl (lv_at hl 0 rfl) ?_
          refine gF7_25 C P zm0 rfl dX7_gives_41 ?_
          refine lv_bipush (v := 6) hx hb dX7_gives_44 (by decide) ?_
          refine lv_iload_n hx hb dX7_gives_46 rfl (lv_at hl 3 rfl) ?_
          refine lv_imul hx hb dX7_gives_47 ?_
          refine lv_iload hx hb dX7_gives_48 (lv_at hl 5 rfl) ?_
          refine lv_iadd hx hb dX7_gives_50 ?_
          refine z_iald C P zm6 dX7_gives_51 h (fun h hi => ?_)
          refine lv_aload_n hx hb dX7_gives_52 rfl (lv_at hl 0 rfl) ?_
          refine gF7_25 C P zm0 rfl dX7_gives_53 ?_
          refine lv_bipush (v := 6) hx hb dX7_gives_56 (by decide) ?_
          refine lv_iload_n hx hb dX7_gives_58 rfl (lv_at hl 2 rfl) ?_
          refine lv_imul hx hb dX7_gives_59 ?_
          refine lv_iload hx hb dX7_gives_60 (lv_at hl 4 rfl) ?_
          refine lv_iadd hx hb dX7_gives_62 ?_
          refine z_iald C P zm6 dX7_gives_63 h (fun h hi => ?_)
          refine lv_imul hx hb dX7_gives_64 ?_
          refine lv_aload_n hx hb dX7_gives_65 rfl (lv_at hl 0 rfl) ?_
          refine gF7_25 C P zm0 rfl dX7_gives_66 ?_
          refine lv_bipush (v := 6) hx hb dX7_gives_69 (by decide) ?_
          refine lv_iload_n hx hb dX7_gives_71 rfl (lv_at hl 3 rfl) ?_
          refine lv_imul hx hb dX7_gives_72 ?_
          refine lv_iload hx hb dX7_gives_73 (lv_at hl 4 rfl) ?_
          refine lv_iadd hx hb dX7_gives_75 ?_
          refine z_iald C P zm6 dX7_gives_76 h (fun h hi => ?_)
          refine lv_aload_n hx hb dX7_gives_77 rfl (lv_at hl 0 rfl) ?_
          refine gF7_25 C P zm0 rfl dX7_gives_78 ?_
          refine lv_bipush (v := 6) hx hb dX7_gives_81 (by decide) ?_
          refine lv_iload_n hx hb dX7_gives_83 rfl (lv_at hl 2 rfl) ?_
          refine lv_imul hx hb dX7_gives_84 ?_
          refine lv_iload hx hb dX7_gives_85 (lv_at hl 5 rfl) ?_
          refine lv_iadd hx hb dX7_gives_87 ?_
          refine z_iald C P zm6 dX7_gives_88 h (fun h hi => ?_)
          refine lv_imul hx hb dX7_gives_89 ?_
          refine z_icmp_ge (tgt := 98) hx hb dX7_gives_90 (by decide) h (fun h => ?_) (fun h => ?_)
          · refine lv_iload hx hb dX7_gives_98 (lv_at hl 4 rfl) ?_
            exact w7_gives_100 C ih _ _ _ _ _ _ _ _ _ h P (lv_sub hl [0, 1, 2, 3, 5] rfl)
          · exact w7_gives_93 C ih _ _ _ _ _ _ _ _ h P (lv_sub hl [0, 1, 2, 3, 5] rfl)
theorem m7_gives {l : Launch} {D : va_G} {cA : Nat → ClassId} {ad : Nat → Nat} {x1 : Int32} {x2 : Int32} {x3 : Int32} {S : Zs} {z : Int32 × Zs} (h : f7_gives x1 x2 x3 S = some z) :
    zMb l yX7_gives cX7_gives 6 1 22 D zM ad cA S [.ref (ad 0), .int x1, .int x2, .int x3] z := by
  refine z_enter (Qc := fun A => zQb D zM ad cA A z) (by decide +kernel) (Nat.le_of_ble_eq_true rfl) (fun p e s m below meth c A C P ls hl => ?_)
  have hx := C.1
  have hb := C.2.1
  have hl : lv_has ls 6 [(0, .ref (ad 0)), (1, .int x1), (2, .int x2), (3, .int x3)] := hl
  unfold f7_gives at h
  refine lv_ldc (v := (-1000000)) hx hb C.2.2.2.1 (C.2.2.2.2.1 _ kK7_101) dX7_gives_0 ?_
  refine lv_istore (lv' := [(4, .int (-1000000 : Int32)), (0, .ref (ad 0)), (1, .int x1), (2, .int x2), (3, .int x3)]) hx hb dX7_gives_2 hl (by decide) rfl (fun ls hl => ?_)
  refine lv_iconst (v := 0) hx hb dX7_gives_4 (by decide) ?_
  refine lv_istore (lv' := [(5, .int (0 : Int32)), (4, .int (-1000000 : Int32)), (0, .ref (ad 0)), (1, .int x1), (2, .int x2), (3, .int x3)]) hx hb dX7_gives_5 hl (by decide) rfl (fun ls hl => ?_)
  exact w7_gives_7 C _ _ _ _ _ _ _ _ _ _ h P (lv_sub hl [2, 3, 4, 5, 1, 0] rfl)
theorem w7_isRing_67 (C : zCx p s m args meth c cX7_isRing 6 RX7 (some .boolean) D ad cA A) {z : Int32 × Zs} (t0 : Int32) (S : Zs) (H : Heap) (locs : List Loc) (ls : Array Slot) (h : f7_isRing_67 t0 S = some z) (P : zP D zM ad cA A S s H locs) (hl : lv_has ls 6 [(0, .ref (ad 0))]) :
    W p l e (zrm 2 47) s m args below meth c H locs 0 0 (MQ below (zQb D zM ad cA A z) args s 0 0 A) (F0 m 67 ls [.int t0]) := by
  have hx := C.1
  have hb := C.2.1
  unfold f7_isRing_67 at h
  refine lv_istore (lv' := [(5, .int t0), (0, .ref (ad 0))]) hx hb dX7_isRing_67 hl (by decide) rfl (fun ls hl => ?_)
  refine lv_iload hx hb dX7_isRing_69 (lv_at hl 0 rfl) ?_
  refine z_if_eq (tgt := 90) hx hb dX7_isRing_71 (by decide) h (fun h => ?_) (fun h => ?_)
  · refine lv_iconst (v := 0) hx hb dX7_isRing_90 (by decide) ?_
    exact z_zret C P (Option.some.inj h) (by decide) dX7_isRing_91
  · refine lv_aload_n hx hb dX7_isRing_74 rfl (lv_at hl 1 rfl) ?_
    refine gF7_274 C P zm0 rfl dX7_isRing_75 ?_
    refine lv_aload_n hx hb dX7_isRing_78 rfl (lv_at hl 1 rfl) ?_
    refine gF7_278 C P zm0 rfl dX7_isRing_79 ?_
    refine z_lcmp_ge (tgt := 90) hx hb dX7_isRing_82 dX7_isRing_83 (by decide) h (fun h => ?_) (fun h => ?_)
    · refine lv_iconst (v := 0) hx hb dX7_isRing_90 (by decide) ?_
      exact z_zret C P (Option.some.inj h) (by decide) dX7_isRing_91
    · refine lv_iconst (v := 1) hx hb dX7_isRing_86 (by decide) ?_
      refine lv_goto (tgt := 91) hx hb dX7_isRing_87 (by decide) ?_
      exact z_zret C P (Option.some.inj h) (by decide) dX7_isRing_91
theorem w7_isRing_66 (C : zCx p s m args meth c cX7_isRing 6 RX7 (some .boolean) D ad cA A) {z : Int32 × Zs} (S : Zs) (H : Heap) (locs : List Loc) (ls : Array Slot) (h : f7_isRing_66 S = some z) (P : zP D zM ad cA A S s H locs) (hl : lv_has ls 6 [(0, .ref (ad 0))]) :
    W p l e (zrm 2 47) s m args below meth c H locs 0 0 (MQ below (zQb D zM ad cA A z) args s 0 0 A) (F0 m 66 ls []) := by
  have hx := C.1
  have hb := C.2.1
  unfold f7_isRing_66 at h
  refine lv_iconst (v := 0) hx hb dX7_isRing_66 (by decide) ?_
  exact w7_isRing_67 C _ _ _ _ _ h P (lv_sub hl [0] rfl)
theorem w7_isRing_62 (C : zCx p s m args meth c cX7_isRing 6 RX7 (some .boolean) D ad cA A) {z : Int32 × Zs} (S : Zs) (H : Heap) (locs : List Loc) (ls : Array Slot) (h : f7_isRing_62 S = some z) (P : zP D zM ad cA A S s H locs) (hl : lv_has ls 6 [(0, .ref (ad 0))]) :
    W p l e (zrm 2 47) s m args below meth c H locs 0 0 (MQ below (zQb D zM ad cA A z) args s 0 0 A) (F0 m 62 ls []) := by
  have hx := C.1
  have hb := C.2.1
  unfold f7_isRing_62 at h
  refine lv_iconst (v := 1) hx hb dX7_isRing_62 (by decide) ?_
  refine lv_goto (tgt := 67) hx hb dX7_isRing_63 (by decide) ?_
  exact w7_isRing_67 C _ _ _ _ _ h P (lv_sub hl [0] rfl)
theorem m7_isRing {l : Launch} {D : va_G} {cA : Nat → ClassId} {ad : Nat → Nat} {x1 : Int32} {x2 : Int32} {x3 : Int32} {x4 : Int32} {S : Zs} {z : Int32 × Zs} (h : f7_isRing x1 x2 x3 x4 S = some z) :
    zMb l yX7_isRing cX7_isRing 6 2 47 D zM ad cA S [.ref (ad 0), .int x1, .int x2, .int x3, .int x4] z := by
  refine z_enter (Qc := fun A => zQb D zM ad cA A z) (by decide +kernel) (Nat.le_of_ble_eq_true rfl) (fun p e s m below meth c A C P ls hl => ?_)
  have hx := C.1
  have hb := C.2.1
  have hl : lv_has ls 6 [(0, .ref (ad 0)), (1, .int x1), (2, .int x2), (3, .int x3), (4, .int x4)] := hl
  unfold f7_isRing at h
  refine lv_aload_n hx hb dX7_isRing_0 rfl (lv_at hl 0 rfl) ?_
  refine lv_lconst (v := 1) hx hb dX7_isRing_1 (by decide) ?_
  refine pF7_274 C P zm0 rfl dX7_isRing_2 h (fun S2 H locs h P => ?_)
  refine lv_aload_n hx hb dX7_isRing_5 rfl (lv_at hl 0 rfl) ?_
  refine lv_lconst (v := 1) hx hb dX7_isRing_6 (by decide) ?_
  refine pF7_278 C P zm0 rfl dX7_isRing_7 h (fun S7 H locs h P => ?_)
  refine lv_aload_n hx hb dX7_isRing_10 rfl (lv_at hl 0 rfl) ?_
  refine lv_iload_n hx hb dX7_isRing_11 rfl (lv_at hl 1 rfl) ?_
  refine lv_iload_n hx hb dX7_isRing_12 rfl (lv_at hl 2 rfl) ?_
  refine lv_iload_n hx hb dX7_isRing_13 rfl (lv_at hl 3 rfl) ?_
  obtain ⟨r14, S14, g14, h⟩ := bd2_some h
  refine z_callVb C P (As := [.int x1, .int x2, .int x3]) (m7_gives g14) cW7_281 rfl zm0 rfl (by decide) hl.1 rfl (Nat.le_of_ble_eq_true rfl) dX7_isRing_14 ⟨Nat.zero_le _, Nat.zero_le _⟩ (fun H locs n14 P => ?_)
  refine z_if_eq (tgt := 66) hx hb dX7_isRing_17 (by decide) h (fun h => ?_) (fun h => ?_)
  · exact w7_isRing_66 C _ _ _ _ h P (lv_sub hl [0] rfl)
  · refine lv_iload hx hb dX7_isRing_20 (lv_at hl 4 rfl) ?_
    refine lv_ldc (v := (-1000000)) hx hb C.2.2.2.1 (C.2.2.2.2.1 _ kK7_101) dX7_isRing_22 ?_
    refine z_icmp_ne (tgt := 40) hx hb dX7_isRing_24 (by decide) h (fun h => ?_) (fun h => ?_)
    · refine lv_aload_n hx hb dX7_isRing_40 rfl (lv_at hl 0 rfl) ?_
      refine lv_iload_n hx hb dX7_isRing_41 rfl (lv_at hl 1 rfl) ?_
      refine lv_iload_n hx hb dX7_isRing_42 rfl (lv_at hl 3 rfl) ?_
      refine lv_iload hx hb dX7_isRing_43 (lv_at hl 4 rfl) ?_
      obtain ⟨r45, S45, g45, h⟩ := bd2_some h
      refine z_callVb C P (As := [.int x1, .int x3, .int x4]) (m7_gives g45) cW7_281 rfl zm0 rfl (by decide) hl.1 rfl (Nat.le_of_ble_eq_true rfl) dX7_isRing_45 ⟨Nat.zero_le _, Nat.zero_le _⟩ (fun H locs n45 P => ?_)
      refine z_if_eq (tgt := 66) hx hb dX7_isRing_48 (by decide) h (fun h => ?_) (fun h => ?_)
      · exact w7_isRing_66 C _ _ _ _ h P (lv_sub hl [0] rfl)
      · refine lv_aload_n hx hb dX7_isRing_51 rfl (lv_at hl 0 rfl) ?_
        refine lv_iload_n hx hb dX7_isRing_52 rfl (lv_at hl 1 rfl) ?_
        refine lv_iload hx hb dX7_isRing_53 (lv_at hl 4 rfl) ?_
        refine lv_iload_n hx hb dX7_isRing_55 rfl (lv_at hl 2 rfl) ?_
        obtain ⟨r56, S56, g56, h⟩ := bd2_some h
        refine z_callVb C P (As := [.int x1, .int x4, .int x2]) (m7_gives g56) cW7_281 rfl zm0 rfl (by decide) hl.1 rfl (Nat.le_of_ble_eq_true rfl) dX7_isRing_56 ⟨Nat.zero_le _, Nat.zero_le _⟩ (fun H locs n56 P => ?_)
        refine z_if_eq (tgt := 66) hx hb dX7_isRing_59 (by decide) h (fun h => ?_) (fun h => ?_)
        · exact w7_isRing_66 C _ _ _ _ h P (lv_sub hl [0] rfl)
        · exact w7_isRing_62 C _ _ _ _ h P (lv_sub hl [0] rfl)
    · refine lv_aload_n hx hb dX7_isRing_27 rfl (lv_at hl 0 rfl) ?_
      refine lv_iload_n hx hb dX7_isRing_28 rfl (lv_at hl 1 rfl) ?_
      refine lv_iload_n hx hb dX7_isRing_29 rfl (lv_at hl 3 rfl) ?_
      refine lv_iload_n hx hb dX7_isRing_30 rfl (lv_at hl 2 rfl) ?_
      obtain ⟨r31, S31, g31, h⟩ := bd2_some h
      refine z_callVb C P (As := [.int x1, .int x3, .int x2]) (m7_gives g31) cW7_281 rfl zm0 rfl (by decide) hl.1 rfl (Nat.le_of_ble_eq_true rfl) dX7_isRing_31 ⟨Nat.zero_le _, Nat.zero_le _⟩ (fun H locs n31 P => ?_)
      refine z_if_eq (tgt := 66) hx hb dX7_isRing_34 (by decide) h (fun h => ?_) (fun h => ?_)
      · exact w7_isRing_66 C _ _ _ _ h P (lv_sub hl [0] rfl)
      · refine lv_goto (tgt := 62) hx hb dX7_isRing_37 (by decide) ?_
        exact w7_isRing_62 C _ _ _ _ h P (lv_sub hl [0] rfl)
theorem w7_more_191 (C : zCx p s m args meth c cX7_more 8 RX7 (some .long) D ad cA A) {z : Int64 × Zs} (x5 : Int32) (S : Zs) (H : Heap) (locs : List Loc) (ls : Array Slot) (h : f7_more_191 x5 S = some z) (P : zP D zM ad cA A S s H locs) (hl : lv_has ls 8 [(0, .ref (ad 0)), (5, .int x5)]) :
    W p l e (zrm 3 72) s m args below meth c H locs 0 0 (MQ below (zQl D zM ad cA A z) args s 0 0 A) (F0 m 191 ls []) := by
  have hx := C.1
  have hb := C.2.1
  unfold f7_more_191 at h
  refine lv_aload_n hx hb dX7_more_191 rfl (lv_at hl 0 rfl) ?_
  refine gF7_176 C P zm0 rfl dX7_more_192 ?_
  refine lv_iconst (v := 3) hx hb dX7_more_195 (by decide) ?_
  refine z_icmp_ne (tgt := 217) hx hb dX7_more_196 (by decide) h (fun h => ?_) (fun h => ?_)
  · refine lv_lconst (v := 0) hx hb dX7_more_217 (by decide) ?_
    exact z_lret C P (Option.some.inj h) dX7_more_218
  · refine lv_aload_n hx hb dX7_more_199 rfl (lv_at hl 0 rfl) ?_
    refine lv_iload hx hb dX7_more_200 (lv_at hl 1 rfl) ?_
    refine lv_iconst (v := 0) hx hb dX7_more_202 (by decide) ?_
    refine lv_iconst (v := 1) hx hb dX7_more_203 (by decide) ?_
    refine lv_iconst (v := 2) hx hb dX7_more_204 (by decide) ?_
    obtain ⟨r205, S205, g205, h⟩ := bd2_some h
    refine z_callVb C P (As := [.int x5, .int (0 : Int32), .int (1 : Int32), .int (2 : Int32)]) (m7_isRing g205) cW7_284 rfl zm0 rfl (by decide) hl.1 rfl (Nat.le_of_ble_eq_true rfl) dX7_more_205 ⟨Nat.zero_le _, Nat.zero_le _⟩ (fun H locs n205 P => ?_)
    refine z_if_eq (tgt := 217) hx hb dX7_more_208 (by decide) h (fun h => ?_) (fun h => ?_)
    · refine lv_lconst (v := 0) hx hb dX7_more_217 (by decide) ?_
      exact z_lret C P (Option.some.inj h) dX7_more_218
    · refine lv_ldc2 (v := 209) hx hb C.2.2.2.1 (C.2.2.2.2.1 _ kK7_289) dX7_more_211 ?_
      refine lv_goto (tgt := 218) hx hb dX7_more_214 (by decide) ?_
      exact z_lret C P (Option.some.inj h) dX7_more_218
theorem w7_more_119 (C : zCx p s m args meth c cX7_more 8 RX7 (some .long) D ad cA A) {z : Int64 × Zs} {k107 : Int32 → Int32 → Zs → Option (Int64 × Zs)} (hk107 : ∀ (x5 : Int32) (x6 : Int32) (S : Zs) (H : Heap) (locs : List Loc) (ls : Array Slot), k107 x5 x6 S = some z → zP D zM ad cA A S s H locs → lv_has ls 8 [(0, .ref (ad 0)), (5, .int x5), (6, .int x6)] → W p l e (zrm 3 72) s m args below meth c H locs 0 0 (MQ below (zQl D zM ad cA A z) args s 0 0 A) (F0 m 107 ls [])) :
    ∀ (n : Nat) (x5 : Int32) (x6 : Int32) (x7 : Int32) (S : Zs) (H : Heap) (locs : List Loc) (ls : Array Slot), f7_more_119 k107 n x5 x6 x7 S = some z → zP D zM ad cA A S s H locs → lv_has ls 8 [(0, .ref (ad 0)), (5, .int x5), (6, .int x6), (7, .int x7)] → W p l e (zrm 3 72) s m args below meth c H locs 0 0 (MQ below (zQl D zM ad cA A z) args s 0 0 A) (F0 m 119 ls []) := by
  have hx := C.1
  have hb := C.2.1
  intro n
  induction n with
  | zero =>
    intro x5 x6 x7 S H locs ls h
    cases h
  | succ n ih =>
    intro x5 x6 x7 S H locs ls h P hl
    unfold f7_more_119 at h
    refine lv_iload hx hb dX7_more_119 (lv_at hl 3 rfl) ?_
    refine lv_iload hx hb dX7_more_121 (lv_at hl 2 rfl) ?_
    refine z_icmp_ge (tgt := 161) hx hb dX7_more_123 (by decide) h (fun h => ?_) (fun h => ?_)
    · obtain ⟨v161, ev161, h⟩ := z_nm h
      refine lv_iinc (v := v161) (lv' := [(6, .int v161), (0, .ref (ad 0)), (5, .int x5), (7, .int x7)]) hx hb dX7_more_161 hl (k := 2) rfl (by rw [ev161]; rfl) (by decide) rfl (fun ls hl => ?_)
      refine lv_goto (tgt := 107) hx hb dX7_more_164 (by decide) ?_
      exact hk107 _ _ _ _ _ _ h P (lv_sub hl [1, 2, 0] rfl)
    · refine lv_aload_n hx hb dX7_more_126 rfl (lv_at hl 0 rfl) ?_
      refine lv_iload hx hb dX7_more_127 (lv_at hl 1 rfl) ?_
      refine lv_iload hx hb dX7_more_129 (lv_at hl 3 rfl) ?_
      refine lv_iload hx hb dX7_more_131 (lv_at hl 2 rfl) ?_
      refine lv_ldc (v := (-1000000)) hx hb C.2.2.2.1 (C.2.2.2.2.1 _ kK7_101) dX7_more_133 ?_
      obtain ⟨r135, S135, g135, h⟩ := bd2_some h
      refine z_callVb C P (As := [.int x5, .int x7, .int x6, .int (-1000000 : Int32)]) (m7_isRing g135) cW7_284 rfl zm0 rfl (by decide) hl.1 rfl (Nat.le_of_ble_eq_true rfl) dX7_more_135 ⟨Nat.zero_le _, Nat.zero_le _⟩ (fun H locs n135 P => ?_)
      refine z_if_eq (tgt := 155) hx hb dX7_more_138 (by decide) h (fun h => ?_) (fun h => ?_)
      · obtain ⟨v155, ev155, h⟩ := z_nm h
        refine lv_iinc (v := v155) (lv' := [(7, .int v155), (0, .ref (ad 0)), (5, .int x5), (6, .int x6)]) hx hb dX7_more_155 hl (k := 3) rfl (by rw [ev155]; rfl) (by decide) rfl (fun ls hl => ?_)
        refine lv_goto (tgt := 119) hx hb dX7_more_158 (by decide) ?_
        exact ih _ _ _ _ _ _ _ h P (lv_sub hl [1, 2, 3, 0] rfl)
      · refine lv_iload hx hb dX7_more_141 (lv_at hl 3 rfl) ?_
        refine lv_iconst (v := 1) hx hb dX7_more_143 (by decide) ?_
        refine lv_iadd hx hb dX7_more_144 ?_
        refine lv_bipush (v := 8) hx hb dX7_more_145 (by decide) ?_
        refine lv_iload hx hb dX7_more_147 (lv_at hl 2 rfl) ?_
        refine lv_iconst (v := 1) hx hb dX7_more_149 (by decide) ?_
        refine lv_iadd hx hb dX7_more_150 ?_
        refine lv_imul hx hb dX7_more_151 ?_
        refine lv_iadd hx hb dX7_more_152 ?_
        refine lv_i2l hx hb dX7_more_153 rfl ?_
        exact z_lret C P (Option.some.inj h) dX7_more_154
theorem w7_more_107 (C : zCx p s m args meth c cX7_more 8 RX7 (some .long) D ad cA A) {z : Int64 × Zs} :
    ∀ (n : Nat) (x5 : Int32) (x6 : Int32) (S : Zs) (H : Heap) (locs : List Loc) (ls : Array Slot), f7_more_107 n x5 x6 S = some z → zP D zM ad cA A S s H locs → lv_has ls 8 [(0, .ref (ad 0)), (5, .int x5), (6, .int x6)] → W p l e (zrm 3 72) s m args below meth c H locs 0 0 (MQ below (zQl D zM ad cA A z) args s 0 0 A) (F0 m 107 ls []) := by
  have hx := C.1
  have hb := C.2.1
  intro n
  induction n with
  | zero =>
    intro x5 x6 S H locs ls h
    cases h
  | succ n ih =>
    intro x5 x6 S H locs ls h P hl
    unfold f7_more_107 at h
    refine lv_iload hx hb dX7_more_107 (lv_at hl 2 rfl) ?_
    refine lv_aload_n hx hb dX7_more_109 rfl (lv_at hl 0 rfl) ?_
    refine gF7_176 C P zm0 rfl dX7_more_110 ?_
    refine z_icmp_ge (tgt := 167) hx hb dX7_more_113 (by decide) h (fun h => ?_) (fun h => ?_)
    · refine lv_aload_n hx hb dX7_more_167 rfl (lv_at hl 0 rfl) ?_
      refine gF7_176 C P zm0 rfl dX7_more_168 ?_
      refine lv_iconst (v := 3) hx hb dX7_more_171 (by decide) ?_
      refine z_icmp_ne (tgt := 191) hx hb dX7_more_172 (by decide) h (fun h => ?_) (fun h => ?_)
      · exact w7_more_191 C _ _ _ _ _ h P (lv_sub hl [0, 1] rfl)
      · refine lv_aload_n hx hb dX7_more_175 rfl (lv_at hl 0 rfl) ?_
        refine lv_iload hx hb dX7_more_176 (lv_at hl 1 rfl) ?_
        refine lv_iconst (v := 0) hx hb dX7_more_178 (by decide) ?_
        refine lv_iconst (v := 2) hx hb dX7_more_179 (by decide) ?_
        refine lv_iconst (v := 1) hx hb dX7_more_180 (by decide) ?_
        obtain ⟨r181, S181, g181, h⟩ := bd2_some h
        refine z_callVb C P (As := [.int x5, .int (0 : Int32), .int (2 : Int32), .int (1 : Int32)]) (m7_isRing g181) cW7_284 rfl zm0 rfl (by decide) hl.1 rfl (Nat.le_of_ble_eq_true rfl) dX7_more_181 ⟨Nat.zero_le _, Nat.zero_le _⟩ (fun H locs n181 P => ?_)
        refine z_if_eq (tgt := 191) hx hb dX7_more_184 (by decide) h (fun h => ?_) (fun h => ?_)
        · exact w7_more_191 C _ _ _ _ _ h P (lv_sub hl [0, 1] rfl)
        · refine lv_ldc2 (v := 153) hx hb C.2.2.2.1 (C.2.2.2.2.1 _ kK7_287) dX7_more_187 ?_
          exact z_lret C P (Option.some.inj h) dX7_more_190
    · refine lv_iconst (v := 0) hx hb dX7_more_116 (by decide) ?_
      refine lv_istore (lv' := [(7, .int (0 : Int32)), (0, .ref (ad 0)), (5, .int x5), (6, .int x6)]) hx hb dX7_more_117 hl (by decide) rfl (fun ls hl => ?_)
      exact w7_more_119 C ih _ _ _ _ _ _ _ _ h P (lv_sub hl [1, 2, 3, 0] rfl)
theorem w7_more_57 (C : zCx p s m args meth c cX7_more 8 RX7 (some .long) D ad cA A) {z : Int64 × Zs} :
    ∀ (n : Nat) (x5 : Int32) (x6 : Int32) (S : Zs) (H : Heap) (locs : List Loc) (ls : Array Slot), f7_more_57 n x5 x6 S = some z → zP D zM ad cA A S s H locs → lv_has ls 8 [(0, .ref (ad 0)), (5, .int x5), (6, .int x6)] → W p l e (zrm 3 72) s m args below meth c H locs 0 0 (MQ below (zQl D zM ad cA A z) args s 0 0 A) (F0 m 57 ls []) := by
  have hx := C.1
  have hb := C.2.1
  intro n
  induction n with
  | zero =>
    intro x5 x6 S H locs ls h
    cases h
  | succ n ih =>
    intro x5 x6 S H locs ls h P hl
    unfold f7_more_57 at h
    refine lv_iload hx hb dX7_more_57 (lv_at hl 2 rfl) ?_
    refine lv_aload_n hx hb dX7_more_59 rfl (lv_at hl 0 rfl) ?_
    refine gF7_179 C P zm0 rfl dX7_more_60 ?_
    refine z_icmp_ge (tgt := 99) hx hb dX7_more_63 (by decide) h (fun h => ?_) (fun h => ?_)
    · refine lv_aload_n hx hb dX7_more_99 rfl (lv_at hl 0 rfl) ?_
      refine lv_iconst (v := 0) hx hb dX7_more_100 (by decide) ?_
      refine pF7_66 C P zm0 rfl dX7_more_101 h (fun S101 H locs h P => ?_)
      refine lv_iconst (v := 1) hx hb dX7_more_104 (by decide) ?_
      refine lv_istore (lv' := [(6, .int (1 : Int32)), (0, .ref (ad 0)), (5, .int x5)]) hx hb dX7_more_105 hl (by decide) rfl (fun ls hl => ?_)
      exact w7_more_107 C _ _ _ _ _ _ _ h P (lv_sub hl [1, 2, 0] rfl)
    · refine lv_aload_n hx hb dX7_more_66 rfl (lv_at hl 0 rfl) ?_
      refine gF7_16 C P zm0 rfl dX7_more_67 ?_
      refine lv_iload hx hb dX7_more_70 (lv_at hl 1 rfl) ?_
      refine lv_iload hx hb dX7_more_72 (lv_at hl 2 rfl) ?_
      refine lv_iadd hx hb dX7_more_74 ?_
      refine z_iald C P zm3 dX7_more_75 h (fun h hi => ?_)
      refine lv_i2l hx hb dX7_more_76 rfl ?_
      refine lv_lconst (v := 1) hx hb dX7_more_77 (by decide) ?_
      refine lv_aload_n hx hb dX7_more_78 rfl (lv_at hl 0 rfl) ?_
      refine z_callVi C P (As := []) (m7_every) cW7_244 rfl zm0 rfl (by decide) hl.1 rfl (Nat.le_of_ble_eq_true rfl) dX7_more_79 ⟨Nat.zero_le _, Nat.zero_le _⟩ (fun H locs P => ?_)
      refine lv_i2l hx hb dX7_more_82 rfl ?_
      refine z_callSb C P (As := [.long ((S.1 3 (x5 + x6).toNatClampNeg).toInt64), .long (1 : Int64), .long ((f7_every S).toInt64)]) (m7_in) cW7_73 rfl (by decide) hl.1 rfl (Nat.le_of_ble_eq_true rfl) dX7_more_83 ⟨Nat.zero_le _, Nat.zero_le _⟩ (fun H locs n83 P => ?_)
      refine z_if_ne (tgt := 93) hx hb dX7_more_86 (by decide) h (fun h => ?_) (fun h => ?_)
      · obtain ⟨v93, ev93, h⟩ := z_nm h
        refine lv_iinc (v := v93) (lv' := [(6, .int v93), (0, .ref (ad 0)), (5, .int x5)]) hx hb dX7_more_93 hl (k := 2) rfl (by rw [ev93]; rfl) (by decide) rfl (fun ls hl => ?_)
        refine lv_goto (tgt := 57) hx hb dX7_more_96 (by decide) ?_
        exact ih _ _ _ _ _ _ h P (lv_sub hl [1, 2, 0] rfl)
      · refine lv_ldc2 (v := (-9000000000000000001)) hx hb C.2.2.2.1 (C.2.2.2.2.1 _ kK7_83) dX7_more_89 ?_
        exact z_lret C P (Option.some.inj h) dX7_more_92
theorem m7_more {l : Launch} {D : va_G} {cA : Nat → ClassId} {ad : Nat → Nat} {x1 : Int32} {x2 : Int32} {S : Zs} {z : Int64 × Zs} (h : f7_more x1 x2 S = some z) :
    zMl l yX7_more cX7_more 8 3 72 D zM ad cA S [.ref (ad 0), .int x1, .int x2] z := by
  refine z_enter (Qc := fun A => zQl D zM ad cA A z) (by decide +kernel) (Nat.le_of_ble_eq_true rfl) (fun p e s m below meth c A C P ls hl => ?_)
  have hx := C.1
  have hb := C.2.1
  have hl : lv_has ls 8 [(0, .ref (ad 0)), (1, .int x1), (2, .int x2)] := hl
  unfold f7_more at h
  refine lv_aload_n hx hb dX7_more_0 rfl (lv_at hl 0 rfl) ?_
  refine lv_iconst (v := 0) hx hb dX7_more_1 (by decide) ?_
  refine pF7_62 C P zm0 rfl dX7_more_2 h (fun S2 H locs h P => ?_)
  refine lv_iload_n hx hb dX7_more_5 rfl (lv_at hl 1 rfl) ?_
  refine z_callSb C P (As := [.int x1]) (m7_isRow) cW7_77 rfl (by decide) hl.1 rfl (Nat.le_of_ble_eq_true rfl) dX7_more_6 ⟨Nat.zero_le _, Nat.zero_le _⟩ (fun H locs n6 P => ?_)
  refine z_if_ne (tgt := 16) hx hb dX7_more_9 (by decide) h (fun h => ?_) (fun h => ?_)
  · refine lv_aload_n hx hb dX7_more_16 rfl (lv_at hl 0 rfl) ?_
    refine gF7_176 C P zm0 rfl dX7_more_17 ?_
    refine z_if_ne (tgt := 27) hx hb dX7_more_20 (by decide) h (fun h => ?_) (fun h => ?_)
    · refine lv_aload_n hx hb dX7_more_27 rfl (lv_at hl 0 rfl) ?_
      refine lv_iload_n hx hb dX7_more_28 rfl (lv_at hl 1 rfl) ?_
      refine lv_iload_n hx hb dX7_more_29 rfl (lv_at hl 2 rfl) ?_
      refine lv_aload_n hx hb dX7_more_30 rfl (lv_at hl 0 rfl) ?_
      refine gF7_179 C P zm0 rfl dX7_more_31 ?_
      obtain ⟨r34, S34, g34, h⟩ := bd2_some h
      refine z_callVl C P (As := [.int x1, .int x2, .int (S2.1 0 6)]) (m7_lookItems g34) cW7_263 rfl zm0 rfl (by decide) hl.1 rfl (Nat.le_of_ble_eq_true rfl) dX7_more_34 ⟨Nat.zero_le _, Nat.zero_le _⟩ (fun H locs P => ?_)
      refine lv_lstore_n (lv' := [(3, .long r34), (0, .ref (ad 0)), (1, .int x1), (2, .int x2)]) hx hb dX7_more_37 rfl hl (by decide) rfl (fun ls hl => ?_)
      refine lv_lload_n hx hb dX7_more_38 rfl (lv_at hl 0 rfl) ?_
      refine lv_lconst (v := 0) hx hb dX7_more_39 (by decide) ?_
      refine z_lcmp_ge (tgt := 46) hx hb dX7_more_40 dX7_more_41 (by decide) h (fun h => ?_) (fun h => ?_)
      · refine lv_bipush (v := 40) hx hb dX7_more_46 (by decide) ?_
        refine lv_iload_n hx hb dX7_more_48 rfl (lv_at hl 2 rfl) ?_
        refine lv_imul hx hb dX7_more_49 ?_
        refine lv_iload_n hx hb dX7_more_50 rfl (lv_at hl 3 rfl) ?_
        refine lv_iadd hx hb dX7_more_51 ?_
        refine z_topi h (fun v52 h => ?_)
        refine lv_istore (lv' := [(5, .int v52), (3, .long r34), (0, .ref (ad 0)), (1, .int x1), (2, .int x2)]) hx hb dX7_more_52 hl (by decide) rfl (fun ls hl => ?_)
        refine lv_iconst (v := 0) hx hb dX7_more_54 (by decide) ?_
        refine lv_istore (lv' := [(6, .int (0 : Int32)), (5, .int v52), (3, .long r34), (0, .ref (ad 0)), (1, .int x1), (2, .int x2)]) hx hb dX7_more_55 hl (by decide) rfl (fun ls hl => ?_)
        exact w7_more_57 C _ _ _ _ _ _ _ h P (lv_sub hl [3, 1, 0] rfl)
      · refine lv_lload_n hx hb dX7_more_44 rfl (lv_at hl 0 rfl) ?_
        exact z_lret C P (Option.some.inj h) dX7_more_45
    · refine lv_ldc2 (v := (-9000000000000000002)) hx hb C.2.2.2.1 (C.2.2.2.2.1 _ kK7_261) dX7_more_23 ?_
      exact z_lret C P (Option.some.inj h) dX7_more_26
  · refine lv_ldc2 (v := (-9000000000000000001)) hx hb C.2.2.2.1 (C.2.2.2.2.1 _ kK7_83) dX7_more_12 ?_
    exact z_lret C P (Option.some.inj h) dX7_more_15
theorem m7_stays {l : Launch} {D : va_G} {cA : Nat → ClassId} {ad : Nat → Nat} {x1 : Int32} {x2 : Int32} {x3 : Int32} {S : Zs} {z : Int64 × Zs} (h : f7_stays x1 x2 x3 S = some z) :
    zMl l yX7_stays cX7_stays 4 9 222 D zM ad cA S [.ref (ad 0), .int x1, .int x2, .int x3] z := by
  refine z_enter (Qc := fun A => zQl D zM ad cA A z) (by decide +kernel) (Nat.le_of_ble_eq_true rfl) (fun p e s m below meth c A C P ls hl => ?_)
  have hx := C.1
  have hb := C.2.1
  have hl : lv_has ls 4 [(0, .ref (ad 0)), (1, .int x1), (2, .int x2), (3, .int x3)] := hl
  unfold f7_stays at h
  refine lv_aload_n hx hb dX7_stays_0 rfl (lv_at hl 0 rfl) ?_
  refine lv_iconst (v := 0) hx hb dX7_stays_1 (by decide) ?_
  refine pF7_62 C P zm0 rfl dX7_stays_2 h (fun S2 H locs h P => ?_)
  refine lv_aload_n hx hb dX7_stays_5 rfl (lv_at hl 0 rfl) ?_
  refine lv_iload_n hx hb dX7_stays_6 rfl (lv_at hl 1 rfl) ?_
  refine z_callVb C P (As := [.int x1]) (m7_isLand) cW7_189 rfl zm0 rfl (by decide) hl.1 rfl (Nat.le_of_ble_eq_true rfl) dX7_stays_7 ⟨Nat.zero_le _, Nat.zero_le _⟩ (fun H locs n7 P => ?_)
  refine z_if_eq (tgt := 33) hx hb dX7_stays_10 (by decide) h (fun h => ?_) (fun h => ?_)
  · refine lv_ldc2 (v := (-9000000000000000001)) hx hb C.2.2.2.1 (C.2.2.2.2.1 _ kK7_83) dX7_stays_33 ?_
    exact z_lret C P (Option.some.inj h) dX7_stays_36
  · refine lv_aload_n hx hb dX7_stays_13 rfl (lv_at hl 0 rfl) ?_
    refine lv_iload_n hx hb dX7_stays_14 rfl (lv_at hl 2 rfl) ?_
    refine z_callVb C P (As := [.int x2]) (m7_isGood) cW7_192 rfl zm0 rfl (by decide) hl.1 rfl (Nat.le_of_ble_eq_true rfl) dX7_stays_15 ⟨Nat.zero_le _, Nat.zero_le _⟩ (fun H locs n15 P => ?_)
    refine z_if_eq (tgt := 33) hx hb dX7_stays_18 (by decide) h (fun h => ?_) (fun h => ?_)
    · refine lv_ldc2 (v := (-9000000000000000001)) hx hb C.2.2.2.1 (C.2.2.2.2.1 _ kK7_83) dX7_stays_33 ?_
      exact z_lret C P (Option.some.inj h) dX7_stays_36
    · refine lv_iload_n hx hb dX7_stays_21 rfl (lv_at hl 3 rfl) ?_
      refine lv_i2l hx hb dX7_stays_22 rfl ?_
      refine lv_lconst (v := 0) hx hb dX7_stays_23 (by decide) ?_
      refine lv_ldc2 (v := 900) hx hb C.2.2.2.1 (C.2.2.2.2.1 _ kK7_291) dX7_stays_24 ?_
      refine z_callSb C P (As := [.long x3.toInt64, .long (0 : Int64), .long (900 : Int64)]) (m7_in) cW7_73 rfl (by decide) hl.1 rfl (Nat.le_of_ble_eq_true rfl) dX7_stays_27 ⟨Nat.zero_le _, Nat.zero_le _⟩ (fun H locs n27 P => ?_)
      refine z_if_ne (tgt := 37) hx hb dX7_stays_30 (by decide) h (fun h => ?_) (fun h => ?_)
      · refine lv_aload_n hx hb dX7_stays_37 rfl (lv_at hl 0 rfl) ?_
        obtain ⟨S38, g38, h⟩ := bd1_some h
        refine z_callVv C P (As := []) (m7_restAll g38) cW7_254 rfl zm0 rfl (by decide) hl.1 rfl (Nat.le_of_ble_eq_true rfl) dX7_stays_38 ⟨Nat.zero_le _, Nat.zero_le _⟩ (fun H locs P => ?_)
        refine lv_ldc2 (v := 100) hx hb C.2.2.2.1 (C.2.2.2.2.1 _ kK7_293) dX7_stays_41 ?_
        refine lv_aload_n hx hb dX7_stays_44 rfl (lv_at hl 0 rfl) ?_
        refine lv_iload_n hx hb dX7_stays_45 rfl (lv_at hl 1 rfl) ?_
        refine lv_iload_n hx hb dX7_stays_46 rfl (lv_at hl 2 rfl) ?_
        obtain ⟨r47, g47, h⟩ := bd1_some h
        refine z_callVl C P (As := [.int x1, .int x2]) (m7_costOf g47) cW7_201 rfl zm0 rfl (by decide) hl.1 rfl (Nat.le_of_ble_eq_true rfl) dX7_stays_47 ⟨Nat.zero_le _, Nat.zero_le _⟩ (fun H locs P => ?_)
        refine lv_lmul hx hb dX7_stays_50 ?_
        refine lv_ldc2 (v := 100) hx hb C.2.2.2.1 (C.2.2.2.2.1 _ kK7_293) dX7_stays_51 ?_
        refine lv_iload_n hx hb dX7_stays_54 rfl (lv_at hl 3 rfl) ?_
        refine lv_i2l hx hb dX7_stays_55 rfl ?_
        refine lv_ladd hx hb dX7_stays_56 ?_
        refine lv_aload_n hx hb dX7_stays_57 rfl (lv_at hl 0 rfl) ?_
        refine lv_aload_n hx hb dX7_stays_58 rfl (lv_at hl 0 rfl) ?_
        refine z_callVi C P (As := []) (m7_every) cW7_244 rfl zm0 rfl (by decide) hl.1 rfl (Nat.le_of_ble_eq_true rfl) dX7_stays_59 ⟨Nat.zero_le _, Nat.zero_le _⟩ (fun H locs P => ?_)
        refine lv_iload_n hx hb dX7_stays_62 rfl (lv_at hl 2 rfl) ?_
        obtain ⟨r63, g63, h⟩ := bd1_some h
        refine z_callVl C P (As := [.int (f7_every S38), .int x2]) (m7_priceOf g63) cW7_205 rfl zm0 rfl (by decide) hl.1 rfl (Nat.le_of_ble_eq_true rfl) dX7_stays_63 ⟨Nat.zero_le _, Nat.zero_le _⟩ (fun H locs P => ?_)
        refine lv_lmul hx hb dX7_stays_66 ?_
        refine z_lcmp_gt (tgt := 75) hx hb dX7_stays_67 dX7_stays_68 (by decide) h (fun h => ?_) (fun h => ?_)
        · refine lv_lconst (v := 0) hx hb dX7_stays_75 (by decide) ?_
          exact z_lret C P (Option.some.inj h) dX7_stays_76
        · refine lv_lconst (v := 1) hx hb dX7_stays_71 (by decide) ?_
          refine lv_goto (tgt := 76) hx hb dX7_stays_72 (by decide) ?_
          exact z_lret C P (Option.some.inj h) dX7_stays_76
      · refine lv_ldc2 (v := (-9000000000000000001)) hx hb C.2.2.2.1 (C.2.2.2.2.1 _ kK7_83) dX7_stays_33 ?_
        exact z_lret C P (Option.some.inj h) dX7_stays_36
end ZVM5
