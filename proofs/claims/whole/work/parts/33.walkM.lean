section ZVM3
variable {p : Program} {l : Launch} {e : Env} {s : State} {m : MethodId} {args : Array Value} {below : List Frame} {meth : Method} {c : Code} {D : va_G} {cA : Nat → ClassId} {A : Nat → Prop} {ad : Nat → Nat}
theorem m7_isRowAtRest {l : Launch} {D : va_G} {cA : Nat → ClassId} {ad : Nat → Nat} {x1 : Int32} {S : Zs} {z : Int32 × Zs} (h : f7_isRowAtRest x1 S = some z) :
    zMb l yX7_isRowAtRest cX7_isRowAtRest 2 5 126 D zM ad cA S [.ref (ad 0), .int x1] z := by
  refine z_enter (Qc := fun A => zQb D zM ad cA A z) (by decide +kernel) (Nat.le_of_ble_eq_true rfl) (fun p e s m below meth c A C P ls hl => ?_)
  have hx := C.1
  have hb := C.2.1
  have hl : lv_has ls 2 [(0, .ref (ad 0)), (1, .int x1)] := hl
  unfold f7_isRowAtRest at h
  refine lv_aload_n hx hb dX7_isRowAtRest_0 rfl (lv_at hl 0 rfl) ?_
  refine lv_iload_n hx hb dX7_isRowAtRest_1 rfl (lv_at hl 1 rfl) ?_
  refine lv_aload_n hx hb dX7_isRowAtRest_2 rfl (lv_at hl 0 rfl) ?_
  refine gF7_47 C P zm0 rfl dX7_isRowAtRest_3 ?_
  refine lv_iconst (v := 0) hx hb dX7_isRowAtRest_6 (by decide) ?_
  refine z_lald C P zm13 dX7_isRowAtRest_7 h (fun h hi => ?_)
  refine lv_aload_n hx hb dX7_isRowAtRest_8 rfl (lv_at hl 0 rfl) ?_
  refine gF7_47 C P zm0 rfl dX7_isRowAtRest_9 ?_
  refine lv_iconst (v := 1) hx hb dX7_isRowAtRest_12 (by decide) ?_
  refine z_lald C P zm13 dX7_isRowAtRest_13 h (fun h hi => ?_)
  refine lv_aload_n hx hb dX7_isRowAtRest_14 rfl (lv_at hl 0 rfl) ?_
  refine gF7_47 C P zm0 rfl dX7_isRowAtRest_15 ?_
  refine lv_iconst (v := 2) hx hb dX7_isRowAtRest_18 (by decide) ?_
  refine z_lald C P zm13 dX7_isRowAtRest_19 h (fun h hi => ?_)
  obtain ⟨r20, S20, g20, h⟩ := bd2_some h
  refine z_callVb C P (As := [.int x1, .long (S.2 13 (0 : Int32).toNatClampNeg), .long (S.2 13 (1 : Int32).toNatClampNeg), .long (S.2 13 (2 : Int32).toNatClampNeg)]) (m7_isRest g20) cW7_222 rfl zm0 rfl (by decide) hl.1 rfl (Nat.le_of_ble_eq_true rfl) dX7_isRowAtRest_20 ⟨Nat.zero_le _, Nat.zero_le _⟩ (fun H locs n20 P => ?_)
  exact z_zret C P (Option.some.inj h) n20 dX7_isRowAtRest_23
theorem m7_bind {l : Launch} {D : va_G} {cA : Nat → ClassId} {ad : Nat → Nat} {x1 : Int32} {x2 : Int32} {x3 : Int32} {x4 : Int64} {S : Zs} {z : Zs} (h : f7_bind x1 x2 x3 x4 S = some z) :
    zMv l yX7_bind cX7_bind 6 0 0 D zM ad cA S [.ref (ad 0), .int x1, .int x2, .int x3, .long x4] z := by
  refine z_enter (Qc := fun A => zQv D zM ad cA A z) (by decide +kernel) (Nat.le_of_ble_eq_true rfl) (fun p e s m below meth c A C P ls hl => ?_)
  have hx := C.1
  have hb := C.2.1
  have hl : lv_has ls 6 [(0, .ref (ad 0)), (1, .int x1), (2, .int x2), (3, .int x3), (4, .long x4)] := hl
  unfold f7_bind at h
  refine lv_aload_n hx hb dX7_bind_0 rfl (lv_at hl 0 rfl) ?_
  refine gF7_47 C P zm0 rfl dX7_bind_1 ?_
  refine lv_iload_n hx hb dX7_bind_4 rfl (lv_at hl 1 rfl) ?_
  refine lv_aload_n hx hb dX7_bind_5 rfl (lv_at hl 0 rfl) ?_
  refine gF7_25 C P zm0 rfl dX7_bind_6 ?_
  refine lv_bipush (v := 6) hx hb dX7_bind_9 (by decide) ?_
  refine lv_iload_n hx hb dX7_bind_11 rfl (lv_at hl 2 rfl) ?_
  refine lv_imul hx hb dX7_bind_12 ?_
  refine lv_iload_n hx hb dX7_bind_13 rfl (lv_at hl 3 rfl) ?_
  refine lv_iadd hx hb dX7_bind_14 ?_
  refine z_iald C P zm6 dX7_bind_15 h (fun h hi => ?_)
  refine lv_i2l hx hb dX7_bind_16 rfl ?_
  refine lv_lload hx hb dX7_bind_17 (lv_at hl 4 rfl) ?_
  refine lv_lmul hx hb dX7_bind_19 ?_
  refine z_last C P zm13 dX7_bind_20 h (fun S20 H locs h P => ?_)
  refine lv_aload_n hx hb dX7_bind_21 rfl (lv_at hl 0 rfl) ?_
  refine gF7_47 C P zm0 rfl dX7_bind_22 ?_
  refine lv_iload_n hx hb dX7_bind_25 rfl (lv_at hl 2 rfl) ?_
  refine lv_aload_n hx hb dX7_bind_26 rfl (lv_at hl 0 rfl) ?_
  refine gF7_25 C P zm0 rfl dX7_bind_27 ?_
  refine lv_bipush (v := 6) hx hb dX7_bind_30 (by decide) ?_
  refine lv_iload_n hx hb dX7_bind_32 rfl (lv_at hl 1 rfl) ?_
  refine lv_imul hx hb dX7_bind_33 ?_
  refine lv_iload_n hx hb dX7_bind_34 rfl (lv_at hl 3 rfl) ?_
  refine lv_iadd hx hb dX7_bind_35 ?_
  refine z_iald C P zm6 dX7_bind_36 h (fun h hi => ?_)
  refine lv_i2l hx hb dX7_bind_37 rfl ?_
  refine lv_lload hx hb dX7_bind_38 (lv_at hl 4 rfl) ?_
  refine lv_lmul hx hb dX7_bind_40 ?_
  refine z_last C P zm13 dX7_bind_41 h (fun S41 H locs h P => ?_)
  exact z_vret C P (Option.some.inj h) dX7_bind_42
theorem w7_isPairBound_14 (C : zCx p s m args meth c cX7_isPairBound 5 RX7 (some .boolean) D ad cA A) {z : Int32 × Zs} :
    ∀ (n : Nat) (x1 : Int32) (x2 : Int32) (x3 : Int32) (x4 : Int32) (S : Zs) (H : Heap) (locs : List Loc) (ls : Array Slot), f7_isPairBound_14 n x1 x2 x3 x4 S = some z → zP D zM ad cA A S s H locs → lv_has ls 5 [(0, .ref (ad 0)), (1, .int x1), (2, .int x2), (3, .int x3), (4, .int x4)] → W p l e (zrm 6 147) s m args below meth c H locs 0 0 (MQ below (zQb D zM ad cA A z) args s 0 0 A) (F0 m 14 ls []) := by
  have hx := C.1
  have hb := C.2.1
  intro n
  induction n with
  | zero =>
    intro x1 x2 x3 x4 S H locs ls h
    cases h
  | succ n ih =>
    intro x1 x2 x3 x4 S H locs ls h P hl
    unfold f7_isPairBound_14 at h
    refine lv_iload hx hb dX7_isPairBound_14 (lv_at hl 4 rfl) ?_
    refine lv_aload_n hx hb dX7_isPairBound_16 rfl (lv_at hl 0 rfl) ?_
    refine gF7_179 C P zm0 rfl dX7_isPairBound_17 ?_
    refine z_icmp_ge (tgt := 48) hx hb dX7_isPairBound_20 (by decide) h (fun h => ?_) (fun h => ?_)
    · refine lv_iconst (v := 0) hx hb dX7_isPairBound_48 (by decide) ?_
      exact z_zret C P (Option.some.inj h) (by decide) dX7_isPairBound_49
    · refine lv_aload_n hx hb dX7_isPairBound_23 rfl (lv_at hl 0 rfl) ?_
      refine lv_iload_n hx hb dX7_isPairBound_24 rfl (lv_at hl 2 rfl) ?_
      refine lv_iload_n hx hb dX7_isPairBound_25 rfl (lv_at hl 3 rfl) ?_
      refine lv_iload hx hb dX7_isPairBound_26 (lv_at hl 4 rfl) ?_
      refine lv_lconst (v := 1) hx hb dX7_isPairBound_28 (by decide) ?_
      obtain ⟨S29, g29, h⟩ := bd1_some h
      refine z_callVv C P (As := [.int x2, .int x3, .int x4, .long (1 : Int64)]) (m7_bind g29) cW7_226 rfl zm0 rfl (by decide) hl.1 rfl (Nat.le_of_ble_eq_true rfl) dX7_isPairBound_29 ⟨Nat.zero_le _, Nat.zero_le _⟩ (fun H locs P => ?_)
      refine lv_aload_n hx hb dX7_isPairBound_32 rfl (lv_at hl 0 rfl) ?_
      refine lv_iload_n hx hb dX7_isPairBound_33 rfl (lv_at hl 1 rfl) ?_
      obtain ⟨r34, S34, g34, h⟩ := bd2_some h
      refine z_callVb C P (As := [.int x1]) (m7_isRowAtRest g34) cW7_230 rfl zm0 rfl (by decide) hl.1 rfl (Nat.le_of_ble_eq_true rfl) dX7_isPairBound_34 ⟨Nat.zero_le _, Nat.zero_le _⟩ (fun H locs n34 P => ?_)
      refine z_if_eq (tgt := 42) hx hb dX7_isPairBound_37 (by decide) h (fun h => ?_) (fun h => ?_)
      · obtain ⟨v42, ev42, h⟩ := z_nm h
        refine lv_iinc (v := v42) (lv' := [(4, .int v42), (0, .ref (ad 0)), (1, .int x1), (2, .int x2), (3, .int x3)]) hx hb dX7_isPairBound_42 hl (k := 4) rfl (by rw [ev42]; rfl) (by decide) rfl (fun ls hl => ?_)
        refine lv_goto (tgt := 14) hx hb dX7_isPairBound_45 (by decide) ?_
        exact ih _ _ _ _ _ _ _ _ h P (lv_sub hl [1, 2, 3, 4, 0] rfl)
      · refine lv_iconst (v := 1) hx hb dX7_isPairBound_40 (by decide) ?_
        exact z_zret C P (Option.some.inj h) (by decide) dX7_isPairBound_41
theorem m7_isPairBound {l : Launch} {D : va_G} {cA : Nat → ClassId} {ad : Nat → Nat} {x1 : Int32} {x2 : Int32} {x3 : Int32} {S : Zs} {z : Int32 × Zs} (h : f7_isPairBound x1 x2 x3 S = some z) :
    zMb l yX7_isPairBound cX7_isPairBound 5 6 147 D zM ad cA S [.ref (ad 0), .int x1, .int x2, .int x3] z := by
  refine z_enter (Qc := fun A => zQb D zM ad cA A z) (by decide +kernel) (Nat.le_of_ble_eq_true rfl) (fun p e s m below meth c A C P ls hl => ?_)
  have hx := C.1
  have hb := C.2.1
  have hl : lv_has ls 5 [(0, .ref (ad 0)), (1, .int x1), (2, .int x2), (3, .int x3)] := hl
  unfold f7_isPairBound at h
  refine lv_aload_n hx hb dX7_isPairBound_0 rfl (lv_at hl 0 rfl) ?_
  refine gF7_47 C P zm0 rfl dX7_isPairBound_1 ?_
  refine lv_iconst (v := 3) hx hb dX7_isPairBound_4 (by decide) ?_
  refine lv_iload_n hx hb dX7_isPairBound_5 rfl (lv_at hl 2 rfl) ?_
  refine lv_isub hx hb dX7_isPairBound_6 ?_
  refine lv_iload_n hx hb dX7_isPairBound_7 rfl (lv_at hl 3 rfl) ?_
  refine lv_isub hx hb dX7_isPairBound_8 ?_
  refine lv_lconst (v := 1) hx hb dX7_isPairBound_9 (by decide) ?_
  refine z_last C P zm13 dX7_isPairBound_10 h (fun S10 H locs h P => ?_)
  refine lv_iconst (v := 0) hx hb dX7_isPairBound_11 (by decide) ?_
  refine lv_istore (lv' := [(4, .int (0 : Int32)), (0, .ref (ad 0)), (1, .int x1), (2, .int x2), (3, .int x3)]) hx hb dX7_isPairBound_12 hl (by decide) rfl (fun ls hl => ?_)
  exact w7_isPairBound_14 C _ _ _ _ _ _ _ _ _ h P (lv_sub hl [1, 2, 3, 4, 0] rfl)
theorem w7_isParted_269 (C : zCx p s m args meth c cX7_isParted 11 RX7 (some .boolean) D ad cA A) {z : Int32 × Zs} {k43 : Int32 → Int32 → Int32 → Int32 → Int32 → Int32 → Int32 → Zs → Option (Int32 × Zs)} (hk43 : ∀ (x1 : Int32) (x2 : Int32) (x3 : Int32) (x4 : Int32) (x5 : Int32) (x6 : Int32) (x7 : Int32) (S : Zs) (H : Heap) (locs : List Loc) (ls : Array Slot), k43 x1 x2 x3 x4 x5 x6 x7 S = some z → zP D zM ad cA A S s H locs → lv_has ls 11 [(0, .ref (ad 0)), (1, .int x1), (2, .int x2), (3, .int x3), (4, .int x4), (5, .int x5), (6, .int x6), (7, .int x7)] → W p l e (zrm 6 147) s m args below meth c H locs 0 0 (MQ below (zQb D zM ad cA A z) args s 0 0 A) (F0 m 43 ls [])) (x1 : Int32) (x2 : Int32) (x3 : Int32) (x4 : Int32) (x5 : Int32) (x6 : Int32) (x7 : Int32) (S : Zs) (H : Heap) (locs : List Loc) (ls : Array Slot) (h : f7_isParted_269 k43 x1 x2 x3 x4 x5 x6 x7 S = some z) (P : zP D zM ad cA A S s H locs) (hl : lv_has ls 11 [(0, .ref (ad 0)), (1, .int x1), (2, .int x2), (3, .int x3), (4, .int x4), (5, .int x5), (6, .int x6), (7, .int x7)]) :
    W p l e (zrm 6 147) s m args below meth c H locs 0 0 (MQ below (zQb D zM ad cA A z) args s 0 0 A) (F0 m 269 ls []) := by
  have hx := C.1
  have hb := C.2.1
  unfold f7_isParted_269 at h
  refine lv_aload_n hx hb dX7_isParted_269 rfl (lv_at hl 0 rfl) ?_
  refine lv_iload_n hx hb dX7_isParted_270 rfl (lv_at hl 1 rfl) ?_
  obtain ⟨r271, S271, g271, h⟩ := bd2_some h
  refine z_callVb C P (As := [.int x1]) (m7_isRowAtRest g271) cW7_230 rfl zm0 rfl (by decide) hl.1 rfl (Nat.le_of_ble_eq_true rfl) dX7_isParted_271 ⟨Nat.zero_le _, Nat.zero_le _⟩ (fun H locs n271 P => ?_)
  refine z_if_eq (tgt := 279) hx hb dX7_isParted_274 (by decide) h (fun h => ?_) (fun h => ?_)
  · obtain ⟨v279, ev279, h⟩ := z_nm h
    refine lv_iinc (v := v279) (lv' := [(7, .int v279), (0, .ref (ad 0)), (1, .int x1), (2, .int x2), (3, .int x3), (4, .int x4), (5, .int x5), (6, .int x6)]) hx hb dX7_isParted_279 hl (k := 7) rfl (by rw [ev279]; rfl) (by decide) rfl (fun ls hl => ?_)
    refine lv_goto (tgt := 43) hx hb dX7_isParted_282 (by decide) ?_
    exact hk43 _ _ _ _ _ _ _ _ _ _ _ h P (lv_sub hl [1, 2, 3, 4, 5, 6, 7, 0] rfl)
  · refine lv_iconst (v := 1) hx hb dX7_isParted_277 (by decide) ?_
    exact z_zret C P (Option.some.inj h) (by decide) dX7_isParted_278
theorem w7_isParted_174 (C : zCx p s m args meth c cX7_isParted 11 RX7 (some .boolean) D ad cA A) {z : Int32 × Zs} {k43 : Int32 → Int32 → Int32 → Int32 → Int32 → Int32 → Int32 → Zs → Option (Int32 × Zs)} (hk43 : ∀ (x1 : Int32) (x2 : Int32) (x3 : Int32) (x4 : Int32) (x5 : Int32) (x6 : Int32) (x7 : Int32) (S : Zs) (H : Heap) (locs : List Loc) (ls : Array Slot), k43 x1 x2 x3 x4 x5 x6 x7 S = some z → zP D zM ad cA A S s H locs → lv_has ls 11 [(0, .ref (ad 0)), (1, .int x1), (2, .int x2), (3, .int x3), (4, .int x4), (5, .int x5), (6, .int x6), (7, .int x7)] → W p l e (zrm 6 147) s m args below meth c H locs 0 0 (MQ below (zQb D zM ad cA A z) args s 0 0 A) (F0 m 43 ls [])) (x1 : Int32) (x2 : Int32) (x3 : Int32) (x4 : Int32) (x5 : Int32) (x6 : Int32) (x7 : Int32) (t0 : Int32) (t1 : Int64) (S : Zs) (H : Heap) (locs : List Loc) (ls : Array Slot) (h : f7_isParted_174 k43 x1 x2 x3 x4 x5 x6 x7 t0 t1 S = some z) (P : zP D zM ad cA A S s H locs) (hl : lv_has ls 11 [(0, .ref (ad 0)), (1, .int x1), (2, .int x2), (3, .int x3), (4, .int x4), (5, .int x5), (6, .int x6), (7, .int x7)]) :
    W p l e (zrm 6 147) s m args below meth c H locs 0 0 (MQ below (zQb D zM ad cA A z) args s 0 0 A) (F0 m 174 ls [.int t0, .long t1]) := by
  have hx := C.1
  have hb := C.2.1
  unfold f7_isParted_174 at h
  refine lv_i2l hx hb dX7_isParted_174 rfl ?_
  refine lv_lmul hx hb dX7_isParted_175 ?_
  refine z_topl h (fun v176 h => ?_)
  refine lv_lstore (lv' := [(9, .long v176), (0, .ref (ad 0)), (1, .int x1), (2, .int x2), (3, .int x3), (4, .int x4), (5, .int x5), (6, .int x6), (7, .int x7)]) hx hb dX7_isParted_176 hl (by decide) rfl (fun ls hl => ?_)
  refine lv_aload_n hx hb dX7_isParted_178 rfl (lv_at hl 1 rfl) ?_
  refine gF7_47 C P zm0 rfl dX7_isParted_179 ?_
  refine lv_iload_n hx hb dX7_isParted_182 rfl (lv_at hl 3 rfl) ?_
  refine lv_aload_n hx hb dX7_isParted_183 rfl (lv_at hl 1 rfl) ?_
  refine gF7_47 C P zm0 rfl dX7_isParted_184 ?_
  refine lv_iload_n hx hb dX7_isParted_187 rfl (lv_at hl 3 rfl) ?_
  refine z_lald C P zm13 dX7_isParted_188 h (fun h hi => ?_)
  refine lv_lload hx hb dX7_isParted_189 (lv_at hl 0 rfl) ?_
  refine lv_aload_n hx hb dX7_isParted_191 rfl (lv_at hl 1 rfl) ?_
  refine gF7_22 C P zm0 rfl dX7_isParted_192 ?_
  refine lv_iload_n hx hb dX7_isParted_195 rfl (lv_at hl 3 rfl) ?_
  refine z_iald C P zm5 dX7_isParted_196 h (fun h hi => ?_)
  refine lv_i2l hx hb dX7_isParted_197 rfl ?_
  refine z_ldiv hx hb dX7_isParted_198 h (fun h => ?_)
  refine lv_lmul hx hb dX7_isParted_199 ?_
  refine z_last C P zm13 dX7_isParted_200 h (fun S200 H locs h P => ?_)
  refine lv_aload_n hx hb dX7_isParted_201 rfl (lv_at hl 1 rfl) ?_
  refine gF7_47 C P zm0 rfl dX7_isParted_202 ?_
  refine lv_iload_n hx hb dX7_isParted_205 rfl (lv_at hl 4 rfl) ?_
  refine lv_aload_n hx hb dX7_isParted_206 rfl (lv_at hl 1 rfl) ?_
  refine gF7_47 C P zm0 rfl dX7_isParted_207 ?_
  refine lv_iload_n hx hb dX7_isParted_210 rfl (lv_at hl 4 rfl) ?_
  refine z_lald C P zm13 dX7_isParted_211 h (fun h hi => ?_)
  refine lv_lload hx hb dX7_isParted_212 (lv_at hl 0 rfl) ?_
  refine lv_aload_n hx hb dX7_isParted_214 rfl (lv_at hl 1 rfl) ?_
  refine gF7_22 C P zm0 rfl dX7_isParted_215 ?_
  refine lv_iload_n hx hb dX7_isParted_218 rfl (lv_at hl 4 rfl) ?_
  refine z_iald C P zm5 dX7_isParted_219 h (fun h hi => ?_)
  refine lv_i2l hx hb dX7_isParted_220 rfl ?_
  refine z_ldiv hx hb dX7_isParted_221 h (fun h => ?_)
  refine lv_lmul hx hb dX7_isParted_222 ?_
  refine z_last C P zm13 dX7_isParted_223 h (fun S223 H locs h P => ?_)
  refine lv_iload hx hb dX7_isParted_224 (lv_at hl 5 rfl) ?_
  refine z_if_ge (tgt := 243) hx hb dX7_isParted_226 (by decide) h (fun h => ?_) (fun h => ?_)
  · refine lv_aload_n hx hb dX7_isParted_243 rfl (lv_at hl 1 rfl) ?_
    refine gF7_47 C P zm0 rfl dX7_isParted_244 ?_
    refine lv_iload hx hb dX7_isParted_247 (lv_at hl 5 rfl) ?_
    refine lv_aload_n hx hb dX7_isParted_249 rfl (lv_at hl 1 rfl) ?_
    refine gF7_47 C P zm0 rfl dX7_isParted_250 ?_
    refine lv_iload hx hb dX7_isParted_253 (lv_at hl 5 rfl) ?_
    refine z_lald C P zm13 dX7_isParted_255 h (fun h hi => ?_)
    refine lv_lload hx hb dX7_isParted_256 (lv_at hl 0 rfl) ?_
    refine lv_aload_n hx hb dX7_isParted_258 rfl (lv_at hl 1 rfl) ?_
    refine gF7_22 C P zm0 rfl dX7_isParted_259 ?_
    refine lv_iload hx hb dX7_isParted_262 (lv_at hl 5 rfl) ?_
    refine z_iald C P zm5 dX7_isParted_264 h (fun h hi => ?_)
    refine lv_i2l hx hb dX7_isParted_265 rfl ?_
    refine z_ldiv hx hb dX7_isParted_266 h (fun h => ?_)
    refine lv_lmul hx hb dX7_isParted_267 ?_
    refine z_last C P zm13 dX7_isParted_268 h (fun S268 H locs h P => ?_)
    exact w7_isParted_269 C hk43 _ _ _ _ _ _ _ _ _ _ _ h P (lv_sub hl [1, 2, 3, 4, 5, 6, 7, 8] rfl)
  · refine lv_aload_n hx hb dX7_isParted_229 rfl (lv_at hl 1 rfl) ?_
    refine gF7_47 C P zm0 rfl dX7_isParted_230 ?_
    refine lv_iconst (v := 3) hx hb dX7_isParted_233 (by decide) ?_
    refine lv_iload_n hx hb dX7_isParted_234 rfl (lv_at hl 3 rfl) ?_
    refine lv_isub hx hb dX7_isParted_235 ?_
    refine lv_iload_n hx hb dX7_isParted_236 rfl (lv_at hl 4 rfl) ?_
    refine lv_isub hx hb dX7_isParted_237 ?_
    refine lv_lconst (v := 1) hx hb dX7_isParted_238 (by decide) ?_
    refine z_last C P zm13 dX7_isParted_239 h (fun S239 H locs h P => ?_)
    refine lv_goto (tgt := 269) hx hb dX7_isParted_240 (by decide) ?_
    exact w7_isParted_269 C hk43 _ _ _ _ _ _ _ _ _ _ _ h P (lv_sub hl [1, 2, 3, 4, 5, 6, 7, 8] rfl)
theorem w7_isParted_118 (C : zCx p s m args meth c cX7_isParted 11 RX7 (some .boolean) D ad cA A) {z : Int32 × Zs} {k43 : Int32 → Int32 → Int32 → Int32 → Int32 → Int32 → Int32 → Zs → Option (Int32 × Zs)} (hk43 : ∀ (x1 : Int32) (x2 : Int32) (x3 : Int32) (x4 : Int32) (x5 : Int32) (x6 : Int32) (x7 : Int32) (S : Zs) (H : Heap) (locs : List Loc) (ls : Array Slot), k43 x1 x2 x3 x4 x5 x6 x7 S = some z → zP D zM ad cA A S s H locs → lv_has ls 11 [(0, .ref (ad 0)), (1, .int x1), (2, .int x2), (3, .int x3), (4, .int x4), (5, .int x5), (6, .int x6), (7, .int x7)] → W p l e (zrm 6 147) s m args below meth c H locs 0 0 (MQ below (zQb D zM ad cA A z) args s 0 0 A) (F0 m 43 ls [])) {k78 : Int32 → Int32 → Int32 → Int32 → Int32 → Int32 → Int32 → Int32 → Int32 → Zs → Option (Int32 × Zs)} (hk78 : ∀ (x1 : Int32) (x2 : Int32) (x3 : Int32) (x4 : Int32) (x5 : Int32) (x6 : Int32) (x7 : Int32) (x8 : Int32) (x9 : Int32) (S : Zs) (H : Heap) (locs : List Loc) (ls : Array Slot), k78 x1 x2 x3 x4 x5 x6 x7 x8 x9 S = some z → zP D zM ad cA A S s H locs → lv_has ls 11 [(0, .ref (ad 0)), (1, .int x1), (2, .int x2), (3, .int x3), (4, .int x4), (5, .int x5), (6, .int x6), (7, .int x7), (8, .int x8), (9, .int x9)] → W p l e (zrm 6 147) s m args below meth c H locs 0 0 (MQ below (zQb D zM ad cA A z) args s 0 0 A) (F0 m 78 ls [])) (x1 : Int32) (x2 : Int32) (x3 : Int32) (x4 : Int32) (x5 : Int32) (x6 : Int32) (x7 : Int32) (x8 : Int32) (x9 : Int32) (t0 : Int32) (S : Zs) (H : Heap) (locs : List Loc) (ls : Array Slot) (h : f7_isParted_118 k43 k78 x1 x2 x3 x4 x5 x6 x7 x8 x9 t0 S = some z) (P : zP D zM ad cA A S s H locs) (hl : lv_has ls 11 [(0, .ref (ad 0)), (1, .int x1), (2, .int x2), (3, .int x3), (4, .int x4), (5, .int x5), (6, .int x6), (7, .int x7), (8, .int x8), (9, .int x9)]) :
    W p l e (zrm 6 147) s m args below meth c H locs 0 0 (MQ below (zQb D zM ad cA A z) args s 0 0 A) (F0 m 118 ls [.int t0, .ref (ad 13)]) := by
  have hx := C.1
  have hb := C.2.1
  unfold f7_isParted_118 at h
  refine lv_dup2_11 hx hb dX7_isParted_118 rfl rfl ?_
  refine z_lald C P zm13 dX7_isParted_119 h (fun h hi => ?_)
  refine lv_aload_n hx hb dX7_isParted_120 rfl (lv_at hl 0 rfl) ?_
  refine gF7_19 C P zm0 rfl dX7_isParted_121 ?_
  refine lv_iload hx hb dX7_isParted_124 (lv_at hl 9 rfl) ?_
  refine z_iald C P zm4 dX7_isParted_126 h (fun h hi => ?_)
  refine lv_i2l hx hb dX7_isParted_127 rfl ?_
  refine lv_ladd hx hb dX7_isParted_128 ?_
  refine z_last C P zm13 dX7_isParted_129 h (fun S129 H locs h P => ?_)
  refine lv_iload hx hb dX7_isParted_130 (lv_at hl 8 rfl) ?_
  refine lv_iload hx hb dX7_isParted_132 (lv_at hl 6 rfl) ?_
  refine z_idiv hx hb dX7_isParted_134 h (fun h => ?_)
  refine z_topi h (fun v135 h => ?_)
  refine lv_istore (lv' := [(8, .int v135), (0, .ref (ad 0)), (1, .int x1), (2, .int x2), (3, .int x3), (4, .int x4), (5, .int x5), (6, .int x6), (7, .int x7), (9, .int x9)]) hx hb dX7_isParted_135 hl (by decide) rfl (fun ls hl => ?_)
  obtain ⟨v137, ev137, h⟩ := z_nm h
  refine lv_iinc (v := v137) (lv' := [(9, .int v137), (8, .int v135), (0, .ref (ad 0)), (1, .int x1), (2, .int x2), (3, .int x3), (4, .int x4), (5, .int x5), (6, .int x6), (7, .int x7)]) hx hb dX7_isParted_137 hl (k := 9) rfl (by rw [ev137]; rfl) (by decide) rfl (fun ls hl => ?_)
  refine lv_goto (tgt := 78) hx hb dX7_isParted_140 (by decide) ?_
  exact hk78 _ _ _ _ _ _ _ _ _ _ _ _ _ h P (lv_sub hl [2, 3, 4, 5, 6, 7, 8, 9, 1, 0] rfl)
theorem w7_isParted_78 (C : zCx p s m args meth c cX7_isParted 11 RX7 (some .boolean) D ad cA A) {z : Int32 × Zs} {k43 : Int32 → Int32 → Int32 → Int32 → Int32 → Int32 → Int32 → Zs → Option (Int32 × Zs)} (hk43 : ∀ (x1 : Int32) (x2 : Int32) (x3 : Int32) (x4 : Int32) (x5 : Int32) (x6 : Int32) (x7 : Int32) (S : Zs) (H : Heap) (locs : List Loc) (ls : Array Slot), k43 x1 x2 x3 x4 x5 x6 x7 S = some z → zP D zM ad cA A S s H locs → lv_has ls 11 [(0, .ref (ad 0)), (1, .int x1), (2, .int x2), (3, .int x3), (4, .int x4), (5, .int x5), (6, .int x6), (7, .int x7)] → W p l e (zrm 6 147) s m args below meth c H locs 0 0 (MQ below (zQb D zM ad cA A z) args s 0 0 A) (F0 m 43 ls [])) :
    ∀ (n : Nat) (x1 : Int32) (x2 : Int32) (x3 : Int32) (x4 : Int32) (x5 : Int32) (x6 : Int32) (x7 : Int32) (x8 : Int32) (x9 : Int32) (S : Zs) (H : Heap) (locs : List Loc) (ls : Array Slot), f7_isParted_78 k43 n x1 x2 x3 x4 x5 x6 x7 x8 x9 S = some z → zP D zM ad cA A S s H locs → lv_has ls 11 [(0, .ref (ad 0)), (1, .int x1), (2, .int x2), (3, .int x3), (4, .int x4), (5, .int x5), (6, .int x6), (7, .int x7), (8, .int x8), (9, .int x9)] → W p l e (zrm 6 147) s m args below meth c H locs 0 0 (MQ below (zQb D zM ad cA A z) args s 0 0 A) (F0 m 78 ls []) := by
  have hx := C.1
  have hb := C.2.1
  intro n
  induction n with
  | zero =>
    intro x1 x2 x3 x4 x5 x6 x7 x8 x9 S H locs ls h
    cases h
  | succ n ih =>
    intro x1 x2 x3 x4 x5 x6 x7 x8 x9 S H locs ls h P hl
    unfold f7_isParted_78 at h
    refine lv_iload hx hb dX7_isParted_78 (lv_at hl 9 rfl) ?_
    refine lv_aload_n hx hb dX7_isParted_80 rfl (lv_at hl 0 rfl) ?_
    refine gF7_179 C P zm0 rfl dX7_isParted_81 ?_
    refine z_icmp_ge (tgt := 143) hx hb dX7_isParted_84 (by decide) h (fun h => ?_) (fun h => ?_)
    · refine lv_aload_n hx hb dX7_isParted_143 rfl (lv_at hl 0 rfl) ?_
      refine gF7_22 C P zm0 rfl dX7_isParted_144 ?_
      refine lv_iload_n hx hb dX7_isParted_147 rfl (lv_at hl 2 rfl) ?_
      refine z_iald C P zm5 dX7_isParted_148 h (fun h hi => ?_)
      refine lv_i2l hx hb dX7_isParted_149 rfl ?_
      refine lv_aload_n hx hb dX7_isParted_150 rfl (lv_at hl 0 rfl) ?_
      refine gF7_22 C P zm0 rfl dX7_isParted_151 ?_
      refine lv_iload_n hx hb dX7_isParted_154 rfl (lv_at hl 3 rfl) ?_
      refine z_iald C P zm5 dX7_isParted_155 h (fun h hi => ?_)
      refine lv_i2l hx hb dX7_isParted_156 rfl ?_
      refine lv_lmul hx hb dX7_isParted_157 ?_
      refine lv_iload hx hb dX7_isParted_158 (lv_at hl 4 rfl) ?_
      refine z_if_ge (tgt := 167) hx hb dX7_isParted_160 (by decide) h (fun h => ?_) (fun h => ?_)
      · refine lv_aload_n hx hb dX7_isParted_167 rfl (lv_at hl 0 rfl) ?_
        refine gF7_22 C P zm0 rfl dX7_isParted_168 ?_
        refine lv_iload hx hb dX7_isParted_171 (lv_at hl 4 rfl) ?_
        refine z_iald C P zm5 dX7_isParted_173 h (fun h hi => ?_)
        exact w7_isParted_174 C hk43 _ _ _ _ _ _ _ _ _ _ _ _ _ h P (lv_sub hl [0, 1, 2, 3, 4, 5, 6, 7] rfl)
      · refine lv_iconst (v := 1) hx hb dX7_isParted_163 (by decide) ?_
        refine lv_goto (tgt := 174) hx hb dX7_isParted_164 (by decide) ?_
        exact w7_isParted_174 C hk43 _ _ _ _ _ _ _ _ _ _ _ _ _ h P (lv_sub hl [0, 1, 2, 3, 4, 5, 6, 7] rfl)
    · refine lv_aload_n hx hb dX7_isParted_87 rfl (lv_at hl 0 rfl) ?_
      refine gF7_47 C P zm0 rfl dX7_isParted_88 ?_
      refine lv_iload hx hb dX7_isParted_91 (lv_at hl 8 rfl) ?_
      refine lv_iload hx hb dX7_isParted_93 (lv_at hl 6 rfl) ?_
      refine z_irem hx hb dX7_isParted_95 h (fun h => ?_)
      refine z_if_ne (tgt := 103) hx hb dX7_isParted_96 (by decide) h (fun h => ?_) (fun h => ?_)
      · refine lv_iload hx hb dX7_isParted_103 (lv_at hl 8 rfl) ?_
        refine lv_iload hx hb dX7_isParted_105 (lv_at hl 6 rfl) ?_
        refine z_irem hx hb dX7_isParted_107 h (fun h => ?_)
        refine lv_iconst (v := 1) hx hb dX7_isParted_108 (by decide) ?_
        refine z_icmp_ne (tgt := 116) hx hb dX7_isParted_109 (by decide) h (fun h => ?_) (fun h => ?_)
        · refine lv_iload hx hb dX7_isParted_116 (lv_at hl 4 rfl) ?_
          exact w7_isParted_118 C hk43 ih _ _ _ _ _ _ _ _ _ _ _ _ _ _ h P (lv_sub hl [0, 1, 2, 3, 4, 5, 6, 7, 8, 9] rfl)
        · refine lv_iload_n hx hb dX7_isParted_112 rfl (lv_at hl 3 rfl) ?_
          refine lv_goto (tgt := 118) hx hb dX7_isParted_113 (by decide) ?_
          exact w7_isParted_118 C hk43 ih _ _ _ _ _ _ _ _ _ _ _ _ _ _ h P (lv_sub hl [0, 1, 2, 3, 4, 5, 6, 7, 8, 9] rfl)
      · refine lv_iload_n hx hb dX7_isParted_99 rfl (lv_at hl 2 rfl) ?_
        refine lv_goto (tgt := 118) hx hb dX7_isParted_100 (by decide) ?_
        exact w7_isParted_118 C hk43 ih _ _ _ _ _ _ _ _ _ _ _ _ _ _ h P (lv_sub hl [0, 1, 2, 3, 4, 5, 6, 7, 8, 9] rfl)
theorem w7_isParted_43 (C : zCx p s m args meth c cX7_isParted 11 RX7 (some .boolean) D ad cA A) {z : Int32 × Zs} :
    ∀ (n : Nat) (x1 : Int32) (x2 : Int32) (x3 : Int32) (x4 : Int32) (x5 : Int32) (x6 : Int32) (x7 : Int32) (S : Zs) (H : Heap) (locs : List Loc) (ls : Array Slot), f7_isParted_43 n x1 x2 x3 x4 x5 x6 x7 S = some z → zP D zM ad cA A S s H locs → lv_has ls 11 [(0, .ref (ad 0)), (1, .int x1), (2, .int x2), (3, .int x3), (4, .int x4), (5, .int x5), (6, .int x6), (7, .int x7)] → W p l e (zrm 6 147) s m args below meth c H locs 0 0 (MQ below (zQb D zM ad cA A z) args s 0 0 A) (F0 m 43 ls []) := by
  have hx := C.1
  have hb := C.2.1
  intro n
  induction n with
  | zero =>
    intro x1 x2 x3 x4 x5 x6 x7 S H locs ls h
    cases h
  | succ n ih =>
    intro x1 x2 x3 x4 x5 x6 x7 S H locs ls h P hl
    unfold f7_isParted_43 at h
    refine lv_iload hx hb dX7_isParted_43 (lv_at hl 7 rfl) ?_
    refine lv_iload hx hb dX7_isParted_45 (lv_at hl 5 rfl) ?_
    refine z_icmp_ge (tgt := 285) hx hb dX7_isParted_47 (by decide) h (fun h => ?_) (fun h => ?_)
    · refine lv_iconst (v := 0) hx hb dX7_isParted_285 (by decide) ?_
      exact z_zret C P (Option.some.inj h) (by decide) dX7_isParted_286
    · refine lv_aload_n hx hb dX7_isParted_50 rfl (lv_at hl 0 rfl) ?_
      refine gF7_47 C P zm0 rfl dX7_isParted_51 ?_
      refine lv_iconst (v := 0) hx hb dX7_isParted_54 (by decide) ?_
      refine lv_lconst (v := 0) hx hb dX7_isParted_55 (by decide) ?_
      refine z_last C P zm13 dX7_isParted_56 h (fun S56 H locs h P => ?_)
      refine lv_aload_n hx hb dX7_isParted_57 rfl (lv_at hl 0 rfl) ?_
      refine gF7_47 C P zm0 rfl dX7_isParted_58 ?_
      refine lv_iconst (v := 1) hx hb dX7_isParted_61 (by decide) ?_
      refine lv_lconst (v := 0) hx hb dX7_isParted_62 (by decide) ?_
      refine z_last C P zm13 dX7_isParted_63 h (fun S63 H locs h P => ?_)
      refine lv_aload_n hx hb dX7_isParted_64 rfl (lv_at hl 0 rfl) ?_
      refine gF7_47 C P zm0 rfl dX7_isParted_65 ?_
      refine lv_iconst (v := 2) hx hb dX7_isParted_68 (by decide) ?_
      refine lv_lconst (v := 0) hx hb dX7_isParted_69 (by decide) ?_
      refine z_last C P zm13 dX7_isParted_70 h (fun S70 H locs h P => ?_)
      refine lv_iload hx hb dX7_isParted_71 (lv_at hl 7 rfl) ?_
      refine lv_istore (lv' := [(8, .int x7), (0, .ref (ad 0)), (1, .int x1), (2, .int x2), (3, .int x3), (4, .int x4), (5, .int x5), (6, .int x6), (7, .int x7)]) hx hb dX7_isParted_73 hl (by decide) rfl (fun ls hl => ?_)
      refine lv_iconst (v := 0) hx hb dX7_isParted_75 (by decide) ?_
      refine lv_istore (lv' := [(9, .int (0 : Int32)), (8, .int x7), (0, .ref (ad 0)), (1, .int x1), (2, .int x2), (3, .int x3), (4, .int x4), (5, .int x5), (6, .int x6), (7, .int x7)]) hx hb dX7_isParted_76 hl (by decide) rfl (fun ls hl => ?_)
      exact w7_isParted_78 C ih _ _ _ _ _ _ _ _ _ _ _ _ _ _ h P (lv_sub hl [2, 3, 4, 5, 6, 7, 8, 9, 1, 0] rfl)
theorem w7_isParted_18 (C : zCx p s m args meth c cX7_isParted 11 RX7 (some .boolean) D ad cA A) {z : Int32 × Zs} :
    ∀ (n : Nat) (x1 : Int32) (x2 : Int32) (x3 : Int32) (x4 : Int32) (x5 : Int32) (x6 : Int32) (x7 : Int32) (S : Zs) (H : Heap) (locs : List Loc) (ls : Array Slot), f7_isParted_18 n x1 x2 x3 x4 x5 x6 x7 S = some z → zP D zM ad cA A S s H locs → lv_has ls 11 [(0, .ref (ad 0)), (1, .int x1), (2, .int x2), (3, .int x3), (4, .int x4), (5, .int x5), (6, .int x6), (7, .int x7)] → W p l e (zrm 6 147) s m args below meth c H locs 0 0 (MQ below (zQb D zM ad cA A z) args s 0 0 A) (F0 m 18 ls []) := by
  have hx := C.1
  have hb := C.2.1
  intro n
  induction n with
  | zero =>
    intro x1 x2 x3 x4 x5 x6 x7 S H locs ls h
    cases h
  | succ n ih =>
    intro x1 x2 x3 x4 x5 x6 x7 S H locs ls h P hl
    unfold f7_isParted_18 at h
    refine lv_iload hx hb dX7_isParted_18 (lv_at hl 7 rfl) ?_
    refine lv_aload_n hx hb dX7_isParted_20 rfl (lv_at hl 0 rfl) ?_
    refine gF7_179 C P zm0 rfl dX7_isParted_21 ?_
    refine z_icmp_ge (tgt := 40) hx hb dX7_isParted_24 (by decide) h (fun h => ?_) (fun h => ?_)
    · refine lv_iconst (v := 0) hx hb dX7_isParted_40 (by decide) ?_
      refine lv_istore (lv' := [(7, .int (0 : Int32)), (0, .ref (ad 0)), (1, .int x1), (2, .int x2), (3, .int x3), (4, .int x4), (5, .int x5), (6, .int x6)]) hx hb dX7_isParted_41 hl (by decide) rfl (fun ls hl => ?_)
      exact w7_isParted_43 C _ _ _ _ _ _ _ _ _ _ _ _ h P (lv_sub hl [1, 2, 3, 4, 5, 6, 7, 0] rfl)
    · refine lv_iload hx hb dX7_isParted_27 (lv_at hl 5 rfl) ?_
      refine lv_iload hx hb dX7_isParted_29 (lv_at hl 6 rfl) ?_
      refine lv_imul hx hb dX7_isParted_31 ?_
      refine z_topi h (fun v32 h => ?_)
      refine lv_istore (lv' := [(5, .int v32), (0, .ref (ad 0)), (1, .int x1), (2, .int x2), (3, .int x3), (4, .int x4), (6, .int x6), (7, .int x7)]) hx hb dX7_isParted_32 hl (by decide) rfl (fun ls hl => ?_)
      obtain ⟨v34, ev34, h⟩ := z_nm h
      refine lv_iinc (v := v34) (lv' := [(7, .int v34), (5, .int v32), (0, .ref (ad 0)), (1, .int x1), (2, .int x2), (3, .int x3), (4, .int x4), (6, .int x6)]) hx hb dX7_isParted_34 hl (k := 7) rfl (by rw [ev34]; rfl) (by decide) rfl (fun ls hl => ?_)
      refine lv_goto (tgt := 18) hx hb dX7_isParted_37 (by decide) ?_
      exact ih _ _ _ _ _ _ _ _ _ _ _ h P (lv_sub hl [2, 3, 4, 5, 6, 1, 7, 0] rfl)
theorem w7_isParted_13 (C : zCx p s m args meth c cX7_isParted 11 RX7 (some .boolean) D ad cA A) {z : Int32 × Zs} (x1 : Int32) (x2 : Int32) (x3 : Int32) (x4 : Int32) (x5 : Int32) (t0 : Int32) (S : Zs) (H : Heap) (locs : List Loc) (ls : Array Slot) (h : f7_isParted_13 x1 x2 x3 x4 x5 t0 S = some z) (P : zP D zM ad cA A S s H locs) (hl : lv_has ls 11 [(0, .ref (ad 0)), (1, .int x1), (2, .int x2), (3, .int x3), (4, .int x4), (5, .int x5)]) :
    W p l e (zrm 6 147) s m args below meth c H locs 0 0 (MQ below (zQb D zM ad cA A z) args s 0 0 A) (F0 m 13 ls [.int t0]) := by
  have hx := C.1
  have hb := C.2.1
  unfold f7_isParted_13 at h
  refine lv_istore (lv' := [(6, .int t0), (0, .ref (ad 0)), (1, .int x1), (2, .int x2), (3, .int x3), (4, .int x4), (5, .int x5)]) hx hb dX7_isParted_13 hl (by decide) rfl (fun ls hl => ?_)
  refine lv_iconst (v := 0) hx hb dX7_isParted_15 (by decide) ?_
  refine lv_istore (lv' := [(7, .int (0 : Int32)), (6, .int t0), (0, .ref (ad 0)), (1, .int x1), (2, .int x2), (3, .int x3), (4, .int x4), (5, .int x5)]) hx hb dX7_isParted_16 hl (by decide) rfl (fun ls hl => ?_)
  exact w7_isParted_18 C _ _ _ _ _ _ _ _ _ _ _ _ h P (lv_sub hl [2, 3, 4, 5, 6, 7, 1, 0] rfl)
theorem m7_isParted {l : Launch} {D : va_G} {cA : Nat → ClassId} {ad : Nat → Nat} {x1 : Int32} {x2 : Int32} {x3 : Int32} {x4 : Int32} {S : Zs} {z : Int32 × Zs} (h : f7_isParted x1 x2 x3 x4 S = some z) :
    zMb l yX7_isParted cX7_isParted 11 6 147 D zM ad cA S [.ref (ad 0), .int x1, .int x2, .int x3, .int x4] z := by
  refine z_enter (Qc := fun A => zQb D zM ad cA A z) (by decide +kernel) (Nat.le_of_ble_eq_true rfl) (fun p e s m below meth c A C P ls hl => ?_)
  have hx := C.1
  have hb := C.2.1
  have hl : lv_has ls 11 [(0, .ref (ad 0)), (1, .int x1), (2, .int x2), (3, .int x3), (4, .int x4)] := hl
  unfold f7_isParted at h
  refine lv_iconst (v := 1) hx hb dX7_isParted_0 (by decide) ?_
  refine lv_istore (lv' := [(5, .int (1 : Int32)), (0, .ref (ad 0)), (1, .int x1), (2, .int x2), (3, .int x3), (4, .int x4)]) hx hb dX7_isParted_1 hl (by decide) rfl (fun ls hl => ?_)
  refine lv_iload hx hb dX7_isParted_3 (lv_at hl 5 rfl) ?_
  refine z_if_ge (tgt := 12) hx hb dX7_isParted_5 (by decide) h (fun h => ?_) (fun h => ?_)
  · refine lv_iconst (v := 3) hx hb dX7_isParted_12 (by decide) ?_
    exact w7_isParted_13 C _ _ _ _ _ _ _ _ _ _ h P (lv_sub hl [1, 2, 3, 4, 5, 0] rfl)
  · refine lv_iconst (v := 2) hx hb dX7_isParted_8 (by decide) ?_
    refine lv_goto (tgt := 13) hx hb dX7_isParted_9 (by decide) ?_
    exact w7_isParted_13 C _ _ _ _ _ _ _ _ _ _ h P (lv_sub hl [1, 2, 3, 4, 5, 0] rfl)
theorem w7_isPartBound_164 (C : zCx p s m args meth c cX7_isPartBound 8 RX7 (some .boolean) D ad cA A) {z : Int32 × Zs} {k3 : Int32 → Int32 → Int32 → Int32 → Zs → Option (Int32 × Zs)} (hk3 : ∀ (x1 : Int32) (x2 : Int32) (x3 : Int32) (x4 : Int32) (S : Zs) (H : Heap) (locs : List Loc) (ls : Array Slot), k3 x1 x2 x3 x4 S = some z → zP D zM ad cA A S s H locs → lv_has ls 8 [(0, .ref (ad 0)), (1, .int x1), (2, .int x2), (3, .int x3), (4, .int x4)] → W p l e (zrm 6 147) s m args below meth c H locs 0 0 (MQ below (zQb D zM ad cA A z) args s 0 0 A) (F0 m 3 ls [])) :
    ∀ (n : Nat) (x1 : Int32) (x2 : Int32) (x3 : Int32) (x4 : Int32) (x5 : Int32) (S : Zs) (H : Heap) (locs : List Loc) (ls : Array Slot), f7_isPartBound_164 k3 n x1 x2 x3 x4 x5 S = some z → zP D zM ad cA A S s H locs → lv_has ls 8 [(0, .ref (ad 0)), (1, .int x1), (2, .int x2), (3, .int x3), (4, .int x4), (5, .int x5)] → W p l e (zrm 6 147) s m args below meth c H locs 0 0 (MQ below (zQb D zM ad cA A z) args s 0 0 A) (F0 m 164 ls []) := by
  have hx := C.1
  have hb := C.2.1
  intro n
  induction n with
  | zero =>
    intro x1 x2 x3 x4 x5 S H locs ls h
    cases h
  | succ n ih =>
    intro x1 x2 x3 x4 x5 S H locs ls h P hl
    unfold f7_isPartBound_164 at h
    refine lv_iload hx hb dX7_isPartBound_164 (lv_at hl 5 rfl) ?_
    refine lv_aload_n hx hb dX7_isPartBound_166 rfl (lv_at hl 0 rfl) ?_
    refine gF7_179 C P zm0 rfl dX7_isPartBound_167 ?_
    refine z_icmp_ge (tgt := 289) hx hb dX7_isPartBound_170 (by decide) h (fun h => ?_) (fun h => ?_)
    · obtain ⟨v289, ev289, h⟩ := z_nm h
      refine lv_iinc (v := v289) (lv' := [(4, .int v289), (0, .ref (ad 0)), (1, .int x1), (2, .int x2), (3, .int x3), (5, .int x5)]) hx hb dX7_isPartBound_289 hl (k := 4) rfl (by rw [ev289]; rfl) (by decide) rfl (fun ls hl => ?_)
      refine lv_goto (tgt := 3) hx hb dX7_isPartBound_292 (by decide) ?_
      exact hk3 _ _ _ _ _ _ _ _ h P (lv_sub hl [1, 2, 3, 4, 0] rfl)
    · refine lv_aload_n hx hb dX7_isPartBound_173 rfl (lv_at hl 0 rfl) ?_
      refine gF7_47 C P zm0 rfl dX7_isPartBound_174 ?_
      refine lv_iload_n hx hb dX7_isPartBound_177 rfl (lv_at hl 1 rfl) ?_
      refine lv_aload_n hx hb dX7_isPartBound_178 rfl (lv_at hl 0 rfl) ?_
      refine gF7_25 C P zm0 rfl dX7_isPartBound_179 ?_
      refine lv_bipush (v := 6) hx hb dX7_isPartBound_182 (by decide) ?_
      refine lv_iload_n hx hb dX7_isPartBound_184 rfl (lv_at hl 2 rfl) ?_
      refine lv_imul hx hb dX7_isPartBound_185 ?_
      refine lv_iload hx hb dX7_isPartBound_186 (lv_at hl 4 rfl) ?_
      refine lv_iadd hx hb dX7_isPartBound_188 ?_
      refine z_iald C P zm6 dX7_isPartBound_189 h (fun h hi => ?_)
      refine lv_i2l hx hb dX7_isPartBound_190 rfl ?_
      refine lv_aload_n hx hb dX7_isPartBound_191 rfl (lv_at hl 0 rfl) ?_
      refine gF7_25 C P zm0 rfl dX7_isPartBound_192 ?_
      refine lv_bipush (v := 6) hx hb dX7_isPartBound_195 (by decide) ?_
      refine lv_iload_n hx hb dX7_isPartBound_197 rfl (lv_at hl 3 rfl) ?_
      refine lv_imul hx hb dX7_isPartBound_198 ?_
      refine lv_iload hx hb dX7_isPartBound_199 (lv_at hl 5 rfl) ?_
      refine lv_iadd hx hb dX7_isPartBound_201 ?_
      refine z_iald C P zm6 dX7_isPartBound_202 h (fun h hi => ?_)
      refine lv_i2l hx hb dX7_isPartBound_203 rfl ?_
      refine lv_lmul hx hb dX7_isPartBound_204 ?_
      refine z_last C P zm13 dX7_isPartBound_205 h (fun S205 H locs h P => ?_)
      refine lv_aload_n hx hb dX7_isPartBound_206 rfl (lv_at hl 0 rfl) ?_
      refine gF7_47 C P zm0 rfl dX7_isPartBound_207 ?_
      refine lv_iload_n hx hb dX7_isPartBound_210 rfl (lv_at hl 2 rfl) ?_
      refine lv_aload_n hx hb dX7_isPartBound_211 rfl (lv_at hl 0 rfl) ?_
      refine gF7_25 C P zm0 rfl dX7_isPartBound_212 ?_
      refine lv_bipush (v := 6) hx hb dX7_isPartBound_215 (by decide) ?_
      refine lv_iload_n hx hb dX7_isPartBound_217 rfl (lv_at hl 1 rfl) ?_
      refine lv_imul hx hb dX7_isPartBound_218 ?_
      refine lv_iload hx hb dX7_isPartBound_219 (lv_at hl 4 rfl) ?_
      refine lv_iadd hx hb dX7_isPartBound_221 ?_
      refine z_iald C P zm6 dX7_isPartBound_222 h (fun h hi => ?_)
      refine lv_i2l hx hb dX7_isPartBound_223 rfl ?_
      refine lv_aload_n hx hb dX7_isPartBound_224 rfl (lv_at hl 0 rfl) ?_
      refine gF7_25 C P zm0 rfl dX7_isPartBound_225 ?_
      refine lv_bipush (v := 6) hx hb dX7_isPartBound_228 (by decide) ?_
      refine lv_iload_n hx hb dX7_isPartBound_230 rfl (lv_at hl 3 rfl) ?_
      refine lv_imul hx hb dX7_isPartBound_231 ?_
      refine lv_iload hx hb dX7_isPartBound_232 (lv_at hl 5 rfl) ?_
      refine lv_iadd hx hb dX7_isPartBound_234 ?_
      refine z_iald C P zm6 dX7_isPartBound_235 h (fun h hi => ?_)
      refine lv_i2l hx hb dX7_isPartBound_236 rfl ?_
      refine lv_lmul hx hb dX7_isPartBound_237 ?_
      refine z_last C P zm13 dX7_isPartBound_238 h (fun S238 H locs h P => ?_)
      refine lv_aload_n hx hb dX7_isPartBound_239 rfl (lv_at hl 0 rfl) ?_
      refine gF7_47 C P zm0 rfl dX7_isPartBound_240 ?_
      refine lv_iload_n hx hb dX7_isPartBound_243 rfl (lv_at hl 3 rfl) ?_
      refine lv_aload_n hx hb dX7_isPartBound_244 rfl (lv_at hl 0 rfl) ?_
      refine gF7_25 C P zm0 rfl dX7_isPartBound_245 ?_
      refine lv_bipush (v := 6) hx hb dX7_isPartBound_248 (by decide) ?_
      refine lv_iload_n hx hb dX7_isPartBound_250 rfl (lv_at hl 1 rfl) ?_
      refine lv_imul hx hb dX7_isPartBound_251 ?_
      refine lv_iload hx hb dX7_isPartBound_252 (lv_at hl 4 rfl) ?_
      refine lv_iadd hx hb dX7_isPartBound_254 ?_
      refine z_iald C P zm6 dX7_isPartBound_255 h (fun h hi => ?_)
      refine lv_i2l hx hb dX7_isPartBound_256 rfl ?_
      refine lv_aload_n hx hb dX7_isPartBound_257 rfl (lv_at hl 0 rfl) ?_
      refine gF7_25 C P zm0 rfl dX7_isPartBound_258 ?_
      refine lv_bipush (v := 6) hx hb dX7_isPartBound_261 (by decide) ?_
      refine lv_iload_n hx hb dX7_isPartBound_263 rfl (lv_at hl 2 rfl) ?_
      refine lv_imul hx hb dX7_isPartBound_264 ?_
      refine lv_iload hx hb dX7_isPartBound_265 (lv_at hl 5 rfl) ?_
      refine lv_iadd hx hb dX7_isPartBound_267 ?_
      refine z_iald C P zm6 dX7_isPartBound_268 h (fun h hi => ?_)
      refine lv_i2l hx hb dX7_isPartBound_269 rfl ?_
      refine lv_lmul hx hb dX7_isPartBound_270 ?_
      refine z_last C P zm13 dX7_isPartBound_271 h (fun S271 H locs h P => ?_)
      refine lv_aload_n hx hb dX7_isPartBound_272 rfl (lv_at hl 0 rfl) ?_
      refine lv_bipush (v := 7) hx hb dX7_isPartBound_273 (by decide) ?_
      obtain ⟨r275, S275, g275, h⟩ := bd2_some h
      refine z_callVb C P (As := [.int (7 : Int32)]) (m7_isRowAtRest g275) cW7_230 rfl zm0 rfl (by decide) hl.1 rfl (Nat.le_of_ble_eq_true rfl) dX7_isPartBound_275 ⟨Nat.zero_le _, Nat.zero_le _⟩ (fun H locs n275 P => ?_)
      refine z_if_eq (tgt := 283) hx hb dX7_isPartBound_278 (by decide) h (fun h => ?_) (fun h => ?_)
      · obtain ⟨v283, ev283, h⟩ := z_nm h
        refine lv_iinc (v := v283) (lv' := [(5, .int v283), (0, .ref (ad 0)), (1, .int x1), (2, .int x2), (3, .int x3), (4, .int x4)]) hx hb dX7_isPartBound_283 hl (k := 5) rfl (by rw [ev283]; rfl) (by decide) rfl (fun ls hl => ?_)
        refine lv_goto (tgt := 164) hx hb dX7_isPartBound_286 (by decide) ?_
        exact ih _ _ _ _ _ _ _ _ _ h P (lv_sub hl [1, 2, 3, 4, 5, 0] rfl)
      · refine lv_iconst (v := 1) hx hb dX7_isPartBound_281 (by decide) ?_
        exact z_zret C P (Option.some.inj h) (by decide) dX7_isPartBound_282
theorem w7_isPartBound_32 (C : zCx p s m args meth c cX7_isPartBound 8 RX7 (some .boolean) D ad cA A) {z : Int32 × Zs} {k3 : Int32 → Int32 → Int32 → Int32 → Zs → Option (Int32 × Zs)} (hk3 : ∀ (x1 : Int32) (x2 : Int32) (x3 : Int32) (x4 : Int32) (S : Zs) (H : Heap) (locs : List Loc) (ls : Array Slot), k3 x1 x2 x3 x4 S = some z → zP D zM ad cA A S s H locs → lv_has ls 8 [(0, .ref (ad 0)), (1, .int x1), (2, .int x2), (3, .int x3), (4, .int x4)] → W p l e (zrm 6 147) s m args below meth c H locs 0 0 (MQ below (zQb D zM ad cA A z) args s 0 0 A) (F0 m 3 ls [])) {k15 : Int32 → Int32 → Int32 → Int32 → Int32 → Zs → Option (Int32 × Zs)} (hk15 : ∀ (x1 : Int32) (x2 : Int32) (x3 : Int32) (x4 : Int32) (x5 : Int32) (S : Zs) (H : Heap) (locs : List Loc) (ls : Array Slot), k15 x1 x2 x3 x4 x5 S = some z → zP D zM ad cA A S s H locs → lv_has ls 8 [(0, .ref (ad 0)), (1, .int x1), (2, .int x2), (3, .int x3), (4, .int x4), (5, .int x5)] → W p l e (zrm 6 147) s m args below meth c H locs 0 0 (MQ below (zQb D zM ad cA A z) args s 0 0 A) (F0 m 15 ls [])) :
    ∀ (n : Nat) (x1 : Int32) (x2 : Int32) (x3 : Int32) (x4 : Int32) (x5 : Int32) (x6 : Int32) (x7 : Int32) (S : Zs) (H : Heap) (locs : List Loc) (ls : Array Slot), f7_isPartBound_32 k3 k15 n x1 x2 x3 x4 x5 x6 x7 S = some z → zP D zM ad cA A S s H locs → lv_has ls 8 [(0, .ref (ad 0)), (1, .int x1), (2, .int x2), (3, .int x3), (4, .int x4), (5, .int x5), (6, .int x6), (7, .int x7)] → W p l e (zrm 6 147) s m args below meth c H locs 0 0 (MQ below (zQb D zM ad cA A z) args s 0 0 A) (F0 m 32 ls []) := by
  have hx := C.1
  have hb := C.2.1
  intro n
  induction n with
  | zero =>
    intro x1 x2 x3 x4 x5 x6 x7 S H locs ls h
    cases h
  | succ n ih =>
    intro x1 x2 x3 x4 x5 x6 x7 S H locs ls h P hl
    unfold f7_isPartBound_32 at h
    refine lv_iload hx hb dX7_isPartBound_32 (lv_at hl 7 rfl) ?_
    refine lv_aload_n hx hb dX7_isPartBound_34 rfl (lv_at hl 0 rfl) ?_
    refine gF7_179 C P zm0 rfl dX7_isPartBound_35 ?_
    refine z_icmp_ge (tgt := 67) hx hb dX7_isPartBound_38 (by decide) h (fun h => ?_) (fun h => ?_)
    · refine lv_aload_n hx hb dX7_isPartBound_67 rfl (lv_at hl 0 rfl) ?_
      refine lv_iload_n hx hb dX7_isPartBound_68 rfl (lv_at hl 1 rfl) ?_
      refine lv_iload_n hx hb dX7_isPartBound_69 rfl (lv_at hl 2 rfl) ?_
      refine lv_iload hx hb dX7_isPartBound_70 (lv_at hl 4 rfl) ?_
      refine lv_aload_n hx hb dX7_isPartBound_72 rfl (lv_at hl 0 rfl) ?_
      obtain ⟨r73, g73, h⟩ := bd1_some h
      refine z_callVi C P (As := []) (m7_allShares g73) cW7_215 rfl zm0 rfl (by decide) hl.1 rfl (Nat.le_of_ble_eq_true rfl) dX7_isPartBound_73 ⟨Nat.zero_le _, Nat.zero_le _⟩ (fun H locs P => ?_)
      refine lv_iload hx hb dX7_isPartBound_76 (lv_at hl 6 rfl) ?_
      refine lv_isub hx hb dX7_isPartBound_78 ?_
      refine lv_i2l hx hb dX7_isPartBound_79 rfl ?_
      refine lv_aload_n hx hb dX7_isPartBound_80 rfl (lv_at hl 0 rfl) ?_
      refine gF7_22 C P zm0 rfl dX7_isPartBound_81 ?_
      refine lv_iload_n hx hb dX7_isPartBound_84 rfl (lv_at hl 3 rfl) ?_
      refine z_iald C P zm5 dX7_isPartBound_85 h (fun h hi => ?_)
      refine lv_i2l hx hb dX7_isPartBound_86 rfl ?_
      refine lv_lmul hx hb dX7_isPartBound_87 ?_
      obtain ⟨S88, g88, h⟩ := bd1_some h
      refine z_callVv C P (As := [.int x1, .int x2, .int x4, .long (((r73 - x6).toInt64) * ((S.1 5 x3.toNatClampNeg).toInt64))]) (m7_bind g88) cW7_226 rfl zm0 rfl (by decide) hl.1 rfl (Nat.le_of_ble_eq_true rfl) dX7_isPartBound_88 ⟨Nat.zero_le _, Nat.zero_le _⟩ (fun H locs P => ?_)
      refine lv_aload_n hx hb dX7_isPartBound_91 rfl (lv_at hl 0 rfl) ?_
      refine gF7_47 C P zm0 rfl dX7_isPartBound_92 ?_
      refine lv_iload_n hx hb dX7_isPartBound_95 rfl (lv_at hl 3 rfl) ?_
      refine lv_aload_n hx hb dX7_isPartBound_96 rfl (lv_at hl 0 rfl) ?_
      refine gF7_22 C P zm0 rfl dX7_isPartBound_97 ?_
      refine lv_iload_n hx hb dX7_isPartBound_100 rfl (lv_at hl 1 rfl) ?_
      refine z_iald C P zm5 dX7_isPartBound_101 h (fun h hi => ?_)
      refine lv_i2l hx hb dX7_isPartBound_102 rfl ?_
      refine lv_aload_n hx hb dX7_isPartBound_103 rfl (lv_at hl 0 rfl) ?_
      refine gF7_25 C P zm0 rfl dX7_isPartBound_104 ?_
      refine lv_bipush (v := 6) hx hb dX7_isPartBound_107 (by decide) ?_
      refine lv_iload_n hx hb dX7_isPartBound_109 rfl (lv_at hl 2 rfl) ?_
      refine lv_imul hx hb dX7_isPartBound_110 ?_
      refine lv_iload hx hb dX7_isPartBound_111 (lv_at hl 4 rfl) ?_
      refine lv_iadd hx hb dX7_isPartBound_113 ?_
      refine z_iald C P zm6 dX7_isPartBound_114 h (fun h hi => ?_)
      refine lv_i2l hx hb dX7_isPartBound_115 rfl ?_
      refine lv_lmul hx hb dX7_isPartBound_116 ?_
      refine lv_aload_n hx hb dX7_isPartBound_117 rfl (lv_at hl 0 rfl) ?_
      refine gF7_22 C P zm0 rfl dX7_isPartBound_118 ?_
      refine lv_iload_n hx hb dX7_isPartBound_121 rfl (lv_at hl 2 rfl) ?_
      refine z_iald C P zm5 dX7_isPartBound_122 h (fun h hi => ?_)
      refine lv_i2l hx hb dX7_isPartBound_123 rfl ?_
      refine lv_aload_n hx hb dX7_isPartBound_124 rfl (lv_at hl 0 rfl) ?_
      refine gF7_25 C P zm0 rfl dX7_isPartBound_125 ?_
      refine lv_bipush (v := 6) hx hb dX7_isPartBound_128 (by decide) ?_
      refine lv_iload_n hx hb dX7_isPartBound_130 rfl (lv_at hl 1 rfl) ?_
      refine lv_imul hx hb dX7_isPartBound_131 ?_
      refine lv_iload hx hb dX7_isPartBound_132 (lv_at hl 4 rfl) ?_
      refine lv_iadd hx hb dX7_isPartBound_134 ?_
      refine z_iald C P zm6 dX7_isPartBound_135 h (fun h hi => ?_)
      refine lv_i2l hx hb dX7_isPartBound_136 rfl ?_
      refine lv_lmul hx hb dX7_isPartBound_137 ?_
      refine lv_ladd hx hb dX7_isPartBound_138 ?_
      refine lv_iload hx hb dX7_isPartBound_139 (lv_at hl 6 rfl) ?_
      refine lv_i2l hx hb dX7_isPartBound_141 rfl ?_
      refine lv_lmul hx hb dX7_isPartBound_142 ?_
      refine z_last C P zm13 dX7_isPartBound_143 h (fun S143 H locs h P => ?_)
      refine lv_aload_n hx hb dX7_isPartBound_144 rfl (lv_at hl 0 rfl) ?_
      refine lv_bipush (v := 7) hx hb dX7_isPartBound_145 (by decide) ?_
      obtain ⟨r147, S147, g147, h⟩ := bd2_some h
      refine z_callVb C P (As := [.int (7 : Int32)]) (m7_isRowAtRest g147) cW7_230 rfl zm0 rfl (by decide) hl.1 rfl (Nat.le_of_ble_eq_true rfl) dX7_isPartBound_147 ⟨Nat.zero_le _, Nat.zero_le _⟩ (fun H locs n147 P => ?_)
      refine z_if_eq (tgt := 155) hx hb dX7_isPartBound_150 (by decide) h (fun h => ?_) (fun h => ?_)
      · obtain ⟨v155, ev155, h⟩ := z_nm h
        refine lv_iinc (v := v155) (lv' := [(5, .int v155), (0, .ref (ad 0)), (1, .int x1), (2, .int x2), (3, .int x3), (4, .int x4), (6, .int x6), (7, .int x7)]) hx hb dX7_isPartBound_155 hl (k := 5) rfl (by rw [ev155]; rfl) (by decide) rfl (fun ls hl => ?_)
        refine lv_goto (tgt := 15) hx hb dX7_isPartBound_158 (by decide) ?_
        exact hk15 _ _ _ _ _ _ _ _ _ h P (lv_sub hl [1, 2, 3, 4, 5, 0] rfl)
      · refine lv_iconst (v := 1) hx hb dX7_isPartBound_153 (by decide) ?_
        exact z_zret C P (Option.some.inj h) (by decide) dX7_isPartBound_154
    · refine lv_iload hx hb dX7_isPartBound_41 (lv_at hl 6 rfl) ?_
      refine lv_iload hx hb dX7_isPartBound_43 (lv_at hl 5 rfl) ?_
      refine lv_iload hx hb dX7_isPartBound_45 (lv_at hl 7 rfl) ?_
      refine lv_ishr hx hb dX7_isPartBound_47 ?_
      refine lv_iconst (v := 1) hx hb dX7_isPartBound_48 (by decide) ?_
      refine lv_iand hx hb dX7_isPartBound_49 ?_
      refine lv_aload_n hx hb dX7_isPartBound_50 rfl (lv_at hl 0 rfl) ?_
      refine gF7_19 C P zm0 rfl dX7_isPartBound_51 ?_
      refine lv_iload hx hb dX7_isPartBound_54 (lv_at hl 7 rfl) ?_
      refine z_iald C P zm4 dX7_isPartBound_56 h (fun h hi => ?_)
      refine lv_imul hx hb dX7_isPartBound_57 ?_
      refine lv_iadd hx hb dX7_isPartBound_58 ?_
      refine z_topi h (fun v59 h => ?_)
      refine lv_istore (lv' := [(6, .int v59), (0, .ref (ad 0)), (1, .int x1), (2, .int x2), (3, .int x3), (4, .int x4), (5, .int x5), (7, .int x7)]) hx hb dX7_isPartBound_59 hl (by decide) rfl (fun ls hl => ?_)
      obtain ⟨v61, ev61, h⟩ := z_nm h
      refine lv_iinc (v := v61) (lv' := [(7, .int v61), (6, .int v59), (0, .ref (ad 0)), (1, .int x1), (2, .int x2), (3, .int x3), (4, .int x4), (5, .int x5)]) hx hb dX7_isPartBound_61 hl (k := 7) rfl (by rw [ev61]; rfl) (by decide) rfl (fun ls hl => ?_)
      refine lv_goto (tgt := 32) hx hb dX7_isPartBound_64 (by decide) ?_
      exact ih _ _ _ _ _ _ _ _ _ _ _ h P (lv_sub hl [2, 3, 4, 5, 6, 7, 1, 0] rfl)
theorem w7_isPartBound_15 (C : zCx p s m args meth c cX7_isPartBound 8 RX7 (some .boolean) D ad cA A) {z : Int32 × Zs} {k3 : Int32 → Int32 → Int32 → Int32 → Zs → Option (Int32 × Zs)} (hk3 : ∀ (x1 : Int32) (x2 : Int32) (x3 : Int32) (x4 : Int32) (S : Zs) (H : Heap) (locs : List Loc) (ls : Array Slot), k3 x1 x2 x3 x4 S = some z → zP D zM ad cA A S s H locs → lv_has ls 8 [(0, .ref (ad 0)), (1, .int x1), (2, .int x2), (3, .int x3), (4, .int x4)] → W p l e (zrm 6 147) s m args below meth c H locs 0 0 (MQ below (zQb D zM ad cA A z) args s 0 0 A) (F0 m 3 ls [])) :
    ∀ (n : Nat) (x1 : Int32) (x2 : Int32) (x3 : Int32) (x4 : Int32) (x5 : Int32) (S : Zs) (H : Heap) (locs : List Loc) (ls : Array Slot), f7_isPartBound_15 k3 n x1 x2 x3 x4 x5 S = some z → zP D zM ad cA A S s H locs → lv_has ls 8 [(0, .ref (ad 0)), (1, .int x1), (2, .int x2), (3, .int x3), (4, .int x4), (5, .int x5)] → W p l e (zrm 6 147) s m args below meth c H locs 0 0 (MQ below (zQb D zM ad cA A z) args s 0 0 A) (F0 m 15 ls []) := by
  have hx := C.1
  have hb := C.2.1
  intro n
  induction n with
  | zero =>
    intro x1 x2 x3 x4 x5 S H locs ls h
    cases h
  | succ n ih =>
    intro x1 x2 x3 x4 x5 S H locs ls h P hl
    unfold f7_isPartBound_15 at h
    refine lv_iload hx hb dX7_isPartBound_15 (lv_at hl 5 rfl) ?_
    refine lv_iconst (v := 1) hx hb dX7_isPartBound_17 (by decide) ?_
    refine lv_aload_n hx hb dX7_isPartBound_18 rfl (lv_at hl 0 rfl) ?_
    refine gF7_179 C P zm0 rfl dX7_isPartBound_19 ?_
    refine lv_ishl hx hb dX7_isPartBound_22 ?_
    refine z_icmp_ge (tgt := 161) hx hb dX7_isPartBound_23 (by decide) h (fun h => ?_) (fun h => ?_)
    · refine lv_iconst (v := 0) hx hb dX7_isPartBound_161 (by decide) ?_
      refine lv_istore (lv' := [(5, .int (0 : Int32)), (0, .ref (ad 0)), (1, .int x1), (2, .int x2), (3, .int x3), (4, .int x4)]) hx hb dX7_isPartBound_162 hl (by decide) rfl (fun ls hl => ?_)
      exact w7_isPartBound_164 C hk3 _ _ _ _ _ _ _ _ _ _ h P (lv_sub hl [1, 2, 3, 4, 5, 0] rfl)
    · refine lv_iconst (v := 0) hx hb dX7_isPartBound_26 (by decide) ?_
      refine lv_istore (lv' := [(6, .int (0 : Int32)), (0, .ref (ad 0)), (1, .int x1), (2, .int x2), (3, .int x3), (4, .int x4), (5, .int x5)]) hx hb dX7_isPartBound_27 hl (by decide) rfl (fun ls hl => ?_)
      refine lv_iconst (v := 0) hx hb dX7_isPartBound_29 (by decide) ?_
      refine lv_istore (lv' := [(7, .int (0 : Int32)), (6, .int (0 : Int32)), (0, .ref (ad 0)), (1, .int x1), (2, .int x2), (3, .int x3), (4, .int x4), (5, .int x5)]) hx hb dX7_isPartBound_30 hl (by decide) rfl (fun ls hl => ?_)
      exact w7_isPartBound_32 C hk3 ih _ _ _ _ _ _ _ _ _ _ _ _ h P (lv_sub hl [2, 3, 4, 5, 6, 7, 1, 0] rfl)
theorem w7_isPartBound_3 (C : zCx p s m args meth c cX7_isPartBound 8 RX7 (some .boolean) D ad cA A) {z : Int32 × Zs} :
    ∀ (n : Nat) (x1 : Int32) (x2 : Int32) (x3 : Int32) (x4 : Int32) (S : Zs) (H : Heap) (locs : List Loc) (ls : Array Slot), f7_isPartBound_3 n x1 x2 x3 x4 S = some z → zP D zM ad cA A S s H locs → lv_has ls 8 [(0, .ref (ad 0)), (1, .int x1), (2, .int x2), (3, .int x3), (4, .int x4)] → W p l e (zrm 6 147) s m args below meth c H locs 0 0 (MQ below (zQb D zM ad cA A z) args s 0 0 A) (F0 m 3 ls []) := by
  have hx := C.1
  have hb := C.2.1
  intro n
  induction n with
  | zero =>
    intro x1 x2 x3 x4 S H locs ls h
    cases h
  | succ n ih =>
    intro x1 x2 x3 x4 S H locs ls h P hl
    unfold f7_isPartBound_3 at h
    refine lv_iload hx hb dX7_isPartBound_3 (lv_at hl 4 rfl) ?_
    refine lv_aload_n hx hb dX7_isPartBound_5 rfl (lv_at hl 0 rfl) ?_
    refine gF7_179 C P zm0 rfl dX7_isPartBound_6 ?_
    refine z_icmp_ge (tgt := 295) hx hb dX7_isPartBound_9 (by decide) h (fun h => ?_) (fun h => ?_)
    · refine lv_iconst (v := 0) hx hb dX7_isPartBound_295 (by decide) ?_
      exact z_zret C P (Option.some.inj h) (by decide) dX7_isPartBound_296
    · refine lv_iconst (v := 1) hx hb dX7_isPartBound_12 (by decide) ?_
      refine lv_istore (lv' := [(5, .int (1 : Int32)), (0, .ref (ad 0)), (1, .int x1), (2, .int x2), (3, .int x3), (4, .int x4)]) hx hb dX7_isPartBound_13 hl (by decide) rfl (fun ls hl => ?_)
      exact w7_isPartBound_15 C ih _ _ _ _ _ _ _ _ _ _ h P (lv_sub hl [1, 2, 3, 4, 5, 0] rfl)
theorem m7_isPartBound {l : Launch} {D : va_G} {cA : Nat → ClassId} {ad : Nat → Nat} {x1 : Int32} {x2 : Int32} {x3 : Int32} {S : Zs} {z : Int32 × Zs} (h : f7_isPartBound x1 x2 x3 S = some z) :
    zMb l yX7_isPartBound cX7_isPartBound 8 6 147 D zM ad cA S [.ref (ad 0), .int x1, .int x2, .int x3] z := by
  refine z_enter (Qc := fun A => zQb D zM ad cA A z) (by decide +kernel) (Nat.le_of_ble_eq_true rfl) (fun p e s m below meth c A C P ls hl => ?_)
  have hx := C.1
  have hb := C.2.1
  have hl : lv_has ls 8 [(0, .ref (ad 0)), (1, .int x1), (2, .int x2), (3, .int x3)] := hl
  unfold f7_isPartBound at h
  refine lv_iconst (v := 0) hx hb dX7_isPartBound_0 (by decide) ?_
  refine lv_istore (lv' := [(4, .int (0 : Int32)), (0, .ref (ad 0)), (1, .int x1), (2, .int x2), (3, .int x3)]) hx hb dX7_isPartBound_1 hl (by decide) rfl (fun ls hl => ?_)
  exact w7_isPartBound_3 C _ _ _ _ _ _ _ _ _ h P (lv_sub hl [1, 2, 3, 4, 0] rfl)
end ZVM3
