section ZVC7
variable {p : Program} {l : Launch} {e : Env} {s : State} {m : MethodId} {args : Array Value} {below : List Frame} {meth : Method} {c : Code} {D : va_G} {cA : Nat → ClassId} {A : Nat → Prop} {ad : Nat → Nat}
theorem m6_body {l : Launch} {D : va_G} {cA : Nat → ClassId} {ad : Nat → Nat} {FR LO : Nat} {kb : Int32 → Int32 → Int32 → Zs → Option (Int64 × Zs)} (hkb : ∀ (x1 x2 x3 : Int32) (S : Zs) (z : Int64 × Zs), kb x1 x2 x3 S = some z → zMl l yX6_body cX6_body 4 FR LO D zC ad cA S [.ref (ad 0), .int x1, .int x2, .int x3] z) {x1 : Int32} {x2 : Int32} {x3 : Int32} {S : Zs} {z : Int64 × Zs} (h : f6_body kb x1 x2 x3 S = some z) :
    zMl l yX6_body cX6_body 4 (FR + 20) (LO + 1200) D zC ad cA S [.ref (ad 0), .int x1, .int x2, .int x3] z := by
  refine z_enter (Qc := fun A => zQl D zC ad cA A z) (by decide +kernel) (Nat.le_of_ble_eq_true rfl) (fun p e s m below meth c A C P ls hl => ?_)
  have hx := C.1
  have hb := C.2.1
  have hl : lv_has ls 4 [(0, .ref (ad 0)), (1, .int x1), (2, .int x2), (3, .int x3)] := hl
  unfold f6_body at h
  refine lv_iload_n hx hb dX6_body_0 rfl (lv_at hl 3 rfl) ?_
  refine lv_bipush (v := 20) hx hb dX6_body_1 (by decide) ?_
  refine z_icmp_le (tgt := 8) hx hb dX6_body_3 (by decide) h (fun h => ?_) (fun h => ?_)
  · refine lv_aload_n hx hb dX6_body_8 rfl (lv_at hl 0 rfl) ?_
    refine gF6_26 C P zs0 rfl dX6_body_9 ?_
    refine lv_iload_n hx hb dX6_body_12 rfl (lv_at hl 1 rfl) ?_
    obtain ⟨S13, g13, h⟩ := bd1_some h
    refine z_callVv C P (As := [.int x1]) (m4_add g13) cW6_311 rfl zs15 rfl (show (_ : Nat) ≤ FR + 20 ∧ (_ : Nat) ≤ LO + 1200 from ⟨by omega, by omega⟩) hl.1 rfl (Nat.le_of_ble_eq_true rfl) dX6_body_13 ⟨Nat.zero_le _, Nat.zero_le _⟩ (fun H locs P => ?_)
    refine lv_iload_n hx hb dX6_body_16 rfl (lv_at hl 1 rfl) ?_
    by_cases c10 : x1 = 10
    · rw [if_pos c10] at h
      refine lv_tableIn (off := 71) (tgt := 88) hx hb dX6_body_17 (by rw [c10]; decide) (by rw [c10]; decide) (by rw [c10]; decide) (by decide) ?_
      refine lv_aload_n hx hb dX6_body_88 rfl (lv_at hl 0 rfl) ?_
      refine gF6_47 C P zs0 rfl dX6_body_89 ?_
      refine gF6_164 C P zW_37.1 rfl dX6_body_92 ?_
      refine lv_iload_n hx hb dX6_body_95 rfl (lv_at hl 2 rfl) ?_
      refine z_iald C P zW_37.2.1 dX6_body_96 h (fun h hi => ?_)
      refine lv_i2l hx hb dX6_body_97 rfl ?_
      exact z_lret C P (Option.some.inj h) dX6_body_98
    rw [if_neg c10] at h
    by_cases c11 : x1 = 11
    · rw [if_pos c11] at h
      refine lv_tableIn (off := 82) (tgt := 99) hx hb dX6_body_17 (by rw [c11]; decide) (by rw [c11]; decide) (by rw [c11]; decide) (by decide) ?_
      refine lv_aload_n hx hb dX6_body_99 rfl (lv_at hl 0 rfl) ?_
      refine lv_bipush (v := 10) hx hb dX6_body_100 (by decide) ?_
      refine lv_iload_n hx hb dX6_body_102 rfl (lv_at hl 2 rfl) ?_
      refine lv_iload_n hx hb dX6_body_103 rfl (lv_at hl 3 rfl) ?_
      refine lv_iconst (v := 1) hx hb dX6_body_104 (by decide) ?_
      refine lv_iadd hx hb dX6_body_105 ?_
      obtain ⟨r106, S106, g106, h⟩ := bd2_some h
      refine z_callVl C P (As := [.int (10 : Int32), .int x2, .int (x3 + (1 : Int32))]) (hkb _ _ _ _ _ g106) cW6_304 rfl zs0 rfl (show (_ : Nat) ≤ FR + 20 ∧ (_ : Nat) ≤ LO + 1200 from ⟨by omega, by omega⟩) hl.1 rfl (Nat.le_of_ble_eq_true rfl) dX6_body_106 ⟨Nat.zero_le _, Nat.zero_le _⟩ (fun H locs P => ?_)
      refine lv_aload_n hx hb dX6_body_109 rfl (lv_at hl 0 rfl) ?_
      refine lv_iload_n hx hb dX6_body_110 rfl (lv_at hl 2 rfl) ?_
      refine lv_iload_n hx hb dX6_body_111 rfl (lv_at hl 3 rfl) ?_
      refine lv_iconst (v := 1) hx hb dX6_body_112 (by decide) ?_
      refine lv_iadd hx hb dX6_body_113 ?_
      obtain ⟨r114, S114, g114, h⟩ := bd2_some h
      refine z_callVl C P (As := [.int x2, .int (x3 + (1 : Int32))]) (m6_markOf hkb g114) cW6_258 rfl zs0 rfl (show (_ : Nat) ≤ FR + 20 ∧ (_ : Nat) ≤ LO + 1200 from ⟨by omega, by omega⟩) hl.1 rfl (Nat.le_of_ble_eq_true rfl) dX6_body_114 ⟨Nat.zero_le _, Nat.zero_le _⟩ (fun H locs P => ?_)
      refine lv_ladd hx hb dX6_body_117 ?_
      exact z_lret C P (Option.some.inj h) dX6_body_118
    rw [if_neg c11] at h
    by_cases c12 : x1 = 12
    · rw [if_pos c12] at h
      refine lv_tableIn (off := 102) (tgt := 119) hx hb dX6_body_17 (by rw [c12]; decide) (by rw [c12]; decide) (by rw [c12]; decide) (by decide) ?_
      refine lv_aload_n hx hb dX6_body_119 rfl (lv_at hl 0 rfl) ?_
      refine lv_bipush (v := 10) hx hb dX6_body_120 (by decide) ?_
      refine lv_iload_n hx hb dX6_body_122 rfl (lv_at hl 2 rfl) ?_
      refine lv_iload_n hx hb dX6_body_123 rfl (lv_at hl 3 rfl) ?_
      refine lv_iconst (v := 1) hx hb dX6_body_124 (by decide) ?_
      refine lv_iadd hx hb dX6_body_125 ?_
      obtain ⟨r126, S126, g126, h⟩ := bd2_some h
      refine z_callVl C P (As := [.int (10 : Int32), .int x2, .int (x3 + (1 : Int32))]) (hkb _ _ _ _ _ g126) cW6_304 rfl zs0 rfl (show (_ : Nat) ≤ FR + 20 ∧ (_ : Nat) ≤ LO + 1200 from ⟨by omega, by omega⟩) hl.1 rfl (Nat.le_of_ble_eq_true rfl) dX6_body_126 ⟨Nat.zero_le _, Nat.zero_le _⟩ (fun H locs P => ?_)
      refine lv_aload_n hx hb dX6_body_129 rfl (lv_at hl 0 rfl) ?_
      refine gF6_47 C P zs0 rfl dX6_body_130 ?_
      refine lv_aload_n hx hb dX6_body_133 rfl (lv_at hl 0 rfl) ?_
      refine gF6_47 C P zs0 rfl dX6_body_134 ?_
      refine gF6_167 C P zW_37.1 rfl dX6_body_137 ?_
      refine lv_iload_n hx hb dX6_body_140 rfl (lv_at hl 2 rfl) ?_
      obtain ⟨r141, g141, h⟩ := bd1_some h
      refine z_callVi C P (As := [.ref (ad (37 + 7)), .int x2]) (m5_makersBy zW_37 zW_37.2.2.2.2.2.1 g141) cW6_174 rfl zW_37.1 rfl (show (_ : Nat) ≤ FR + 20 ∧ (_ : Nat) ≤ LO + 1200 from ⟨by omega, by omega⟩) hl.1 rfl (Nat.le_of_ble_eq_true rfl) dX6_body_141 ⟨Nat.zero_le _, Nat.zero_le _⟩ (fun H locs P => ?_)
      refine z_callSi C P (As := [.int r141]) mJ_bitCount zbit6_294 rfl (show (_ : Nat) ≤ FR + 20 ∧ (_ : Nat) ≤ LO + 1200 from ⟨by omega, by omega⟩) hl.1 rfl (Nat.le_of_ble_eq_true rfl) dX6_body_144 ⟨Nat.zero_le _, Nat.zero_le _⟩ (fun H locs P => ?_)
      refine lv_i2l hx hb dX6_body_147 rfl ?_
      refine lv_lmul hx hb dX6_body_148 ?_
      exact z_lret C P (Option.some.inj h) dX6_body_149
    rw [if_neg c12] at h
    by_cases c13 : x1 = 13
    · rw [if_pos c13] at h
      refine lv_tableIn (off := 133) (tgt := 150) hx hb dX6_body_17 (by rw [c13]; decide) (by rw [c13]; decide) (by rw [c13]; decide) (by decide) ?_
      refine lv_aload_n hx hb dX6_body_150 rfl (lv_at hl 0 rfl) ?_
      refine lv_bipush (v := 12) hx hb dX6_body_151 (by decide) ?_
      refine lv_iload_n hx hb dX6_body_153 rfl (lv_at hl 2 rfl) ?_
      refine lv_iload_n hx hb dX6_body_154 rfl (lv_at hl 3 rfl) ?_
      refine lv_iconst (v := 1) hx hb dX6_body_155 (by decide) ?_
      refine lv_iadd hx hb dX6_body_156 ?_
      obtain ⟨r157, S157, g157, h⟩ := bd2_some h
      refine z_callVl C P (As := [.int (12 : Int32), .int x2, .int (x3 + (1 : Int32))]) (hkb _ _ _ _ _ g157) cW6_304 rfl zs0 rfl (show (_ : Nat) ≤ FR + 20 ∧ (_ : Nat) ≤ LO + 1200 from ⟨by omega, by omega⟩) hl.1 rfl (Nat.le_of_ble_eq_true rfl) dX6_body_157 ⟨Nat.zero_le _, Nat.zero_le _⟩ (fun H locs P => ?_)
      refine lv_lconst (v := 1) hx hb dX6_body_160 (by decide) ?_
      refine lv_lsub hx hb dX6_body_161 ?_
      exact z_lret C P (Option.some.inj h) dX6_body_162
    rw [if_neg c13] at h
    by_cases c14 : x1 = 14
    · rw [if_pos c14] at h
      refine lv_tableIn (off := 146) (tgt := 163) hx hb dX6_body_17 (by rw [c14]; decide) (by rw [c14]; decide) (by rw [c14]; decide) (by decide) ?_
      refine lv_aload_n hx hb dX6_body_163 rfl (lv_at hl 0 rfl) ?_
      refine lv_bipush (v := 11) hx hb dX6_body_164 (by decide) ?_
      refine lv_iload_n hx hb dX6_body_166 rfl (lv_at hl 2 rfl) ?_
      refine lv_iload_n hx hb dX6_body_167 rfl (lv_at hl 3 rfl) ?_
      refine lv_iconst (v := 1) hx hb dX6_body_168 (by decide) ?_
      refine lv_iadd hx hb dX6_body_169 ?_
      obtain ⟨r170, S170, g170, h⟩ := bd2_some h
      refine z_callVl C P (As := [.int (11 : Int32), .int x2, .int (x3 + (1 : Int32))]) (hkb _ _ _ _ _ g170) cW6_304 rfl zs0 rfl (show (_ : Nat) ≤ FR + 20 ∧ (_ : Nat) ≤ LO + 1200 from ⟨by omega, by omega⟩) hl.1 rfl (Nat.le_of_ble_eq_true rfl) dX6_body_170 ⟨Nat.zero_le _, Nat.zero_le _⟩ (fun H locs P => ?_)
      refine lv_ldc2 (v := 2) hx hb C.2.2.2.1 (C.2.2.2.2.1 _ kK6_237) dX6_body_173 ?_
      refine lv_lmul hx hb dX6_body_176 ?_
      exact z_lret C P (Option.some.inj h) dX6_body_177
    rw [if_neg c14] at h
    by_cases c15 : x1 = 15
    · rw [if_pos c15] at h
      refine lv_tableIn (off := 161) (tgt := 178) hx hb dX6_body_17 (by rw [c15]; decide) (by rw [c15]; decide) (by rw [c15]; decide) (by decide) ?_
      refine lv_aload_n hx hb dX6_body_178 rfl (lv_at hl 0 rfl) ?_
      refine lv_bipush (v := 14) hx hb dX6_body_179 (by decide) ?_
      refine lv_iload_n hx hb dX6_body_181 rfl (lv_at hl 2 rfl) ?_
      refine lv_iload_n hx hb dX6_body_182 rfl (lv_at hl 3 rfl) ?_
      refine lv_iconst (v := 1) hx hb dX6_body_183 (by decide) ?_
      refine lv_iadd hx hb dX6_body_184 ?_
      obtain ⟨r185, S185, g185, h⟩ := bd2_some h
      refine z_callVl C P (As := [.int (14 : Int32), .int x2, .int (x3 + (1 : Int32))]) (hkb _ _ _ _ _ g185) cW6_304 rfl zs0 rfl (show (_ : Nat) ≤ FR + 20 ∧ (_ : Nat) ≤ LO + 1200 from ⟨by omega, by omega⟩) hl.1 rfl (Nat.le_of_ble_eq_true rfl) dX6_body_185 ⟨Nat.zero_le _, Nat.zero_le _⟩ (fun H locs P => ?_)
      refine lv_aload_n hx hb dX6_body_188 rfl (lv_at hl 0 rfl) ?_
      refine lv_iload_n hx hb dX6_body_189 rfl (lv_at hl 2 rfl) ?_
      refine lv_iload_n hx hb dX6_body_190 rfl (lv_at hl 3 rfl) ?_
      refine lv_iconst (v := 1) hx hb dX6_body_191 (by decide) ?_
      refine lv_iadd hx hb dX6_body_192 ?_
      obtain ⟨r193, S193, g193, h⟩ := bd2_some h
      refine z_callVl C P (As := [.int x2, .int (x3 + (1 : Int32))]) (m6_markOf hkb g193) cW6_258 rfl zs0 rfl (show (_ : Nat) ≤ FR + 20 ∧ (_ : Nat) ≤ LO + 1200 from ⟨by omega, by omega⟩) hl.1 rfl (Nat.le_of_ble_eq_true rfl) dX6_body_193 ⟨Nat.zero_le _, Nat.zero_le _⟩ (fun H locs P => ?_)
      refine lv_lsub hx hb dX6_body_196 ?_
      exact z_lret C P (Option.some.inj h) dX6_body_197
    rw [if_neg c15] at h
    by_cases c20 : x1 = 20
    · rw [if_pos c20] at h
      refine lv_tableIn (off := 181) (tgt := 198) hx hb dX6_body_17 (by rw [c20]; decide) (by rw [c20]; decide) (by rw [c20]; decide) (by decide) ?_
      refine lv_iload_n hx hb dX6_body_198 rfl (lv_at hl 2 rfl) ?_
      refine lv_i2l hx hb dX6_body_199 rfl ?_
      exact z_lret C P (Option.some.inj h) dX6_body_200
    rw [if_neg c20] at h
    by_cases c21 : x1 = 21
    · rw [if_pos c21] at h
      refine lv_tableIn (off := 184) (tgt := 201) hx hb dX6_body_17 (by rw [c21]; decide) (by rw [c21]; decide) (by rw [c21]; decide) (by decide) ?_
      refine lv_aload_n hx hb dX6_body_201 rfl (lv_at hl 0 rfl) ?_
      refine lv_bipush (v := 20) hx hb dX6_body_202 (by decide) ?_
      refine lv_iload_n hx hb dX6_body_204 rfl (lv_at hl 2 rfl) ?_
      refine lv_iload_n hx hb dX6_body_205 rfl (lv_at hl 3 rfl) ?_
      refine lv_iconst (v := 1) hx hb dX6_body_206 (by decide) ?_
      refine lv_iadd hx hb dX6_body_207 ?_
      obtain ⟨r208, S208, g208, h⟩ := bd2_some h
      refine z_callVl C P (As := [.int (20 : Int32), .int x2, .int (x3 + (1 : Int32))]) (hkb _ _ _ _ _ g208) cW6_304 rfl zs0 rfl (show (_ : Nat) ≤ FR + 20 ∧ (_ : Nat) ≤ LO + 1200 from ⟨by omega, by omega⟩) hl.1 rfl (Nat.le_of_ble_eq_true rfl) dX6_body_208 ⟨Nat.zero_le _, Nat.zero_le _⟩ (fun H locs P => ?_)
      refine lv_bipush (v := 10) hx hb dX6_body_211 (by decide) ?_
      refine lv_aload_n hx hb dX6_body_213 rfl (lv_at hl 0 rfl) ?_
      refine gF6_47 C P zs0 rfl dX6_body_214 ?_
      refine lv_iload_n hx hb dX6_body_217 rfl (lv_at hl 2 rfl) ?_
      obtain ⟨r218, g218, h⟩ := bd1_some h
      refine z_callVi C P (As := [.int x2]) (m5_firstMaker zW_37 g218) cW6_315 rfl zW_37.1 rfl (show (_ : Nat) ≤ FR + 20 ∧ (_ : Nat) ≤ LO + 1200 from ⟨by omega, by omega⟩) hl.1 rfl (Nat.le_of_ble_eq_true rfl) dX6_body_218 ⟨Nat.zero_le _, Nat.zero_le _⟩ (fun H locs P => ?_)
      refine lv_imul hx hb dX6_body_221 ?_
      refine lv_i2l hx hb dX6_body_222 rfl ?_
      refine lv_ladd hx hb dX6_body_223 ?_
      exact z_lret C P (Option.some.inj h) dX6_body_224
    rw [if_neg c21] at h
    by_cases c22 : x1 = 22
    · rw [if_pos c22] at h
      refine lv_tableIn (off := 208) (tgt := 225) hx hb dX6_body_17 (by rw [c22]; decide) (by rw [c22]; decide) (by rw [c22]; decide) (by decide) ?_
      refine lv_aload_n hx hb dX6_body_225 rfl (lv_at hl 0 rfl) ?_
      refine lv_bipush (v := 20) hx hb dX6_body_226 (by decide) ?_
      refine lv_iload_n hx hb dX6_body_228 rfl (lv_at hl 2 rfl) ?_
      refine lv_iload_n hx hb dX6_body_229 rfl (lv_at hl 3 rfl) ?_
      refine lv_iconst (v := 1) hx hb dX6_body_230 (by decide) ?_
      refine lv_iadd hx hb dX6_body_231 ?_
      obtain ⟨r232, S232, g232, h⟩ := bd2_some h
      refine z_callVl C P (As := [.int (20 : Int32), .int x2, .int (x3 + (1 : Int32))]) (hkb _ _ _ _ _ g232) cW6_304 rfl zs0 rfl (show (_ : Nat) ≤ FR + 20 ∧ (_ : Nat) ≤ LO + 1200 from ⟨by omega, by omega⟩) hl.1 rfl (Nat.le_of_ble_eq_true rfl) dX6_body_232 ⟨Nat.zero_le _, Nat.zero_le _⟩ (fun H locs P => ?_)
      refine lv_aload_n hx hb dX6_body_235 rfl (lv_at hl 0 rfl) ?_
      refine lv_iload_n hx hb dX6_body_236 rfl (lv_at hl 2 rfl) ?_
      refine lv_iload_n hx hb dX6_body_237 rfl (lv_at hl 3 rfl) ?_
      refine lv_iconst (v := 1) hx hb dX6_body_238 (by decide) ?_
      refine lv_iadd hx hb dX6_body_239 ?_
      obtain ⟨r240, S240, g240, h⟩ := bd2_some h
      refine z_callVl C P (As := [.int x2, .int (x3 + (1 : Int32))]) (m6_sizeOf hkb g240) cW6_254 rfl zs0 rfl (show (_ : Nat) ≤ FR + 20 ∧ (_ : Nat) ≤ LO + 1200 from ⟨by omega, by omega⟩) hl.1 rfl (Nat.le_of_ble_eq_true rfl) dX6_body_240 ⟨Nat.zero_le _, Nat.zero_le _⟩ (fun H locs P => ?_)
      refine lv_ladd hx hb dX6_body_243 ?_
      exact z_lret C P (Option.some.inj h) dX6_body_244
    rw [if_neg c22] at h
    by_cases c23 : x1 = 23
    · rw [if_pos c23] at h
      refine lv_tableIn (off := 228) (tgt := 245) hx hb dX6_body_17 (by rw [c23]; decide) (by rw [c23]; decide) (by rw [c23]; decide) (by decide) ?_
      refine lv_aload_n hx hb dX6_body_245 rfl (lv_at hl 0 rfl) ?_
      refine lv_bipush (v := 21) hx hb dX6_body_246 (by decide) ?_
      refine lv_iload_n hx hb dX6_body_248 rfl (lv_at hl 2 rfl) ?_
      refine lv_iload_n hx hb dX6_body_249 rfl (lv_at hl 3 rfl) ?_
      refine lv_iconst (v := 1) hx hb dX6_body_250 (by decide) ?_
      refine lv_iadd hx hb dX6_body_251 ?_
      obtain ⟨r252, S252, g252, h⟩ := bd2_some h
      refine z_callVl C P (As := [.int (21 : Int32), .int x2, .int (x3 + (1 : Int32))]) (hkb _ _ _ _ _ g252) cW6_304 rfl zs0 rfl (show (_ : Nat) ≤ FR + 20 ∧ (_ : Nat) ≤ LO + 1200 from ⟨by omega, by omega⟩) hl.1 rfl (Nat.le_of_ble_eq_true rfl) dX6_body_252 ⟨Nat.zero_le _, Nat.zero_le _⟩ (fun H locs P => ?_)
      refine lv_ldc2 (v := 100) hx hb C.2.2.2.1 (C.2.2.2.2.1 _ kK6_232) dX6_body_255 ?_
      refine lv_ladd hx hb dX6_body_258 ?_
      exact z_lret C P (Option.some.inj h) dX6_body_259
    rw [if_neg c23] at h
    by_cases c16 : x1 = 16
    · refine lv_tableIn (off := 243) (tgt := 260) hx hb dX6_body_17 (by rw [c16]; decide) (by rw [c16]; decide) (by rw [c16]; decide) (by decide) ?_
      refine lv_lconst (v := 0) hx hb dX6_body_260 (by decide) ?_
      exact z_lret C P (Option.some.inj h) dX6_body_261
    by_cases c17 : x1 = 17
    · refine lv_tableIn (off := 243) (tgt := 260) hx hb dX6_body_17 (by rw [c17]; decide) (by rw [c17]; decide) (by rw [c17]; decide) (by decide) ?_
      refine lv_lconst (v := 0) hx hb dX6_body_260 (by decide) ?_
      exact z_lret C P (Option.some.inj h) dX6_body_261
    by_cases c18 : x1 = 18
    · refine lv_tableIn (off := 243) (tgt := 260) hx hb dX6_body_17 (by rw [c18]; decide) (by rw [c18]; decide) (by rw [c18]; decide) (by decide) ?_
      refine lv_lconst (v := 0) hx hb dX6_body_260 (by decide) ?_
      exact z_lret C P (Option.some.inj h) dX6_body_261
    by_cases c19 : x1 = 19
    · refine lv_tableIn (off := 243) (tgt := 260) hx hb dX6_body_17 (by rw [c19]; decide) (by rw [c19]; decide) (by rw [c19]; decide) (by decide) ?_
      refine lv_lconst (v := 0) hx hb dX6_body_260 (by decide) ?_
      exact z_lret C P (Option.some.inj h) dX6_body_261
    have q10 : ¬ x1.toInt = 10 := zne c10 (by decide)
    have q11 : ¬ x1.toInt = 11 := zne c11 (by decide)
    have q12 : ¬ x1.toInt = 12 := zne c12 (by decide)
    have q13 : ¬ x1.toInt = 13 := zne c13 (by decide)
    have q14 : ¬ x1.toInt = 14 := zne c14 (by decide)
    have q15 : ¬ x1.toInt = 15 := zne c15 (by decide)
    have q16 : ¬ x1.toInt = 16 := zne c16 (by decide)
    have q17 : ¬ x1.toInt = 17 := zne c17 (by decide)
    have q18 : ¬ x1.toInt = 18 := zne c18 (by decide)
    have q19 : ¬ x1.toInt = 19 := zne c19 (by decide)
    have q20 : ¬ x1.toInt = 20 := zne c20 (by decide)
    have q21 : ¬ x1.toInt = 21 := zne c21 (by decide)
    have q22 : ¬ x1.toInt = 22 := zne c22 (by decide)
    have q23 : ¬ x1.toInt = 23 := zne c23 (by decide)
    refine lv_tableOut (tgt := 260) hx hb dX6_body_17 (show x1.toInt < 10 ∨ 23 < x1.toInt by omega) (by decide) ?_
    refine lv_lconst (v := 0) hx hb dX6_body_260 (by decide) ?_
    exact z_lret C P (Option.some.inj h) dX6_body_261
  · refine lv_lconst (v := 0) hx hb dX6_body_6 (by decide) ?_
    exact z_lret C P (Option.some.inj h) dX6_body_7
theorem m6_bodyN {l : Launch} {D : va_G} {cA : Nat → ClassId} {ad : Nat → Nat} : ∀ (n : Nat) (x1 x2 x3 : Int32) (S : Zs) (z : Int64 × Zs), f6_bodyN n x1 x2 x3 S = some z → zMl l yX6_body cX6_body 4 (20 * n) (1200 * n) D zC ad cA S [.ref (ad 0), .int x1, .int x2, .int x3] z := by
  intro n
  induction n with
  | zero =>
    intro x1 x2 x3 S z h
    cases h
  | succ n ih =>
    intro x1 x2 x3 S z h
    exact m6_body ih h
theorem m4_empty {l : Launch} {D : va_G} {cA : Nat → ClassId} {ad : Nat → Nat} {S : Zs} {z : Zs} (h : f4_empty S = some z) :
    zMv l yX4_empty cX4_empty 1 0 0 D zC ad cA S [.ref (ad 15)] z := by
  refine z_enter (Qc := fun A => zQv D zC ad cA A z) (by decide +kernel) (Nat.le_of_ble_eq_true rfl) (fun p e s m below meth c A C P ls hl => ?_)
  have hx := C.1
  have hb := C.2.1
  have hl : lv_has ls 1 [(0, .ref (ad 15))] := hl
  unfold f4_empty at h
  refine lv_aload_n hx hb dX4_empty_0 rfl (lv_at hl 0 rfl) ?_
  refine lv_iconst (v := 0) hx hb dX4_empty_1 (by decide) ?_
  refine pF4_15 C P zs15 rfl dX4_empty_2 h (fun S2 H locs h P => ?_)
  exact z_vret C P (Option.some.inj h) dX4_empty_5
theorem m6_ask {l : Launch} {D : va_G} {cA : Nat → ClassId} {ad : Nat → Nat} {x1 : Int32} {x2 : Int32} {S : Zs} {z : Int64 × Zs} (h : f6_ask x1 x2 S = some z) :
    zMl l yX6_ask cX6_ask 3 211 12622 D zC ad cA S [.ref (ad 0), .int x1, .int x2] z := by
  refine z_enter (Qc := fun A => zQl D zC ad cA A z) (by decide +kernel) (Nat.le_of_ble_eq_true rfl) (fun p e s m below meth c A C P ls hl => ?_)
  have hx := C.1
  have hb := C.2.1
  have hl : lv_has ls 3 [(0, .ref (ad 0)), (1, .int x1), (2, .int x2)] := hl
  unfold f6_ask at h
  refine lv_aload_n hx hb dX6_ask_0 rfl (lv_at hl 0 rfl) ?_
  refine gF6_47 C P zs0 rfl dX6_ask_1 ?_
  refine lv_iload_n hx hb dX6_ask_4 rfl (lv_at hl 1 rfl) ?_
  refine z_callVb C P (As := [.int x1]) (m5_isGood zW_37) cW6_154 rfl zW_37.1 rfl (by decide) hl.1 rfl (Nat.le_of_ble_eq_true rfl) dX6_ask_5 ⟨Nat.zero_le _, Nat.zero_le _⟩ (fun H locs n5 P => ?_)
  refine z_if_eq (tgt := 20) hx hb dX6_ask_8 (by decide) h (fun h => ?_) (fun h => ?_)
  · refine lv_ldc2 (v := (-9000000000000000001)) hx hb C.2.2.2.1 (C.2.2.2.2.1 _ kK6_80) dX6_ask_20 ?_
    exact z_lret C P (Option.some.inj h) dX6_ask_23
  · refine lv_iload_n hx hb dX6_ask_11 rfl (lv_at hl 2 rfl) ?_
    refine z_if_lt (tgt := 20) hx hb dX6_ask_12 (by decide) h (fun h => ?_) (fun h => ?_)
    · refine lv_ldc2 (v := (-9000000000000000001)) hx hb C.2.2.2.1 (C.2.2.2.2.1 _ kK6_80) dX6_ask_20 ?_
      exact z_lret C P (Option.some.inj h) dX6_ask_23
    · refine lv_iload_n hx hb dX6_ask_15 rfl (lv_at hl 2 rfl) ?_
      refine lv_iconst (v := 1) hx hb dX6_ask_16 (by decide) ?_
      refine z_icmp_le (tgt := 24) hx hb dX6_ask_17 (by decide) h (fun h => ?_) (fun h => ?_)
      · refine lv_aload_n hx hb dX6_ask_24 rfl (lv_at hl 0 rfl) ?_
        refine gF6_26 C P zs0 rfl dX6_ask_25 ?_
        obtain ⟨S28, g28, h⟩ := bd1_some h
        refine z_callVv C P (As := []) (m4_empty g28) cW6_253 rfl zs15 rfl (by decide) hl.1 rfl (Nat.le_of_ble_eq_true rfl) dX6_ask_28 ⟨Nat.zero_le _, Nat.zero_le _⟩ (fun H locs P => ?_)
        refine lv_iload_n hx hb dX6_ask_31 rfl (lv_at hl 2 rfl) ?_
        refine z_if_ne (tgt := 44) hx hb dX6_ask_32 (by decide) h (fun h => ?_) (fun h => ?_)
        · refine lv_aload_n hx hb dX6_ask_44 rfl (lv_at hl 0 rfl) ?_
          refine lv_iload_n hx hb dX6_ask_45 rfl (lv_at hl 1 rfl) ?_
          refine lv_iconst (v := 0) hx hb dX6_ask_46 (by decide) ?_
          obtain ⟨r47, S47, g47, h⟩ := bd2_some h
          refine z_callVl C P (As := [.int x1, .int (0 : Int32)]) (m6_markOf (m6_bodyN 10) g47) cW6_258 rfl zs0 rfl (by decide) hl.1 rfl (Nat.le_of_ble_eq_true rfl) dX6_ask_47 ⟨Nat.zero_le _, Nat.zero_le _⟩ (fun H locs P => ?_)
          exact z_lret C P (Option.some.inj h) dX6_ask_50
        · refine lv_aload_n hx hb dX6_ask_35 rfl (lv_at hl 0 rfl) ?_
          refine lv_iload_n hx hb dX6_ask_36 rfl (lv_at hl 1 rfl) ?_
          refine lv_iconst (v := 0) hx hb dX6_ask_37 (by decide) ?_
          obtain ⟨r38, S38, g38, h⟩ := bd2_some h
          refine z_callVl C P (As := [.int x1, .int (0 : Int32)]) (m6_sizeOf (m6_bodyN 10) g38) cW6_254 rfl zs0 rfl (by decide) hl.1 rfl (Nat.le_of_ble_eq_true rfl) dX6_ask_38 ⟨Nat.zero_le _, Nat.zero_le _⟩ (fun H locs P => ?_)
          refine lv_goto (tgt := 50) hx hb dX6_ask_41 (by decide) ?_
          exact z_lret C P (Option.some.inj h) dX6_ask_50
      · refine lv_ldc2 (v := (-9000000000000000001)) hx hb C.2.2.2.1 (C.2.2.2.2.1 _ kK6_80) dX6_ask_20 ?_
        exact z_lret C P (Option.some.inj h) dX6_ask_23
theorem m4_at {l : Launch} {D : va_G} {cA : Nat → ClassId} {ad : Nat → Nat} {x1 : Int32} {S : Zs} {z : Int32} (h : f4_at S x1 = some z) :
    zMi l yX4_at cX4_at 2 0 0 D zC ad cA S [.ref (ad 15), .int x1] (z, S) := by
  refine z_enter (Qc := fun A => zQi D zC ad cA A (z, S)) (by decide +kernel) (Nat.le_of_ble_eq_true rfl) (fun p e s m below meth c A C P ls hl => ?_)
  have hx := C.1
  have hb := C.2.1
  have hl : lv_has ls 2 [(0, .ref (ad 15)), (1, .int x1)] := hl
  unfold f4_at at h
  refine lv_iload_n hx hb dX4_at_0 rfl (lv_at hl 1 rfl) ?_
  refine z_if_lt (tgt := 21) hx hb dX4_at_1 (by decide) h (fun h => ?_) (fun h => ?_)
  · refine lv_ldc (v := (-1000000)) hx hb C.2.2.2.1 (C.2.2.2.2.1 _ kK4_19) dX4_at_21 ?_
    exact z_iret C P (by rw [Option.some.inj h]) dX4_at_23
  · refine lv_iload_n hx hb dX4_at_4 rfl (lv_at hl 1 rfl) ?_
    refine lv_aload_n hx hb dX4_at_5 rfl (lv_at hl 0 rfl) ?_
    refine gF4_15 C P zs15 rfl dX4_at_6 ?_
    refine z_icmp_ge (tgt := 21) hx hb dX4_at_9 (by decide) h (fun h => ?_) (fun h => ?_)
    · refine lv_ldc (v := (-1000000)) hx hb C.2.2.2.1 (C.2.2.2.2.1 _ kK4_19) dX4_at_21 ?_
      exact z_iret C P (by rw [Option.some.inj h]) dX4_at_23
    · refine lv_aload_n hx hb dX4_at_12 rfl (lv_at hl 0 rfl) ?_
      refine gF4_11 C P zs15 rfl dX4_at_13 ?_
      refine lv_iload_n hx hb dX4_at_16 rfl (lv_at hl 1 rfl) ?_
      refine z_iald C P zs16 dX4_at_17 h (fun h hi => ?_)
      refine lv_goto (tgt := 23) hx hb dX4_at_18 (by decide) ?_
      exact z_iret C P (by rw [Option.some.inj h]) dX4_at_23
theorem m6_trace {l : Launch} {D : va_G} {cA : Nat → ClassId} {ad : Nat → Nat} {x1 : Int32} {S : Zs} {z : Int32} (h : f6_trace S x1 = some z) :
    zMi l yX6_trace cX6_trace 2 1 21 D zC ad cA S [.ref (ad 0), .int x1] (z, S) := by
  refine z_enter (Qc := fun A => zQi D zC ad cA A (z, S)) (by decide +kernel) (Nat.le_of_ble_eq_true rfl) (fun p e s m below meth c A C P ls hl => ?_)
  have hx := C.1
  have hb := C.2.1
  have hl : lv_has ls 2 [(0, .ref (ad 0)), (1, .int x1)] := hl
  unfold f6_trace at h
  refine lv_aload_n hx hb dX6_trace_0 rfl (lv_at hl 0 rfl) ?_
  refine gF6_26 C P zs0 rfl dX6_trace_1 ?_
  refine lv_iload_n hx hb dX6_trace_4 rfl (lv_at hl 1 rfl) ?_
  obtain ⟨r5, g5, h⟩ := bd1_some h
  refine z_callVi C P (As := [.int x1]) (m4_at g5) cW6_261 rfl zs15 rfl (by decide) hl.1 rfl (Nat.le_of_ble_eq_true rfl) dX6_trace_5 ⟨Nat.zero_le _, Nat.zero_le _⟩ (fun H locs P => ?_)
  exact z_iret C P (by rw [Option.some.inj h]) dX6_trace_8
theorem w2_present_23 (C : zCx p s m args meth c cX2_present 3 RX2 (some .int) D ad cA A) {z : Int32} {S : Zs} {k4 : Int32 → Int32 → Option Int32} (hk4 : ∀ (x1 : Int32) (x2 : Int32) (H : Heap) (locs : List Loc) (ls : Array Slot), k4 x1 x2 = some z → zP D zC ad cA A S s H locs → lv_has ls 3 [(0, .ref (ad 1)), (1, .int x1), (2, .int x2)] → W p l e (zrm 0 0) s m args below meth c H locs 0 0 (MQ below (zQi D zC ad cA A (z, S)) args s 0 0 A) (F0 m 4 ls [])) (x1 : Int32) (x2 : Int32) (H : Heap) (locs : List Loc) (ls : Array Slot) (h : f2_present_23 S k4 x1 x2 = some z) (P : zP D zC ad cA A S s H locs) (hl : lv_has ls 3 [(0, .ref (ad 1)), (1, .int x1), (2, .int x2)]) :
    W p l e (zrm 0 0) s m args below meth c H locs 0 0 (MQ below (zQi D zC ad cA A (z, S)) args s 0 0 A) (F0 m 23 ls []) := by
  have hx := C.1
  have hb := C.2.1
  unfold f2_present_23 at h
  obtain ⟨v23, ev23, h⟩ := z_nm h
  refine lv_iinc (v := v23) (lv' := [(2, .int v23), (0, .ref (ad 1)), (1, .int x1)]) hx hb dX2_present_23 hl (k := 2) rfl (by rw [ev23]; rfl) (by decide) rfl (fun ls hl => ?_)
  refine lv_goto (tgt := 4) hx hb dX2_present_26 (by decide) ?_
  exact hk4 _ _ _ _ _ h P (lv_sub hl [1, 2, 0] rfl)
theorem w2_present_4 (C : zCx p s m args meth c cX2_present 3 RX2 (some .int) D ad cA A) {z : Int32} {S : Zs} :
    ∀ (n : Nat) (x1 : Int32) (x2 : Int32) (H : Heap) (locs : List Loc) (ls : Array Slot), f2_present_4 S n x1 x2 = some z → zP D zC ad cA A S s H locs → lv_has ls 3 [(0, .ref (ad 1)), (1, .int x1), (2, .int x2)] → W p l e (zrm 0 0) s m args below meth c H locs 0 0 (MQ below (zQi D zC ad cA A (z, S)) args s 0 0 A) (F0 m 4 ls []) := by
  have hx := C.1
  have hb := C.2.1
  intro n
  induction n with
  | zero =>
    intro x1 x2 H locs ls h
    cases h
  | succ n ih =>
    intro x1 x2 H locs ls h P hl
    unfold f2_present_4 at h
    refine lv_iload_n hx hb dX2_present_4 rfl (lv_at hl 2 rfl) ?_
    refine lv_bipush (v := 8) hx hb dX2_present_5 (by decide) ?_
    refine z_icmp_ge (tgt := 29) hx hb dX2_present_7 (by decide) h (fun h => ?_) (fun h => ?_)
    · refine lv_iload_n hx hb dX2_present_29 rfl (lv_at hl 1 rfl) ?_
      exact z_iret C P (by rw [Option.some.inj h]) dX2_present_30
    · refine lv_aload_n hx hb dX2_present_10 rfl (lv_at hl 0 rfl) ?_
      refine gF2_18 C P zs1 rfl dX2_present_11 ?_
      refine lv_iload_n hx hb dX2_present_14 rfl (lv_at hl 2 rfl) ?_
      refine z_iald C P zs12 dX2_present_15 h (fun h hi => ?_)
      refine lv_iconst (v := (-1)) hx hb dX2_present_16 (by decide) ?_
      refine z_icmp_eq (tgt := 23) hx hb dX2_present_17 (by decide) h (fun h => ?_) (fun h => ?_)
      · exact w2_present_23 C ih _ _ _ _ _ h P (lv_sub hl [0, 1, 2] rfl)
      · obtain ⟨v20, ev20, h⟩ := z_nm h
        refine lv_iinc (v := v20) (lv' := [(1, .int v20), (0, .ref (ad 1)), (2, .int x2)]) hx hb dX2_present_20 hl (k := 1) rfl (by rw [ev20]; rfl) (by decide) rfl (fun ls hl => ?_)
        exact w2_present_23 C ih _ _ _ _ _ h P (lv_sub hl [1, 0, 2] rfl)
theorem m2_present {l : Launch} {D : va_G} {cA : Nat → ClassId} {ad : Nat → Nat} {S : Zs} {z : Int32} (h : f2_present S = some z) :
    zMi l yX2_present cX2_present 3 0 0 D zC ad cA S [.ref (ad 1)] (z, S) := by
  refine z_enter (Qc := fun A => zQi D zC ad cA A (z, S)) (by decide +kernel) (Nat.le_of_ble_eq_true rfl) (fun p e s m below meth c A C P ls hl => ?_)
  have hx := C.1
  have hb := C.2.1
  have hl : lv_has ls 3 [(0, .ref (ad 1))] := hl
  unfold f2_present at h
  refine lv_iconst (v := 0) hx hb dX2_present_0 (by decide) ?_
  refine lv_istore_n (lv' := [(1, .int (0 : Int32)), (0, .ref (ad 1))]) hx hb dX2_present_1 rfl hl (by decide) rfl (fun ls hl => ?_)
  refine lv_iconst (v := 0) hx hb dX2_present_2 (by decide) ?_
  refine lv_istore_n (lv' := [(2, .int (0 : Int32)), (1, .int (0 : Int32)), (0, .ref (ad 1))]) hx hb dX2_present_3 rfl hl (by decide) rfl (fun ls hl => ?_)
  exact w2_present_4 C _ _ _ _ _ _ h P (lv_sub hl [2, 1, 0] rfl)
theorem w5_allHands_4 (C : zCx p s m args meth c cX5_allHands 3 RX5 (some .int) D ad cA A) {o : Nat} (ho : zW o) {z : Int32} {S : Zs} :
    ∀ (n : Nat) (x1 : Int32) (x2 : Int32) (H : Heap) (locs : List Loc) (ls : Array Slot), f5_allHands_4 o S n x1 x2 = some z → zP D zC ad cA A S s H locs → lv_has ls 3 [(0, .ref (ad o)), (1, .int x1), (2, .int x2)] → W p l e (zrm 0 0) s m args below meth c H locs 0 0 (MQ below (zQi D zC ad cA A (z, S)) args s 0 0 A) (F0 m 4 ls []) := by
  have hx := C.1
  have hb := C.2.1
  intro n
  induction n with
  | zero =>
    intro x1 x2 H locs ls h
    cases h
  | succ n ih =>
    intro x1 x2 H locs ls h P hl
    unfold f5_allHands_4 at h
    refine lv_iload_n hx hb dX5_allHands_4 rfl (lv_at hl 2 rfl) ?_
    refine lv_aload_n hx hb dX5_allHands_5 rfl (lv_at hl 0 rfl) ?_
    refine gF5_9 C P ho.1 rfl dX5_allHands_6 ?_
    refine z_icmp_ge (tgt := 27) hx hb dX5_allHands_9 (by decide) h (fun h => ?_) (fun h => ?_)
    · refine lv_iload_n hx hb dX5_allHands_27 rfl (lv_at hl 1 rfl) ?_
      exact z_iret C P (by rw [Option.some.inj h]) dX5_allHands_28
    · refine lv_iload_n hx hb dX5_allHands_12 rfl (lv_at hl 1 rfl) ?_
      refine lv_aload_n hx hb dX5_allHands_13 rfl (lv_at hl 0 rfl) ?_
      refine gF5_22 C P ho.1 rfl dX5_allHands_14 ?_
      refine lv_iload_n hx hb dX5_allHands_17 rfl (lv_at hl 2 rfl) ?_
      refine z_iald C P ho.2.2.1 dX5_allHands_18 h (fun h hi => ?_)
      refine lv_iadd hx hb dX5_allHands_19 ?_
      refine z_topi h (fun v20 h => ?_)
      refine lv_istore_n (lv' := [(1, .int v20), (0, .ref (ad o)), (2, .int x2)]) hx hb dX5_allHands_20 rfl hl (by decide) rfl (fun ls hl => ?_)
      obtain ⟨v21, ev21, h⟩ := z_nm h
      refine lv_iinc (v := v21) (lv' := [(2, .int v21), (1, .int v20), (0, .ref (ad o))]) hx hb dX5_allHands_21 hl (k := 2) rfl (by rw [ev21]; rfl) (by decide) rfl (fun ls hl => ?_)
      refine lv_goto (tgt := 4) hx hb dX5_allHands_24 (by decide) ?_
      exact ih _ _ _ _ _ h P (lv_sub hl [2, 1, 0] rfl)
theorem m5_allHands {l : Launch} {D : va_G} {cA : Nat → ClassId} {ad : Nat → Nat} {o : Nat} (ho : zW o) {S : Zs} {z : Int32} (h : f5_allHands o S = some z) :
    zMi l yX5_allHands cX5_allHands 3 0 0 D zC ad cA S [.ref (ad o)] (z, S) := by
  refine z_enter (Qc := fun A => zQi D zC ad cA A (z, S)) (by decide +kernel) (Nat.le_of_ble_eq_true rfl) (fun p e s m below meth c A C P ls hl => ?_)
  have hx := C.1
  have hb := C.2.1
  have hl : lv_has ls 3 [(0, .ref (ad o))] := hl
  unfold f5_allHands at h
  refine lv_iconst (v := 0) hx hb dX5_allHands_0 (by decide) ?_
  refine lv_istore_n (lv' := [(1, .int (0 : Int32)), (0, .ref (ad o))]) hx hb dX5_allHands_1 rfl hl (by decide) rfl (fun ls hl => ?_)
  refine lv_iconst (v := 0) hx hb dX5_allHands_2 (by decide) ?_
  refine lv_istore_n (lv' := [(2, .int (0 : Int32)), (1, .int (0 : Int32)), (0, .ref (ad o))]) hx hb dX5_allHands_3 rfl hl (by decide) rfl (fun ls hl => ?_)
  exact w5_allHands_4 C ho _ _ _ _ _ _ h P (lv_sub hl [2, 1, 0] rfl)
theorem w6_commonGoods_27 (C : zCx p s m args meth c cX6_commonGoods 3 RX6 (some .long) D ad cA A) {z : Int64} {S : Zs} {k4 : Int32 → Int32 → Option Int64} (hk4 : ∀ (x1 : Int32) (x2 : Int32) (H : Heap) (locs : List Loc) (ls : Array Slot), k4 x1 x2 = some z → zP D zC ad cA A S s H locs → lv_has ls 3 [(0, .ref (ad 0)), (1, .int x1), (2, .int x2)] → W p l e (zrm 3 74) s m args below meth c H locs 0 0 (MQ below (zQl D zC ad cA A (z, S)) args s 0 0 A) (F0 m 4 ls [])) (x1 : Int32) (x2 : Int32) (H : Heap) (locs : List Loc) (ls : Array Slot) (h : f6_commonGoods_27 S k4 x1 x2 = some z) (P : zP D zC ad cA A S s H locs) (hl : lv_has ls 3 [(0, .ref (ad 0)), (1, .int x1), (2, .int x2)]) :
    W p l e (zrm 3 74) s m args below meth c H locs 0 0 (MQ below (zQl D zC ad cA A (z, S)) args s 0 0 A) (F0 m 27 ls []) := by
  have hx := C.1
  have hb := C.2.1
  unfold f6_commonGoods_27 at h
  obtain ⟨v27, ev27, h⟩ := z_nm h
  refine lv_iinc (v := v27) (lv' := [(2, .int v27), (0, .ref (ad 0)), (1, .int x1)]) hx hb dX6_commonGoods_27 hl (k := 2) rfl (by rw [ev27]; rfl) (by decide) rfl (fun ls hl => ?_)
  refine lv_goto (tgt := 4) hx hb dX6_commonGoods_30 (by decide) ?_
  exact hk4 _ _ _ _ _ h P (lv_sub hl [1, 2, 0] rfl)
theorem w6_commonGoods_4 (C : zCx p s m args meth c cX6_commonGoods 3 RX6 (some .long) D ad cA A) {z : Int64} {S : Zs} :
    ∀ (n : Nat) (x1 : Int32) (x2 : Int32) (H : Heap) (locs : List Loc) (ls : Array Slot), f6_commonGoods_4 S n x1 x2 = some z → zP D zC ad cA A S s H locs → lv_has ls 3 [(0, .ref (ad 0)), (1, .int x1), (2, .int x2)] → W p l e (zrm 3 74) s m args below meth c H locs 0 0 (MQ below (zQl D zC ad cA A (z, S)) args s 0 0 A) (F0 m 4 ls []) := by
  have hx := C.1
  have hb := C.2.1
  intro n
  induction n with
  | zero =>
    intro x1 x2 H locs ls h
    cases h
  | succ n ih =>
    intro x1 x2 H locs ls h P hl
    unfold f6_commonGoods_4 at h
    refine lv_iload_n hx hb dX6_commonGoods_4 rfl (lv_at hl 2 rfl) ?_
    refine lv_aload_n hx hb dX6_commonGoods_5 rfl (lv_at hl 0 rfl) ?_
    refine gF6_47 C P zs0 rfl dX6_commonGoods_6 ?_
    refine gF6_203 C P zW_37.1 rfl dX6_commonGoods_9 ?_
    refine z_icmp_ge (tgt := 33) hx hb dX6_commonGoods_12 (by decide) h (fun h => ?_) (fun h => ?_)
    · refine lv_iload_n hx hb dX6_commonGoods_33 rfl (lv_at hl 1 rfl) ?_
      refine lv_i2l hx hb dX6_commonGoods_34 rfl ?_
      exact z_lret C P (by rw [Option.some.inj h]) dX6_commonGoods_35
    · refine lv_aload_n hx hb dX6_commonGoods_15 rfl (lv_at hl 0 rfl) ?_
      refine lv_iload_n hx hb dX6_commonGoods_16 rfl (lv_at hl 2 rfl) ?_
      refine lv_iconst (v := 2) hx hb dX6_commonGoods_17 (by decide) ?_
      obtain ⟨r18, g18, h⟩ := bd1_some h
      refine z_callVb C P (As := [.int x2, .int (2 : Int32)]) (m6_isOfKind g18) cW6_250 rfl zs0 rfl (by decide) hl.1 rfl (Nat.le_of_ble_eq_true rfl) dX6_commonGoods_18 ⟨Nat.zero_le _, Nat.zero_le _⟩ (fun H locs n18 P => ?_)
      refine z_if_eq (tgt := 27) hx hb dX6_commonGoods_21 (by decide) h (fun h => ?_) (fun h => ?_)
      · exact w6_commonGoods_27 C ih _ _ _ _ _ h P (lv_sub hl [0, 1, 2] rfl)
      · obtain ⟨v24, ev24, h⟩ := z_nm h
        refine lv_iinc (v := v24) (lv' := [(1, .int v24), (0, .ref (ad 0)), (2, .int x2)]) hx hb dX6_commonGoods_24 hl (k := 1) rfl (by rw [ev24]; rfl) (by decide) rfl (fun ls hl => ?_)
        exact w6_commonGoods_27 C ih _ _ _ _ _ h P (lv_sub hl [1, 0, 2] rfl)
theorem m6_commonGoods {l : Launch} {D : va_G} {cA : Nat → ClassId} {ad : Nat → Nat} {S : Zs} {z : Int64} (h : f6_commonGoods S = some z) :
    zMl l yX6_commonGoods cX6_commonGoods 3 3 74 D zC ad cA S [.ref (ad 0)] (z, S) := by
  refine z_enter (Qc := fun A => zQl D zC ad cA A (z, S)) (by decide +kernel) (Nat.le_of_ble_eq_true rfl) (fun p e s m below meth c A C P ls hl => ?_)
  have hx := C.1
  have hb := C.2.1
  have hl : lv_has ls 3 [(0, .ref (ad 0))] := hl
  unfold f6_commonGoods at h
  refine lv_iconst (v := 0) hx hb dX6_commonGoods_0 (by decide) ?_
  refine lv_istore_n (lv' := [(1, .int (0 : Int32)), (0, .ref (ad 0))]) hx hb dX6_commonGoods_1 rfl hl (by decide) rfl (fun ls hl => ?_)
  refine lv_iconst (v := 0) hx hb dX6_commonGoods_2 (by decide) ?_
  refine lv_istore_n (lv' := [(2, .int (0 : Int32)), (1, .int (0 : Int32)), (0, .ref (ad 0))]) hx hb dX6_commonGoods_3 rfl hl (by decide) rfl (fun ls hl => ?_)
  exact w6_commonGoods_4 C _ _ _ _ _ _ h P (lv_sub hl [2, 1, 0] rfl)
theorem m6_count {l : Launch} {D : va_G} {cA : Nat → ClassId} {ad : Nat → Nat} {x1 : Int32} {S : Zs} {z : Int64} (h : f6_count S x1 = some z) :
    zMl l yX6_count cX6_count 2 4 96 D zC ad cA S [.ref (ad 0), .int x1] (z, S) := by
  refine z_enter (Qc := fun A => zQl D zC ad cA A (z, S)) (by decide +kernel) (Nat.le_of_ble_eq_true rfl) (fun p e s m below meth c A C P ls hl => ?_)
  have hx := C.1
  have hb := C.2.1
  have hl : lv_has ls 2 [(0, .ref (ad 0)), (1, .int x1)] := hl
  unfold f6_count at h
  refine lv_iload_n hx hb dX6_count_0 rfl (lv_at hl 1 rfl) ?_
  by_cases c0 : x1 = 0
  · rw [if_pos c0] at h
    refine lv_tableIn (off := 39) (tgt := 40) hx hb dX6_count_1 (by rw [c0]; decide) (by rw [c0]; decide) (by rw [c0]; decide) (by decide) ?_
    refine lv_aload_n hx hb dX6_count_40 rfl (lv_at hl 0 rfl) ?_
    refine gF6_12 C P zs0 rfl dX6_count_41 ?_
    obtain ⟨r44, g44, h⟩ := bd1_some h
    refine z_callVi C P (As := []) (m2_present g44) cW6_264 rfl zs1 rfl (by decide) hl.1 rfl (Nat.le_of_ble_eq_true rfl) dX6_count_44 ⟨Nat.zero_le _, Nat.zero_le _⟩ (fun H locs P => ?_)
    refine lv_i2l hx hb dX6_count_47 rfl ?_
    exact z_lret C P (by rw [Option.some.inj h]) dX6_count_48
  rw [if_neg c0] at h
  by_cases c1 : x1 = 1
  · rw [if_pos c1] at h
    refine lv_tableIn (off := 48) (tgt := 49) hx hb dX6_count_1 (by rw [c1]; decide) (by rw [c1]; decide) (by rw [c1]; decide) (by decide) ?_
    refine lv_aload_n hx hb dX6_count_49 rfl (lv_at hl 0 rfl) ?_
    refine gF6_47 C P zs0 rfl dX6_count_50 ?_
    refine gF6_145 C P zW_37.1 rfl dX6_count_53 ?_
    refine lv_i2l hx hb dX6_count_56 rfl ?_
    exact z_lret C P (by rw [Option.some.inj h]) dX6_count_57
  rw [if_neg c1] at h
  by_cases c2 : x1 = 2
  · rw [if_pos c2] at h
    refine lv_tableIn (off := 57) (tgt := 58) hx hb dX6_count_1 (by rw [c2]; decide) (by rw [c2]; decide) (by rw [c2]; decide) (by decide) ?_
    refine lv_aload_n hx hb dX6_count_58 rfl (lv_at hl 0 rfl) ?_
    refine gF6_47 C P zs0 rfl dX6_count_59 ?_
    refine gF6_203 C P zW_37.1 rfl dX6_count_62 ?_
    refine lv_i2l hx hb dX6_count_65 rfl ?_
    exact z_lret C P (by rw [Option.some.inj h]) dX6_count_66
  rw [if_neg c2] at h
  by_cases c3 : x1 = 3
  · rw [if_pos c3] at h
    refine lv_tableIn (off := 66) (tgt := 67) hx hb dX6_count_1 (by rw [c3]; decide) (by rw [c3]; decide) (by rw [c3]; decide) (by decide) ?_
    refine lv_aload_n hx hb dX6_count_67 rfl (lv_at hl 0 rfl) ?_
    refine gF6_47 C P zs0 rfl dX6_count_68 ?_
    obtain ⟨r71, g71, h⟩ := bd1_some h
    refine z_callVi C P (As := []) (m5_allHands zW_37 g71) cW6_267 rfl zW_37.1 rfl (by decide) hl.1 rfl (Nat.le_of_ble_eq_true rfl) dX6_count_71 ⟨Nat.zero_le _, Nat.zero_le _⟩ (fun H locs P => ?_)
    refine lv_i2l hx hb dX6_count_74 rfl ?_
    exact z_lret C P (by rw [Option.some.inj h]) dX6_count_75
  rw [if_neg c3] at h
  by_cases c4 : x1 = 4
  · rw [if_pos c4] at h
    refine lv_tableIn (off := 75) (tgt := 76) hx hb dX6_count_1 (by rw [c4]; decide) (by rw [c4]; decide) (by rw [c4]; decide) (by decide) ?_
    refine lv_aload_n hx hb dX6_count_76 rfl (lv_at hl 0 rfl) ?_
    obtain ⟨r77, g77, h⟩ := bd1_some h
    refine z_callVl C P (As := []) (m6_commonGoods g77) cW6_270 rfl zs0 rfl (by decide) hl.1 rfl (Nat.le_of_ble_eq_true rfl) dX6_count_77 ⟨Nat.zero_le _, Nat.zero_le _⟩ (fun H locs P => ?_)
    exact z_lret C P (by rw [Option.some.inj h]) dX6_count_80
  rw [if_neg c4] at h
  by_cases c5 : x1 = 5
  · rw [if_pos c5] at h
    refine lv_tableIn (off := 80) (tgt := 81) hx hb dX6_count_1 (by rw [c5]; decide) (by rw [c5]; decide) (by rw [c5]; decide) (by decide) ?_
    refine lv_aload_n hx hb dX6_count_81 rfl (lv_at hl 0 rfl) ?_
    refine gF6_19 C P zs0 rfl dX6_count_82 ?_
    refine gF6_273 C P zs13 rfl dX6_count_85 ?_
    refine lv_i2l hx hb dX6_count_88 rfl ?_
    exact z_lret C P (by rw [Option.some.inj h]) dX6_count_89
  rw [if_neg c5] at h
  have q0 : ¬ x1.toInt = 0 := zne c0 (by decide)
  have q1 : ¬ x1.toInt = 1 := zne c1 (by decide)
  have q2 : ¬ x1.toInt = 2 := zne c2 (by decide)
  have q3 : ¬ x1.toInt = 3 := zne c3 (by decide)
  have q4 : ¬ x1.toInt = 4 := zne c4 (by decide)
  have q5 : ¬ x1.toInt = 5 := zne c5 (by decide)
  refine lv_tableOut (tgt := 90) hx hb dX6_count_1 (show x1.toInt < 0 ∨ 5 < x1.toInt by omega) (by decide) ?_
  refine lv_ldc2 (v := (-9000000000000000001)) hx hb C.2.2.2.1 (C.2.2.2.2.1 _ kK6_80) dX6_count_90 ?_
  exact z_lret C P (by rw [Option.some.inj h]) dX6_count_93
theorem m6_status {l : Launch} {D : va_G} {cA : Nat → ClassId} {ad : Nat → Nat} {S : Zs} :
    zMi l yX6_status cX6_status 1 0 0 D zC ad cA S [.ref (ad 0)] (f6_status S, S) := by
  obtain ⟨z, h⟩ : ∃ z, f6_status S = z := ⟨_, rfl⟩
  rw [h]
  refine z_enter (Qc := fun A => zQi D zC ad cA A (z, S)) (by decide +kernel) (Nat.le_of_ble_eq_true rfl) (fun p e s m below meth c A C P ls hl => ?_)
  have hx := C.1
  have hb := C.2.1
  have hl : lv_has ls 1 [(0, .ref (ad 0))] := hl
  unfold f6_status at h
  refine lv_aload_n hx hb dX6_status_0 rfl (lv_at hl 0 rfl) ?_
  refine gF6_69 C P zs0 rfl dX6_status_1 ?_
  exact z_iret C P (by rw [h]) dX6_status_4
end ZVC7
